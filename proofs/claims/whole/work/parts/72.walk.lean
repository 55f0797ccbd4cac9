/-! WorkCoderModel.reach(I)I -/
abbrev rmX4_reach : Room := { frames := 2, cells := 0, slots := 0, locals := 51 }
theorem inX4_reach_4 : ∀ w ∈ wsX40, w ∈ wsX4_reach := fun _ h => List.mem_cons_of_mem _ (List.mem_append_right _ (h))
section S_X4_reach
variable {p : Program} {l : Launch} {e : Env} {s : State} {m : MethodId} {args : Array Value} {below : List Frame} {meth : Method} {c : Code} {D : va_G} {cs : CS} {A : Nat → Prop}
set_option maxHeartbeats 4000000 in
set_option maxRecDepth 100000 in
theorem oX4_reach_23 {k : Int32 → MM → Prop} {t : Nat} (CX : CXM p s m args meth c cX4_reach 4 (some .int) "reach" RX4 wsX4_reach D cs A) : ∀ (n : Nat), ∀ (x1 : Int32) (x2 : Int32) (x3 : Int32) (σ : MM) (H : Heap) (locs : List Loc) (ls : Array Slot), wX4_reach_23 k t  n x1 x2 x3 σ → PH D cs A σ H → va_S A s.heap H locs → lv_has ls 4 [(0, .ref t), (1, .int x1), (2, .int x2), (3, .int x3)] → W p l e (headSpec wsX4_reach rmX4_reach).room s m args below meth c H locs 0 0 (MQ below (va_Qi k (mB D cs A) A) args s 0 0 A) (F0 m 23 ls []) := by
  intro n
  induction n with
  | zero => intro x1 x2 x3 σ H locs ls h; exact h.elim
  | succ n ih =>
    intro x1 x2 x3 σ H locs ls h hM hS hl
    have ⟨hx, hb, hml, hr, hnm, hown, hts, hlocks, hE⟩ := CX
    unfold wX4_reach_23 at h
    refine lv_iload_n hx hb dX4_reach_23 rfl (lv_at hl 3 rfl) ?_
    refine lv_iconst (v := 2) hx hb dX4_reach_24 (by decide) ?_
    refine lv_aload_n hx hb dX4_reach_25 rfl (lv_at hl 0 rfl) ?_
    obtain ⟨hk_1, h⟩ := h
    refine gf4_8 hx hb hts inX4_reach_4 hown hE.1 hM hk_1 (hts (.fieldLink RX4 116 "WorkCoderModel" "answers" "I") (by decide +kernel)) dX4_reach_26 ?_
    refine lv_imul hx hb dX4_reach_29 ?_
    refine lv_icmp_ge (tgt := 70) hx hb dX4_reach_30 (by decide) (fun hc => ?_) (fun hc => ?_)
    · replace h := h.1 hc
      refine lv_iload_n hx hb dX4_reach_70 rfl (lv_at hl 2 rfl) ?_
      exact W.iret (v := x2) hx hb hr (fun t_ ht hW => ⟨⟨_, _, rfl, h, mB_of ht hM⟩, hS.F ht⟩) hS.2.2 dX4_reach_71
    · replace h := h.2 hc
      refine lv_iload_n hx hb dX4_reach_33 rfl (lv_at hl 2 rfl) ?_
      refine lv_aload_n hx hb dX4_reach_34 rfl (lv_at hl 0 rfl) ?_
      refine lv_iload_n hx hb dX4_reach_35 rfl (lv_at hl 3 rfl) ?_
      refine clVi (C := RX4) (b := t) (As := [.int x3]) (rest := [.int x2]) ⟨hx, hb, hml, hown, hts⟩ hM hE hS (ok_X4_isItem l D cs A t x3 _ _ h) (cwV 1 hts gX4_reach_X4_isItem rfl rfl rfl (by decide +kernel) ⟨(Nat.le_of_ble_eq_true rfl), (Nat.le_of_ble_eq_true rfl)⟩) (rc4 hM hE.1 hk_1) rfl hl.1 rfl (Nat.le_of_ble_eq_true rfl) dX4_reach_36 ⟨(Nat.le_of_ble_eq_true rfl), (Nat.le_of_ble_eq_true rfl)⟩ (fun x_3 σ_2 H locs h1 hM hS => ?_)
      replace h := h1
      clear h1
      refine lv_if_eq (tgt := 61) hx hb dX4_reach_39 (by decide) (fun hc => ?_) (fun hc => ?_)
      · replace h := h.1 hc
        refine lv_iconst (v := 0) hx hb dX4_reach_61 (by decide) ?_
        refine lv_iadd hx hb dX4_reach_62 ?_
        refine lv_topi (fun x_4 ex_4 => ?_)
        replace h := h x_4 ex_4
        refine lv_istore_n (i := 2) (lv' := [(2, .int x_4), (0, .ref t), (1, .int x1), (3, .int x3)]) hx hb dX4_reach_63 rfl hl (by decide) rfl (fun ls hl => ?_)
        obtain ⟨x_5, ex_5⟩ : ∃ y : Int32, y = x3 + 1 := ⟨_, rfl⟩
        replace h := h x_5 ex_5
        refine lv_iinc (v := x_5) (lv' := [(3, .int x_5), (2, .int x_4), (0, .ref t), (1, .int x1)]) hx hb dX4_reach_64 hl (k := 3) rfl (by rw [ex_5]; rfl) (by decide) rfl (fun ls hl => ?_)
        refine lv_goto (tgt := 23) hx hb dX4_reach_67 (by decide) ?_
        exact ih _ _ _ _ _ _ _ h hM hS (lv_sub hl [2, 3, 1, 0] rfl)
      · replace h := h.2 hc
        refine lv_aload_n hx hb dX4_reach_42 rfl (lv_at hl 0 rfl) ?_
        refine lv_iload_n hx hb dX4_reach_43 rfl (lv_at hl 3 rfl) ?_
        refine lv_iconst (v := (-1)) hx hb dX4_reach_44 (by decide) ?_
        obtain ⟨hk_6, h⟩ := h
        refine clVi (C := RX4) (b := t) (As := [.int x3, .int (-1)]) (rest := [.int x2]) ⟨hx, hb, hml, hown, hts⟩ hM hE hS (ok_X4_byRules l D cs A t x3 (-1) _ _ h) (cwV 2 hts gX4_reach_X4_byRules rfl rfl rfl (by decide +kernel) ⟨(Nat.le_of_ble_eq_true rfl), (Nat.le_of_ble_eq_true rfl)⟩) (rc4 hM hE.1 hk_6) rfl hl.1 rfl (Nat.le_of_ble_eq_true rfl) dX4_reach_45 ⟨(Nat.le_of_ble_eq_true rfl), (Nat.le_of_ble_eq_true rfl)⟩ (fun x_8 σ_7 H locs h1 hM hS => ?_)
        replace h := h1
        clear h1
        refine lv_aload_n hx hb dX4_reach_48 rfl (lv_at hl 0 rfl) ?_
        refine lv_iload_n hx hb dX4_reach_49 rfl (lv_at hl 3 rfl) ?_
        refine lv_iload_n hx hb dX4_reach_50 rfl (lv_at hl 1 rfl) ?_
        obtain ⟨hk_9, h⟩ := h
        refine clVi (C := RX4) (b := t) (As := [.int x3, .int x1]) (rest := [.int x_8, .int x2]) ⟨hx, hb, hml, hown, hts⟩ hM hE hS (ok_X4_byRules l D cs A t x3 x1 _ _ h) (cwV 2 hts gX4_reach_X4_byRules rfl rfl rfl (by decide +kernel) ⟨(Nat.le_of_ble_eq_true rfl), (Nat.le_of_ble_eq_true rfl)⟩) (rc4 hM hE.1 hk_9) rfl hl.1 rfl (Nat.le_of_ble_eq_true rfl) dX4_reach_51 ⟨(Nat.le_of_ble_eq_true rfl), (Nat.le_of_ble_eq_true rfl)⟩ (fun x_11 σ_10 H locs h1 hM hS => ?_)
        replace h := h1
        clear h1
        refine lv_icmp_eq (tgt := 61) hx hb dX4_reach_54 (by decide) (fun hc => ?_) (fun hc => ?_)
        · replace h := h.1 hc
          refine lv_iconst (v := 0) hx hb dX4_reach_61 (by decide) ?_
          refine lv_iadd hx hb dX4_reach_62 ?_
          refine lv_topi (fun x_12 ex_12 => ?_)
          replace h := h x_12 ex_12
          refine lv_istore_n (i := 2) (lv' := [(2, .int x_12), (0, .ref t), (1, .int x1), (3, .int x3)]) hx hb dX4_reach_63 rfl hl (by decide) rfl (fun ls hl => ?_)
          obtain ⟨x_13, ex_13⟩ : ∃ y : Int32, y = x3 + 1 := ⟨_, rfl⟩
          replace h := h x_13 ex_13
          refine lv_iinc (v := x_13) (lv' := [(3, .int x_13), (2, .int x_12), (0, .ref t), (1, .int x1)]) hx hb dX4_reach_64 hl (k := 3) rfl (by rw [ex_13]; rfl) (by decide) rfl (fun ls hl => ?_)
          refine lv_goto (tgt := 23) hx hb dX4_reach_67 (by decide) ?_
          exact ih _ _ _ _ _ _ _ h hM hS (lv_sub hl [2, 3, 1, 0] rfl)
        · replace h := h.2 hc
          refine lv_iconst (v := 1) hx hb dX4_reach_57 (by decide) ?_
          refine lv_goto (tgt := 62) hx hb dX4_reach_58 (by decide) ?_
          refine lv_iadd hx hb dX4_reach_62 ?_
          refine lv_topi (fun x_14 ex_14 => ?_)
          replace h := h x_14 ex_14
          refine lv_istore_n (i := 2) (lv' := [(2, .int x_14), (0, .ref t), (1, .int x1), (3, .int x3)]) hx hb dX4_reach_63 rfl hl (by decide) rfl (fun ls hl => ?_)
          obtain ⟨x_15, ex_15⟩ : ∃ y : Int32, y = x3 + 1 := ⟨_, rfl⟩
          replace h := h x_15 ex_15
          refine lv_iinc (v := x_15) (lv' := [(3, .int x_15), (2, .int x_14), (0, .ref t), (1, .int x1)]) hx hb dX4_reach_64 hl (k := 3) rfl (by rw [ex_15]; rfl) (by decide) rfl (fun ls hl => ?_)
          refine lv_goto (tgt := 23) hx hb dX4_reach_67 (by decide) ?_
          exact ih _ _ _ _ _ _ _ h hM hS (lv_sub hl [2, 3, 1, 0] rfl)
set_option maxHeartbeats 4000000 in
set_option maxRecDepth 100000 in
theorem oX4_reach_0 {k : Int32 → MM → Prop} {t : Nat} (CX : CXM p s m args meth c cX4_reach 4 (some .int) "reach" RX4 wsX4_reach D cs A) : ∀ (x1 : Int32) (σ : MM) (H : Heap) (locs : List Loc) (ls : Array Slot), wX4_reach t x1 σ k → PH D cs A σ H → va_S A s.heap H locs → lv_has ls 4 [(0, .ref t), (1, .int x1)] → W p l e (headSpec wsX4_reach rmX4_reach).room s m args below meth c H locs 0 0 (MQ below (va_Qi k (mB D cs A) A) args s 0 0 A) (F0 m 0 ls []) := by
  intro x1 σ H locs ls h hM hS hl
  have ⟨hx, hb, hml, hr, hnm, hown, hts, hlocks, hE⟩ := CX
  unfold wX4_reach at h
  refine lv_aload_n hx hb dX4_reach_0 rfl (lv_at hl 0 rfl) ?_
  refine lv_iload_n hx hb dX4_reach_1 rfl (lv_at hl 1 rfl) ?_
  obtain ⟨hk_1, h⟩ := h
  refine clVi (C := RX4) (b := t) (As := [.int x1]) (rest := []) ⟨hx, hb, hml, hown, hts⟩ hM hE hS (ok_X4_isRule l D cs A t x1 _ _ h) (cwV 1 hts gX4_reach_X4_isRule rfl rfl rfl (by decide +kernel) ⟨(Nat.le_of_ble_eq_true rfl), (Nat.le_of_ble_eq_true rfl)⟩) (rc4 hM hE.1 hk_1) rfl hl.1 rfl (Nat.le_of_ble_eq_true rfl) dX4_reach_2 ⟨(Nat.le_of_ble_eq_true rfl), (Nat.le_of_ble_eq_true rfl)⟩ (fun x_3 σ_2 H locs h1 hM hS => ?_)
  replace h := h1
  clear h1
  refine lv_if_eq (tgt := 17) hx hb dX4_reach_5 (by decide) (fun hc => ?_) (fun hc => ?_)
  · replace h := h.1 hc
    refine lv_iconst (v := (-1)) hx hb dX4_reach_17 (by decide) ?_
    exact W.iret (v := (-1)) hx hb hr (fun t_ ht hW => ⟨⟨_, _, rfl, h, mB_of ht hM⟩, hS.F ht⟩) hS.2.2 dX4_reach_18
  · replace h := h.2 hc
    refine lv_aload_n hx hb dX4_reach_8 rfl (lv_at hl 0 rfl) ?_
    obtain ⟨hk_4, h⟩ := h
    refine gf4_24 hx hb hts inX4_reach_4 hown hE.1 hM hk_4 (hts (.fieldLink RX4 76 "WorkCoderModel" "dropped" "[Z") (by decide +kernel)) dX4_reach_9 (fun r_5 er_5 => ?_)
    replace h := h r_5 er_5
    clear er_5
    refine lv_iload_n hx hb dX4_reach_12 rfl (lv_at hl 1 rfl) ?_
    obtain ⟨a_6, rfl, h⟩ := h
    obtain ⟨hk_7, h⟩ := h
    obtain ⟨hv_8, h⟩ := h
    refine mm_zald hx hb hE.1 hM hk_7 hv_8 dX4_reach_13 ?_
    refine lv_if_eq (tgt := 19) hx hb dX4_reach_14 (by decide) (fun hc => ?_) (fun hc => ?_)
    · replace h := h.1 hc
      refine lv_iconst (v := 0) hx hb dX4_reach_19 (by decide) ?_
      refine lv_istore_n (i := 2) (lv' := [(2, .int 0), (0, .ref t), (1, .int x1)]) hx hb dX4_reach_20 rfl hl (by decide) rfl (fun ls hl => ?_)
      refine lv_iconst (v := 0) hx hb dX4_reach_21 (by decide) ?_
      refine lv_istore_n (i := 3) (lv' := [(3, .int 0), (2, .int 0), (0, .ref t), (1, .int x1)]) hx hb dX4_reach_22 rfl hl (by decide) rfl (fun ls hl => ?_)
      obtain ⟨n0, h⟩ := h
      exact oX4_reach_23 CX  n0 _ _ _ _ _ _ _ h hM hS (lv_sub hl [2, 3, 1, 0] rfl)
    · replace h := h.2 hc
      refine lv_iconst (v := (-1)) hx hb dX4_reach_17 (by decide) ?_
      exact W.iret (v := (-1)) hx hb hr (fun t_ ht hW => ⟨⟨_, _, rfl, h, mB_of ht hM⟩, hS.F ht⟩) hS.2.2 dX4_reach_18
end S_X4_reach
set_option maxHeartbeats 4000000 in
set_option maxRecDepth 100000 in
theorem ok_X4_reach (l : Launch) (D : va_G) (cs : CS) (A : Nat → Prop) (t : Nat) (x1 : Int32) (σ : MM) (k : Int32 → MM → Prop) (h : wX4_reach t x1 σ k) : Met l yX4_reach wsX4_reach rmX4_reach (va_Pc [.ref t, .int x1] (mP D cs A σ)) (va_Qi k (mB D cs A) A) 0 0 A := by
  refine Met.ofW (cc := cX4_reach) (maxL := 4) (ret := (some .int)) (by decide) rfl ?_
  intro p e s m args below meth c s₁ B hml hv
  obtain ⟨rfl, hM, hE⟩ := hv
  have CX : CXM p s m _ meth c cX4_reach 4 (some .int) "reach" RX4 wsX4_reach D cs A := ⟨B.exec, B.bytes, hml, B.returns, (name_of_methodNamed B.named B.method).1, findClass_of_methodNamed B.named, atoms_spec (ws := wsX4_reach) B.pre, B.notSynchronized, hE⟩
  have hl := lv_entry ([.ref t, .int x1]) (n := 4) (Nat.le_of_ble_eq_true rfl)
  rw [lg_entry_eq]
  exact oX4_reach_0 CX x1 σ _ _ _ h hM va_S.rf hl
/-! WorkCoderModel.gap(II)I -/
abbrev rmX4_gap : Room := { frames := 1, cells := 0, slots := 0, locals := 22 }
theorem inX4_gap_4 : ∀ w ∈ wsX40, w ∈ wsX4_gap := fun _ h => List.mem_cons_of_mem _ (List.mem_append_right _ (h))
section S_X4_gap
variable {p : Program} {l : Launch} {e : Env} {s : State} {m : MethodId} {args : Array Value} {below : List Frame} {meth : Method} {c : Code} {D : va_G} {cs : CS} {A : Nat → Prop}
set_option maxHeartbeats 4000000 in
set_option maxRecDepth 100000 in
theorem oX4_gap_0 {k : Int32 → MM → Prop} {t : Nat} (CX : CXM p s m args meth c cX4_gap 3 (some .int) "gap" RX4 wsX4_gap D cs A) : ∀ (x1 : Int32) (x2 : Int32) (σ : MM) (H : Heap) (locs : List Loc) (ls : Array Slot), wX4_gap t x1 x2 σ k → PH D cs A σ H → va_S A s.heap H locs → lv_has ls 3 [(0, .ref t), (1, .int x1), (2, .int x2)] → W p l e (headSpec wsX4_gap rmX4_gap).room s m args below meth c H locs 0 0 (MQ below (va_Qi k (mB D cs A) A) args s 0 0 A) (F0 m 0 ls []) := by
  intro x1 x2 σ H locs ls h hM hS hl
  have ⟨hx, hb, hml, hr, hnm, hown, hts, hlocks, hE⟩ := CX
  unfold wX4_gap at h
  refine lv_iload_n hx hb dX4_gap_0 rfl (lv_at hl 1 rfl) ?_
  refine lv_iconst (v := 1) hx hb dX4_gap_1 (by decide) ?_
  refine lv_sipush (v := 1000) hx hb dX4_gap_2 (by decide) ?_
  refine clSi (As := [.int x1, .int 1, .int 1000]) (rest := []) ⟨hx, hb, hml, hown, hts⟩ hM hE hS (ok_X4_in l D cs A x1 1 1000 _ _ h) (va_cwS 3 hts gX4_gap_X4_in rfl rfl rfl (by decide +kernel) ⟨(Nat.le_of_ble_eq_true rfl), (Nat.le_of_ble_eq_true rfl)⟩) rfl hl.1 rfl (Nat.le_of_ble_eq_true rfl) dX4_gap_5 ⟨(Nat.le_of_ble_eq_true rfl), (Nat.le_of_ble_eq_true rfl)⟩ (fun x_2 σ_1 H locs h1 hM hS => ?_)
  replace h := h1
  clear h1
  refine lv_if_eq (tgt := 22) hx hb dX4_gap_8 (by decide) (fun hc => ?_) (fun hc => ?_)
  · replace h := h.1 hc
    refine lv_iconst (v := (-1)) hx hb dX4_gap_22 (by decide) ?_
    exact W.iret (v := (-1)) hx hb hr (fun t_ ht hW => ⟨⟨_, _, rfl, h, mB_of ht hM⟩, hS.F ht⟩) hS.2.2 dX4_gap_23
  · replace h := h.2 hc
    refine lv_iload_n hx hb dX4_gap_11 rfl (lv_at hl 2 rfl) ?_
    refine lv_iconst (v := 0) hx hb dX4_gap_12 (by decide) ?_
    refine lv_sipush (v := 1000) hx hb dX4_gap_13 (by decide) ?_
    refine clSi (As := [.int x2, .int 0, .int 1000]) (rest := []) ⟨hx, hb, hml, hown, hts⟩ hM hE hS (ok_X4_in l D cs A x2 0 1000 _ _ h) (va_cwS 3 hts gX4_gap_X4_in rfl rfl rfl (by decide +kernel) ⟨(Nat.le_of_ble_eq_true rfl), (Nat.le_of_ble_eq_true rfl)⟩) rfl hl.1 rfl (Nat.le_of_ble_eq_true rfl) dX4_gap_16 ⟨(Nat.le_of_ble_eq_true rfl), (Nat.le_of_ble_eq_true rfl)⟩ (fun x_4 σ_3 H locs h1 hM hS => ?_)
    replace h := h1
    clear h1
    refine lv_if_ne (tgt := 24) hx hb dX4_gap_19 (by decide) (fun hc => ?_) (fun hc => ?_)
    · replace h := h.1 hc
      refine lv_aload_n hx hb dX4_gap_24 rfl (lv_at hl 0 rfl) ?_
      refine lv_iload_n hx hb dX4_gap_25 rfl (lv_at hl 1 rfl) ?_
      obtain ⟨hk_5, h⟩ := h
      refine pf4_26 hx hb hts inX4_gap_4 hown hE.1 hM hS hk_5 (hts (.fieldLink RX4 80 "WorkCoderModel" "least" "I") (by decide +kernel)) dX4_gap_26 (fun H locs hM hS => ?_)
      replace h := h _ rfl
      refine lv_aload_n hx hb dX4_gap_29 rfl (lv_at hl 0 rfl) ?_
      refine lv_iload_n hx hb dX4_gap_30 rfl (lv_at hl 2 rfl) ?_
      refine pf4_27 hx hb hts inX4_gap_4 hown hE.1 hM hS hk_5 (hts (.fieldLink RX4 83 "WorkCoderModel" "gap" "I") (by decide +kernel)) dX4_gap_31 (fun H locs hM hS => ?_)
      replace h := h _ rfl
      refine lv_iconst (v := 1) hx hb dX4_gap_34 (by decide) ?_
      exact W.iret (v := 1) hx hb hr (fun t_ ht hW => ⟨⟨_, _, rfl, h, mB_of ht hM⟩, hS.F ht⟩) hS.2.2 dX4_gap_35
    · replace h := h.2 hc
      refine lv_iconst (v := (-1)) hx hb dX4_gap_22 (by decide) ?_
      exact W.iret (v := (-1)) hx hb hr (fun t_ ht hW => ⟨⟨_, _, rfl, h, mB_of ht hM⟩, hS.F ht⟩) hS.2.2 dX4_gap_23
end S_X4_gap
set_option maxHeartbeats 4000000 in
set_option maxRecDepth 100000 in
theorem ok_X4_gap (l : Launch) (D : va_G) (cs : CS) (A : Nat → Prop) (t : Nat) (x1 : Int32) (x2 : Int32) (σ : MM) (k : Int32 → MM → Prop) (h : wX4_gap t x1 x2 σ k) : Met l yX4_gap wsX4_gap rmX4_gap (va_Pc [.ref t, .int x1, .int x2] (mP D cs A σ)) (va_Qi k (mB D cs A) A) 0 0 A := by
  refine Met.ofW (cc := cX4_gap) (maxL := 3) (ret := (some .int)) (by decide) rfl ?_
  intro p e s m args below meth c s₁ B hml hv
  obtain ⟨rfl, hM, hE⟩ := hv
  have CX : CXM p s m _ meth c cX4_gap 3 (some .int) "gap" RX4 wsX4_gap D cs A := ⟨B.exec, B.bytes, hml, B.returns, (name_of_methodNamed B.named B.method).1, findClass_of_methodNamed B.named, atoms_spec (ws := wsX4_gap) B.pre, B.notSynchronized, hE⟩
  have hl := lv_entry ([.ref t, .int x1, .int x2]) (n := 3) (Nat.le_of_ble_eq_true rfl)
  rw [lg_entry_eq]
  exact oX4_gap_0 CX x1 x2 σ _ _ _ h hM va_S.rf hl
/-! WorkCoderModel.like(II)I -/
abbrev rmX4_like : Room := { frames := 1, cells := 0, slots := 0, locals := 24 }
section S_X4_like
variable {p : Program} {l : Launch} {e : Env} {s : State} {m : MethodId} {args : Array Value} {below : List Frame} {meth : Method} {c : Code} {D : va_G} {cs : CS} {A : Nat → Prop}
set_option maxHeartbeats 4000000 in
set_option maxRecDepth 100000 in
theorem oX4_like_0 {k : Int32 → MM → Prop} {t : Nat} (CX : CXM p s m args meth c cX4_like 8 (some .int) "like" RX4 wsX4_like D cs A) : ∀ (x1 : Int32) (x2 : Int32) (σ : MM) (H : Heap) (locs : List Loc) (ls : Array Slot), wX4_like t x1 x2 σ k → PH D cs A σ H → va_S A s.heap H locs → lv_has ls 8 [(0, .ref t), (1, .int x1), (2, .int x2)] → W p l e (headSpec wsX4_like rmX4_like).room s m args below meth c H locs 0 0 (MQ below (va_Qi k (mB D cs A) A) args s 0 0 A) (F0 m 0 ls []) := by
  intro x1 x2 σ H locs ls h hM hS hl
  have ⟨hx, hb, hml, hr, hnm, hown, hts, hlocks, hE⟩ := CX
  unfold wX4_like at h
  refine lv_aload_n hx hb dX4_like_0 rfl (lv_at hl 0 rfl) ?_
  refine lv_iload_n hx hb dX4_like_1 rfl (lv_at hl 1 rfl) ?_
  obtain ⟨hk_1, h⟩ := h
  refine clVl (C := RX4) (b := t) (As := [.int x1]) (rest := []) ⟨hx, hb, hml, hown, hts⟩ hM hE hS (ok_X4_setOf l D cs A t x1 _ _ h) (cwV 1 hts gX4_like_X4_setOf rfl rfl rfl (by decide +kernel) ⟨(Nat.le_of_ble_eq_true rfl), (Nat.le_of_ble_eq_true rfl)⟩) (rc4 hM hE.1 hk_1) rfl hl.1 rfl (Nat.le_of_ble_eq_true rfl) dX4_like_2 ⟨(Nat.le_of_ble_eq_true rfl), (Nat.le_of_ble_eq_true rfl)⟩ (fun y_3 σ_2 H locs h1 hM hS => ?_)
  replace h := h1
  clear h1
  refine lv_lstore_n (i := 3) (lv' := [(3, .long y_3), (0, .ref t), (1, .int x1), (2, .int x2)]) hx hb dX4_like_5 rfl hl (by decide) rfl (fun ls hl => ?_)
  refine lv_aload_n hx hb dX4_like_6 rfl (lv_at hl 1 rfl) ?_
  refine lv_iload_n hx hb dX4_like_7 rfl (lv_at hl 3 rfl) ?_
  obtain ⟨hk_4, h⟩ := h
  refine clVl (C := RX4) (b := t) (As := [.int x2]) (rest := []) ⟨hx, hb, hml, hown, hts⟩ hM hE hS (ok_X4_setOf l D cs A t x2 _ _ h) (cwV 1 hts gX4_like_X4_setOf rfl rfl rfl (by decide +kernel) ⟨(Nat.le_of_ble_eq_true rfl), (Nat.le_of_ble_eq_true rfl)⟩) (rc4 hM hE.1 hk_4) rfl hl.1 rfl (Nat.le_of_ble_eq_true rfl) dX4_like_8 ⟨(Nat.le_of_ble_eq_true rfl), (Nat.le_of_ble_eq_true rfl)⟩ (fun y_6 σ_5 H locs h1 hM hS => ?_)
  replace h := h1
  clear h1
  refine lv_lstore (i := 5) (lv' := [(5, .long y_6), (3, .long y_3), (0, .ref t), (1, .int x1), (2, .int x2)]) hx hb dX4_like_11 hl (by decide) rfl (fun ls hl => ?_)
  refine lv_lload_n hx hb dX4_like_13 rfl (lv_at hl 1 rfl) ?_
  refine lv_lload hx hb dX4_like_14 (lv_at hl 0 rfl) ?_
  refine lv_lor hx hb dX4_like_16 ?_
  refine clSi (As := [.long (y_3 ||| y_6)]) (rest := []) ⟨hx, hb, hml, hown, hts⟩ hM hE hS (ok_X4_bits l D cs A (y_3 ||| y_6) _ _ h) (va_cwS 1 hts gX4_like_X4_bits rfl rfl rfl (by decide +kernel) ⟨(Nat.le_of_ble_eq_true rfl), (Nat.le_of_ble_eq_true rfl)⟩) rfl hl.1 rfl (Nat.le_of_ble_eq_true rfl) dX4_like_17 ⟨(Nat.le_of_ble_eq_true rfl), (Nat.le_of_ble_eq_true rfl)⟩ (fun x_8 σ_7 H locs h1 hM hS => ?_)
  replace h := h1
  clear h1
  refine lv_istore (i := 7) (lv' := [(7, .int x_8), (5, .long y_6), (3, .long y_3), (0, .ref t), (1, .int x1), (2, .int x2)]) hx hb dX4_like_20 hl (by decide) rfl (fun ls hl => ?_)
  refine lv_iload hx hb dX4_like_22 (lv_at hl 0 rfl) ?_
  refine lv_if_ne (tgt := 31) hx hb dX4_like_24 (by decide) (fun hc => ?_) (fun hc => ?_)
  · replace h := h.1 hc
    refine lv_sipush (v := 1000) hx hb dX4_like_31 (by decide) ?_
    refine lv_lload_n hx hb dX4_like_34 rfl (lv_at hl 2 rfl) ?_
    refine lv_lload hx hb dX4_like_35 (lv_at hl 1 rfl) ?_
    refine lv_land hx hb dX4_like_37 ?_
    refine clSi (As := [.long (y_3 &&& y_6)]) (rest := [.int 1000]) ⟨hx, hb, hml, hown, hts⟩ hM hE hS (ok_X4_bits l D cs A (y_3 &&& y_6) _ _ h) (va_cwS 1 hts gX4_like_X4_bits rfl rfl rfl (by decide +kernel) ⟨(Nat.le_of_ble_eq_true rfl), (Nat.le_of_ble_eq_true rfl)⟩) rfl hl.1 rfl (Nat.le_of_ble_eq_true rfl) dX4_like_38 ⟨(Nat.le_of_ble_eq_true rfl), (Nat.le_of_ble_eq_true rfl)⟩ (fun x_10 σ_9 H locs h1 hM hS => ?_)
    replace h := h1
    clear h1
    refine lv_imul hx hb dX4_like_41 ?_
    refine lv_iload hx hb dX4_like_42 (lv_at hl 0 rfl) ?_
    obtain ⟨hz_11, h⟩ := h
    refine lv_idiv hx hb dX4_like_44 hz_11 ?_
    exact W.iret (v := ((1000 : Int32) * x_10) / x_8) hx hb hr (fun t_ ht hW => ⟨⟨_, _, rfl, h, mB_of ht hM⟩, hS.F ht⟩) hS.2.2 dX4_like_45
  · replace h := h.2 hc
    refine lv_iconst (v := 0) hx hb dX4_like_27 (by decide) ?_
    refine lv_goto (tgt := 45) hx hb dX4_like_28 (by decide) ?_
    exact W.iret (v := 0) hx hb hr (fun t_ ht hW => ⟨⟨_, _, rfl, h, mB_of ht hM⟩, hS.F ht⟩) hS.2.2 dX4_like_45
end S_X4_like
set_option maxHeartbeats 4000000 in
set_option maxRecDepth 100000 in
theorem ok_X4_like (l : Launch) (D : va_G) (cs : CS) (A : Nat → Prop) (t : Nat) (x1 : Int32) (x2 : Int32) (σ : MM) (k : Int32 → MM → Prop) (h : wX4_like t x1 x2 σ k) : Met l yX4_like wsX4_like rmX4_like (va_Pc [.ref t, .int x1, .int x2] (mP D cs A σ)) (va_Qi k (mB D cs A) A) 0 0 A := by
  refine Met.ofW (cc := cX4_like) (maxL := 8) (ret := (some .int)) (by decide) rfl ?_
  intro p e s m args below meth c s₁ B hml hv
  obtain ⟨rfl, hM, hE⟩ := hv
  have CX : CXM p s m _ meth c cX4_like 8 (some .int) "like" RX4 wsX4_like D cs A := ⟨B.exec, B.bytes, hml, B.returns, (name_of_methodNamed B.named B.method).1, findClass_of_methodNamed B.named, atoms_spec (ws := wsX4_like) B.pre, B.notSynchronized, hE⟩
  have hl := lv_entry ([.ref t, .int x1, .int x2]) (n := 8) (Nat.le_of_ble_eq_true rfl)
  rw [lg_entry_eq]
  exact oX4_like_0 CX x1 x2 σ _ _ _ h hM va_S.rf hl
/-! WorkCoderModel.likeness(II)I -/
abbrev rmX4_likeness : Room := { frames := 2, cells := 0, slots := 0, locals := 51 }
section S_X4_likeness
variable {p : Program} {l : Launch} {e : Env} {s : State} {m : MethodId} {args : Array Value} {below : List Frame} {meth : Method} {c : Code} {D : va_G} {cs : CS} {A : Nat → Prop}
set_option maxHeartbeats 4000000 in
set_option maxRecDepth 100000 in
theorem oX4_likeness_0 {k : Int32 → MM → Prop} {t : Nat} (CX : CXM p s m args meth c cX4_likeness 3 (some .int) "likeness" RX4 wsX4_likeness D cs A) : ∀ (x1 : Int32) (x2 : Int32) (σ : MM) (H : Heap) (locs : List Loc) (ls : Array Slot), wX4_likeness t x1 x2 σ k → PH D cs A σ H → va_S A s.heap H locs → lv_has ls 3 [(0, .ref t), (1, .int x1), (2, .int x2)] → W p l e (headSpec wsX4_likeness rmX4_likeness).room s m args below meth c H locs 0 0 (MQ below (va_Qi k (mB D cs A) A) args s 0 0 A) (F0 m 0 ls []) := by
  intro x1 x2 σ H locs ls h hM hS hl
  have ⟨hx, hb, hml, hr, hnm, hown, hts, hlocks, hE⟩ := CX
  unfold wX4_likeness at h
  refine lv_aload_n hx hb dX4_likeness_0 rfl (lv_at hl 0 rfl) ?_
  refine lv_iload_n hx hb dX4_likeness_1 rfl (lv_at hl 1 rfl) ?_
  obtain ⟨hk_1, h⟩ := h
  refine clVi (C := RX4) (b := t) (As := [.int x1]) (rest := []) ⟨hx, hb, hml, hown, hts⟩ hM hE hS (ok_X4_isItem l D cs A t x1 _ _ h) (cwV 1 hts gX4_likeness_X4_isItem rfl rfl rfl (by decide +kernel) ⟨(Nat.le_of_ble_eq_true rfl), (Nat.le_of_ble_eq_true rfl)⟩) (rc4 hM hE.1 hk_1) rfl hl.1 rfl (Nat.le_of_ble_eq_true rfl) dX4_likeness_2 ⟨(Nat.le_of_ble_eq_true rfl), (Nat.le_of_ble_eq_true rfl)⟩ (fun x_3 σ_2 H locs h1 hM hS => ?_)
  replace h := h1
  clear h1
  refine lv_if_eq (tgt := 25) hx hb dX4_likeness_5 (by decide) (fun hc => ?_) (fun hc => ?_)
  · replace h := h.1 hc
    refine lv_iconst (v := (-1)) hx hb dX4_likeness_25 (by decide) ?_
    exact W.iret (v := (-1)) hx hb hr (fun t_ ht hW => ⟨⟨_, _, rfl, h, mB_of ht hM⟩, hS.F ht⟩) hS.2.2 dX4_likeness_26
  · replace h := h.2 hc
    refine lv_aload_n hx hb dX4_likeness_8 rfl (lv_at hl 0 rfl) ?_
    refine lv_iload_n hx hb dX4_likeness_9 rfl (lv_at hl 2 rfl) ?_
    obtain ⟨hk_4, h⟩ := h
    refine clVi (C := RX4) (b := t) (As := [.int x2]) (rest := []) ⟨hx, hb, hml, hown, hts⟩ hM hE hS (ok_X4_isItem l D cs A t x2 _ _ h) (cwV 1 hts gX4_likeness_X4_isItem rfl rfl rfl (by decide +kernel) ⟨(Nat.le_of_ble_eq_true rfl), (Nat.le_of_ble_eq_true rfl)⟩) (rc4 hM hE.1 hk_4) rfl hl.1 rfl (Nat.le_of_ble_eq_true rfl) dX4_likeness_10 ⟨(Nat.le_of_ble_eq_true rfl), (Nat.le_of_ble_eq_true rfl)⟩ (fun x_6 σ_5 H locs h1 hM hS => ?_)
    replace h := h1
    clear h1
    refine lv_if_eq (tgt := 25) hx hb dX4_likeness_13 (by decide) (fun hc => ?_) (fun hc => ?_)
    · replace h := h.1 hc
      refine lv_iconst (v := (-1)) hx hb dX4_likeness_25 (by decide) ?_
      exact W.iret (v := (-1)) hx hb hr (fun t_ ht hW => ⟨⟨_, _, rfl, h, mB_of ht hM⟩, hS.F ht⟩) hS.2.2 dX4_likeness_26
    · replace h := h.2 hc
      refine lv_aload_n hx hb dX4_likeness_16 rfl (lv_at hl 0 rfl) ?_
      refine lv_iload_n hx hb dX4_likeness_17 rfl (lv_at hl 1 rfl) ?_
      refine lv_iload_n hx hb dX4_likeness_18 rfl (lv_at hl 2 rfl) ?_
      obtain ⟨hk_7, h⟩ := h
      refine clVi (C := RX4) (b := t) (As := [.int x1, .int x2]) (rest := []) ⟨hx, hb, hml, hown, hts⟩ hM hE hS (ok_X4_like l D cs A t x1 x2 _ _ h) (cwV 2 hts gX4_likeness_X4_like rfl rfl rfl (by decide +kernel) ⟨(Nat.le_of_ble_eq_true rfl), (Nat.le_of_ble_eq_true rfl)⟩) (rc4 hM hE.1 hk_7) rfl hl.1 rfl (Nat.le_of_ble_eq_true rfl) dX4_likeness_19 ⟨(Nat.le_of_ble_eq_true rfl), (Nat.le_of_ble_eq_true rfl)⟩ (fun x_9 σ_8 H locs h1 hM hS => ?_)
      replace h := h1
      clear h1
      refine lv_goto (tgt := 26) hx hb dX4_likeness_22 (by decide) ?_
      exact W.iret (v := x_9) hx hb hr (fun t_ ht hW => ⟨⟨_, _, rfl, h, mB_of ht hM⟩, hS.F ht⟩) hS.2.2 dX4_likeness_26
end S_X4_likeness
set_option maxHeartbeats 4000000 in
set_option maxRecDepth 100000 in
theorem ok_X4_likeness (l : Launch) (D : va_G) (cs : CS) (A : Nat → Prop) (t : Nat) (x1 : Int32) (x2 : Int32) (σ : MM) (k : Int32 → MM → Prop) (h : wX4_likeness t x1 x2 σ k) : Met l yX4_likeness wsX4_likeness rmX4_likeness (va_Pc [.ref t, .int x1, .int x2] (mP D cs A σ)) (va_Qi k (mB D cs A) A) 0 0 A := by
  refine Met.ofW (cc := cX4_likeness) (maxL := 3) (ret := (some .int)) (by decide) rfl ?_
  intro p e s m args below meth c s₁ B hml hv
  obtain ⟨rfl, hM, hE⟩ := hv
  have CX : CXM p s m _ meth c cX4_likeness 3 (some .int) "likeness" RX4 wsX4_likeness D cs A := ⟨B.exec, B.bytes, hml, B.returns, (name_of_methodNamed B.named B.method).1, findClass_of_methodNamed B.named, atoms_spec (ws := wsX4_likeness) B.pre, B.notSynchronized, hE⟩
  have hl := lv_entry ([.ref t, .int x1, .int x2]) (n := 3) (Nat.le_of_ble_eq_true rfl)
  rw [lg_entry_eq]
  exact oX4_likeness_0 CX x1 x2 σ _ _ _ h hM va_S.rf hl
/-! WorkCoderModel.isExcluded(II)Z -/
abbrev rmX4_isExcluded : Room := { frames := 1, cells := 0, slots := 0, locals := 24 }
theorem inX4_isExcluded_4 : ∀ w ∈ wsX40, w ∈ wsX4_isExcluded := fun _ h => List.mem_cons_of_mem _ (List.mem_append_right _ (h))
section S_X4_isExcluded
variable {p : Program} {l : Launch} {e : Env} {s : State} {m : MethodId} {args : Array Value} {below : List Frame} {meth : Method} {c : Code} {D : va_G} {cs : CS} {A : Nat → Prop}
set_option maxHeartbeats 4000000 in
set_option maxRecDepth 100000 in
theorem oX4_isExcluded_9 {k : Int32 → MM → Prop} {t : Nat} (CX : CXM p s m args meth c cX4_isExcluded 6 (some .boolean) "isExcluded" RX4 wsX4_isExcluded D cs A) : ∀ (n : Nat), ∀ (y3 : Int64) (x5 : Int32) (σ : MM) (H : Heap) (locs : List Loc) (ls : Array Slot), wX4_isExcluded_9 k t  n y3 x5 σ → PH D cs A σ H → va_S A s.heap H locs → lv_has ls 6 [(0, .ref t), (3, .long y3), (5, .int x5)] → W p l e (headSpec wsX4_isExcluded rmX4_isExcluded).room s m args below meth c H locs 0 0 (MQ below (va_Qi k (mB D cs A) A) args s 0 0 A) (F0 m 9 ls []) := by
  intro n
  induction n with
  | zero => intro y3 x5 σ H locs ls h; exact h.elim
  | succ n ih =>
    intro y3 x5 σ H locs ls h hM hS hl
    have ⟨hx, hb, hml, hr, hnm, hown, hts, hlocks, hE⟩ := CX
    unfold wX4_isExcluded_9 at h
    refine lv_iload hx hb dX4_isExcluded_9 (lv_at hl 2 rfl) ?_
    refine lv_if_lt (tgt := 42) hx hb dX4_isExcluded_11 (by decide) (fun hc => ?_) (fun hc => ?_)
    · replace h := h.1 hc
      refine lv_iconst (v := 0) hx hb dX4_isExcluded_42 (by decide) ?_
      exact W.zret (v := 0) (ty := .boolean) hx hb hr rfl (fun t_ ht hW => ⟨⟨_, _, rfl, h, mB_of ht hM⟩, hS.F ht⟩) hS.2.2 dX4_isExcluded_43
    · replace h := h.2 hc
      refine lv_aload_n hx hb dX4_isExcluded_14 rfl (lv_at hl 0 rfl) ?_
      obtain ⟨hk_1, h⟩ := h
      refine gf4_4 hx hb hts inX4_isExcluded_4 hown hE.1 hM hk_1 (hts (.fieldLink RX4 24 "WorkCoderModel" "excluded" "[J") (by decide +kernel)) dX4_isExcluded_15 (fun r_2 er_2 => ?_)
      replace h := h r_2 er_2
      clear er_2
      refine lv_iload hx hb dX4_isExcluded_18 (lv_at hl 2 rfl) ?_
      obtain ⟨a_3, rfl, h⟩ := h
      obtain ⟨hk_4, h⟩ := h
      obtain ⟨hv_5, h⟩ := h
      refine mm_lald hx hb hE.1 hM hk_4 hv_5 dX4_isExcluded_20 ?_
      refine lv_lload_n hx hb dX4_isExcluded_21 rfl (lv_at hl 1 rfl) ?_
      refine lv_land hx hb dX4_isExcluded_22 ?_
      refine lv_lconst (v := 0) hx hb dX4_isExcluded_23 (by decide) ?_
      refine lc_eq (tgt := 30) hx hb dX4_isExcluded_24 dX4_isExcluded_25 (by decide) (fun hc => ?_) (fun hc => ?_)
      · replace h := h.1 hc
        refine lv_aload_n hx hb dX4_isExcluded_30 rfl (lv_at hl 0 rfl) ?_
        refine gf4_3 hx hb hts inX4_isExcluded_4 hown hE.1 hM hk_1 (hts (.fieldLink RX4 21 "WorkCoderModel" "above" "[I") (by decide +kernel)) dX4_isExcluded_31 (fun r_6 er_6 => ?_)
        replace h := h r_6 er_6
        clear er_6
        refine lv_iload hx hb dX4_isExcluded_34 (lv_at hl 2 rfl) ?_
        obtain ⟨a_7, rfl, h⟩ := h
        obtain ⟨hk_8, h⟩ := h
        obtain ⟨hv_9, h⟩ := h
        refine mm_iald hx hb hE.1 hM hk_8 hv_9 dX4_isExcluded_36 ?_
        refine lv_topi (fun x_10 ex_10 => ?_)
        replace h := h x_10 ex_10
        refine lv_istore (i := 5) (lv' := [(5, .int x_10), (0, .ref t), (3, .long y3)]) hx hb dX4_isExcluded_37 hl (by decide) rfl (fun ls hl => ?_)
        refine lv_goto (tgt := 9) hx hb dX4_isExcluded_39 (by decide) ?_
        exact ih _ _ _ _ _ _ h hM hS (lv_sub hl [1, 2, 0] rfl)
      · replace h := h.2 hc
        refine lv_iconst (v := 1) hx hb dX4_isExcluded_28 (by decide) ?_
        exact W.zret (v := 1) (ty := .boolean) hx hb hr rfl (fun t_ ht hW => ⟨⟨_, _, rfl, h, mB_of ht hM⟩, hS.F ht⟩) hS.2.2 dX4_isExcluded_29
set_option maxHeartbeats 4000000 in
set_option maxRecDepth 100000 in
theorem oX4_isExcluded_0 {k : Int32 → MM → Prop} {t : Nat} (CX : CXM p s m args meth c cX4_isExcluded 6 (some .boolean) "isExcluded" RX4 wsX4_isExcluded D cs A) : ∀ (x1 : Int32) (x2 : Int32) (σ : MM) (H : Heap) (locs : List Loc) (ls : Array Slot), wX4_isExcluded t x1 x2 σ k → PH D cs A σ H → va_S A s.heap H locs → lv_has ls 6 [(0, .ref t), (1, .int x1), (2, .int x2)] → W p l e (headSpec wsX4_isExcluded rmX4_isExcluded).room s m args below meth c H locs 0 0 (MQ below (va_Qi k (mB D cs A) A) args s 0 0 A) (F0 m 0 ls []) := by
  intro x1 x2 σ H locs ls h hM hS hl
  have ⟨hx, hb, hml, hr, hnm, hown, hts, hlocks, hE⟩ := CX
  unfold wX4_isExcluded at h
  refine lv_aload_n hx hb dX4_isExcluded_0 rfl (lv_at hl 0 rfl) ?_
  refine lv_iload_n hx hb dX4_isExcluded_1 rfl (lv_at hl 2 rfl) ?_
  obtain ⟨hk_1, h⟩ := h
  refine clVl (C := RX4) (b := t) (As := [.int x2]) (rest := []) ⟨hx, hb, hml, hown, hts⟩ hM hE hS (ok_X4_setOf l D cs A t x2 _ _ h) (cwV 1 hts gX4_isExcluded_X4_setOf rfl rfl rfl (by decide +kernel) ⟨(Nat.le_of_ble_eq_true rfl), (Nat.le_of_ble_eq_true rfl)⟩) (rc4 hM hE.1 hk_1) rfl hl.1 rfl (Nat.le_of_ble_eq_true rfl) dX4_isExcluded_2 ⟨(Nat.le_of_ble_eq_true rfl), (Nat.le_of_ble_eq_true rfl)⟩ (fun y_3 σ_2 H locs h1 hM hS => ?_)
  replace h := h1
  clear h1
  refine lv_lstore_n (i := 3) (lv' := [(3, .long y_3), (0, .ref t), (1, .int x1), (2, .int x2)]) hx hb dX4_isExcluded_5 rfl hl (by decide) rfl (fun ls hl => ?_)
  refine lv_iload_n hx hb dX4_isExcluded_6 rfl (lv_at hl 2 rfl) ?_
  refine lv_istore (i := 5) (lv' := [(5, .int x1), (3, .long y_3), (0, .ref t), (1, .int x1), (2, .int x2)]) hx hb dX4_isExcluded_7 hl (by decide) rfl (fun ls hl => ?_)
  obtain ⟨n0, h⟩ := h
  exact oX4_isExcluded_9 CX  n0 _ _ _ _ _ _ h hM hS (lv_sub hl [2, 1, 0] rfl)
end S_X4_isExcluded
set_option maxHeartbeats 4000000 in
set_option maxRecDepth 100000 in
theorem ok_X4_isExcluded (l : Launch) (D : va_G) (cs : CS) (A : Nat → Prop) (t : Nat) (x1 : Int32) (x2 : Int32) (σ : MM) (k : Int32 → MM → Prop) (h : wX4_isExcluded t x1 x2 σ k) : Met l yX4_isExcluded wsX4_isExcluded rmX4_isExcluded (va_Pc [.ref t, .int x1, .int x2] (mP D cs A σ)) (va_Qi k (mB D cs A) A) 0 0 A := by
  refine Met.ofW (cc := cX4_isExcluded) (maxL := 6) (ret := (some .boolean)) (by decide) rfl ?_
  intro p e s m args below meth c s₁ B hml hv
  obtain ⟨rfl, hM, hE⟩ := hv
  have CX : CXM p s m _ meth c cX4_isExcluded 6 (some .boolean) "isExcluded" RX4 wsX4_isExcluded D cs A := ⟨B.exec, B.bytes, hml, B.returns, (name_of_methodNamed B.named B.method).1, findClass_of_methodNamed B.named, atoms_spec (ws := wsX4_isExcluded) B.pre, B.notSynchronized, hE⟩
  have hl := lv_entry ([.ref t, .int x1, .int x2]) (n := 6) (Nat.le_of_ble_eq_true rfl)
  rw [lg_entry_eq]
  exact oX4_isExcluded_0 CX x1 x2 σ _ _ _ h hM va_S.rf hl
/-! WorkCoderModel.nearOf(II)I -/
abbrev rmX4_nearOf : Room := { frames := 2, cells := 0, slots := 0, locals := 51 }
theorem inX4_nearOf_4 : ∀ w ∈ wsX40, w ∈ wsX4_nearOf := fun _ h => List.mem_cons_of_mem _ (List.mem_append_right _ (h))
section S_X4_nearOf
variable {p : Program} {l : Launch} {e : Env} {s : State} {m : MethodId} {args : Array Value} {below : List Frame} {meth : Method} {c : Code} {D : va_G} {cs : CS} {A : Nat → Prop}
set_option maxHeartbeats 4000000 in
set_option maxRecDepth 100000 in
theorem oX4_nearOf_21 {k : Int32 → MM → Prop} {t : Nat} (CX : CXM p s m args meth c cX4_nearOf 6 (some .int) "nearOf" RX4 wsX4_nearOf D cs A) : ∀ (n : Nat), ∀ (x1 : Int32) (x2 : Int32) (x3 : Int32) (x4 : Int32) (σ : MM) (H : Heap) (locs : List Loc) (ls : Array Slot), wX4_nearOf_21 k t  n x1 x2 x3 x4 σ → PH D cs A σ H → va_S A s.heap H locs → lv_has ls 6 [(0, .ref t), (1, .int x1), (2, .int x2), (3, .int x3), (4, .int x4)] → W p l e (headSpec wsX4_nearOf rmX4_nearOf).room s m args below meth c H locs 0 0 (MQ below (va_Qi k (mB D cs A) A) args s 0 0 A) (F0 m 21 ls []) := by
  intro n
  induction n with
  | zero => intro x1 x2 x3 x4 σ H locs ls h; exact h.elim
  | succ n ih =>
    intro x1 x2 x3 x4 σ H locs ls h hM hS hl
    have ⟨hx, hb, hml, hr, hnm, hown, hts, hlocks, hE⟩ := CX
    unfold wX4_nearOf_21 at h
    refine lv_iload hx hb dX4_nearOf_21 (lv_at hl 4 rfl) ?_
    refine lv_iconst (v := 2) hx hb dX4_nearOf_23 (by decide) ?_
    refine lv_aload_n hx hb dX4_nearOf_24 rfl (lv_at hl 0 rfl) ?_
    obtain ⟨hk_1, h⟩ := h
    refine gf4_8 hx hb hts inX4_nearOf_4 hown hE.1 hM hk_1 (hts (.fieldLink RX4 116 "WorkCoderModel" "answers" "I") (by decide +kernel)) dX4_nearOf_25 ?_
    refine lv_imul hx hb dX4_nearOf_28 ?_
    refine lv_icmp_ge (tgt := 112) hx hb dX4_nearOf_29 (by decide) (fun hc => ?_) (fun hc => ?_)
    · replace h := h.1 hc
      refine lv_iload_n hx hb dX4_nearOf_112 rfl (lv_at hl 3 rfl) ?_
      exact W.iret (v := x3) hx hb hr (fun t_ ht hW => ⟨⟨_, _, rfl, h, mB_of ht hM⟩, hS.F ht⟩) hS.2.2 dX4_nearOf_113
    · replace h := h.2 hc
      refine lv_iload hx hb dX4_nearOf_32 (lv_at hl 4 rfl) ?_
      refine lv_iload_n hx hb dX4_nearOf_34 rfl (lv_at hl 2 rfl) ?_
      refine lv_icmp_eq (tgt := 106) hx hb dX4_nearOf_35 (by decide) (fun hc => ?_) (fun hc => ?_)
      · replace h := h.1 hc
        obtain ⟨x_2, ex_2⟩ : ∃ y : Int32, y = x4 + 1 := ⟨_, rfl⟩
        replace h := h x_2 ex_2
        refine lv_iinc (v := x_2) (lv' := [(4, .int x_2), (0, .ref t), (1, .int x1), (2, .int x2), (3, .int x3)]) hx hb dX4_nearOf_106 hl (k := 4) rfl (by rw [ex_2]; rfl) (by decide) rfl (fun ls hl => ?_)
        refine lv_goto (tgt := 21) hx hb dX4_nearOf_109 (by decide) ?_
        exact ih _ _ _ _ _ _ _ _ h hM hS (lv_sub hl [1, 2, 3, 4, 0] rfl)
      · replace h := h.2 hc
        refine lv_aload_n hx hb dX4_nearOf_38 rfl (lv_at hl 0 rfl) ?_
        refine lv_iload hx hb dX4_nearOf_39 (lv_at hl 4 rfl) ?_
        refine clVi (C := RX4) (b := t) (As := [.int x4]) (rest := []) ⟨hx, hb, hml, hown, hts⟩ hM hE hS (ok_X4_isItem l D cs A t x4 _ _ h) (cwV 1 hts gX4_nearOf_X4_isItem rfl rfl rfl (by decide +kernel) ⟨(Nat.le_of_ble_eq_true rfl), (Nat.le_of_ble_eq_true rfl)⟩) (rc4 hM hE.1 hk_1) rfl hl.1 rfl (Nat.le_of_ble_eq_true rfl) dX4_nearOf_41 ⟨(Nat.le_of_ble_eq_true rfl), (Nat.le_of_ble_eq_true rfl)⟩ (fun x_4 σ_3 H locs h1 hM hS => ?_)
        replace h := h1
        clear h1
        refine lv_if_eq (tgt := 106) hx hb dX4_nearOf_44 (by decide) (fun hc => ?_) (fun hc => ?_)
        · replace h := h.1 hc
          obtain ⟨x_5, ex_5⟩ : ∃ y : Int32, y = x4 + 1 := ⟨_, rfl⟩
          replace h := h x_5 ex_5
          refine lv_iinc (v := x_5) (lv' := [(4, .int x_5), (0, .ref t), (1, .int x1), (2, .int x2), (3, .int x3)]) hx hb dX4_nearOf_106 hl (k := 4) rfl (by rw [ex_5]; rfl) (by decide) rfl (fun ls hl => ?_)
          refine lv_goto (tgt := 21) hx hb dX4_nearOf_109 (by decide) ?_
          exact ih _ _ _ _ _ _ _ _ h hM hS (lv_sub hl [1, 2, 3, 4, 0] rfl)
        · replace h := h.2 hc
          refine lv_aload_n hx hb dX4_nearOf_47 rfl (lv_at hl 0 rfl) ?_
          obtain ⟨hk_6, h⟩ := h
          refine gf4_13 hx hb hts inX4_nearOf_4 hown hE.1 hM hk_6 (hts (.fieldLink RX4 46 "WorkCoderModel" "state" "[I") (by decide +kernel)) dX4_nearOf_48 (fun r_7 er_7 => ?_)
          replace h := h r_7 er_7
          clear er_7
          refine lv_iload hx hb dX4_nearOf_51 (lv_at hl 4 rfl) ?_
          obtain ⟨a_8, rfl, h⟩ := h
          obtain ⟨hk_9, h⟩ := h
          obtain ⟨hv_10, h⟩ := h
          refine mm_iald hx hb hE.1 hM hk_9 hv_10 dX4_nearOf_53 ?_
          refine lv_iconst (v := 1) hx hb dX4_nearOf_54 (by decide) ?_
          refine lv_icmp_ne (tgt := 106) hx hb dX4_nearOf_55 (by decide) (fun hc => ?_) (fun hc => ?_)
          · replace h := h.1 hc
            obtain ⟨x_11, ex_11⟩ : ∃ y : Int32, y = x4 + 1 := ⟨_, rfl⟩
            replace h := h x_11 ex_11
            refine lv_iinc (v := x_11) (lv' := [(4, .int x_11), (0, .ref t), (1, .int x1), (2, .int x2), (3, .int x3)]) hx hb dX4_nearOf_106 hl (k := 4) rfl (by rw [ex_11]; rfl) (by decide) rfl (fun ls hl => ?_)
            refine lv_goto (tgt := 21) hx hb dX4_nearOf_109 (by decide) ?_
            exact ih _ _ _ _ _ _ _ _ h hM hS (lv_sub hl [1, 2, 3, 4, 0] rfl)
          · replace h := h.2 hc
            refine lv_aload_n hx hb dX4_nearOf_58 rfl (lv_at hl 0 rfl) ?_
            refine gf4_14 hx hb hts inX4_nearOf_4 hown hE.1 hM hk_6 (hts (.fieldLink RX4 49 "WorkCoderModel" "codeOf" "[I") (by decide +kernel)) dX4_nearOf_59 (fun r_12 er_12 => ?_)
            replace h := h r_12 er_12
            clear er_12
            refine lv_iload hx hb dX4_nearOf_62 (lv_at hl 4 rfl) ?_
            obtain ⟨a_13, rfl, h⟩ := h
            obtain ⟨hk_14, h⟩ := h
            obtain ⟨hv_15, h⟩ := h
            refine mm_iald hx hb hE.1 hM hk_14 hv_15 dX4_nearOf_64 ?_
            refine lv_iload_n hx hb dX4_nearOf_65 rfl (lv_at hl 1 rfl) ?_
            refine lv_icmp_eq (tgt := 72) hx hb dX4_nearOf_66 (by decide) (fun hc => ?_) (fun hc => ?_)
            · replace h := h.1 hc
              refine lv_aload_n hx hb dX4_nearOf_72 rfl (lv_at hl 0 rfl) ?_
              refine lv_iload hx hb dX4_nearOf_73 (lv_at hl 4 rfl) ?_
              refine lv_iload_n hx hb dX4_nearOf_75 rfl (lv_at hl 2 rfl) ?_
              refine clVi (C := RX4) (b := t) (As := [.int x4, .int x2]) (rest := []) ⟨hx, hb, hml, hown, hts⟩ hM hE hS (ok_X4_like l D cs A t x4 x2 _ _ h) (cwV 2 hts gX4_nearOf_X4_like rfl rfl rfl (by decide +kernel) ⟨(Nat.le_of_ble_eq_true rfl), (Nat.le_of_ble_eq_true rfl)⟩) (rc4 hM hE.1 hk_6) rfl hl.1 rfl (Nat.le_of_ble_eq_true rfl) dX4_nearOf_76 ⟨(Nat.le_of_ble_eq_true rfl), (Nat.le_of_ble_eq_true rfl)⟩ (fun x_17 σ_16 H locs h1 hM hS => ?_)
              replace h := h1
              clear h1
              refine lv_istore (i := 5) (lv' := [(5, .int x_17), (0, .ref t), (1, .int x1), (2, .int x2), (3, .int x3), (4, .int x4)]) hx hb dX4_nearOf_79 hl (by decide) rfl (fun ls hl => ?_)
              refine lv_iload hx hb dX4_nearOf_81 (lv_at hl 0 rfl) ?_
              refine lv_iload_n hx hb dX4_nearOf_83 rfl (lv_at hl 4 rfl) ?_
              refine lv_icmp_le (tgt := 93) hx hb dX4_nearOf_84 (by decide) (fun hc => ?_) (fun hc => ?_)
              · replace h := h.1 hc
                refine lv_iload hx hb dX4_nearOf_93 (lv_at hl 0 rfl) ?_
                refine lv_iload_n hx hb dX4_nearOf_95 rfl (lv_at hl 4 rfl) ?_
                refine lv_icmp_le (tgt := 104) hx hb dX4_nearOf_96 (by decide) (fun hc => ?_) (fun hc => ?_)
                · replace h := h.1 hc
                  refine lv_iload_n hx hb dX4_nearOf_104 rfl (lv_at hl 4 rfl) ?_
                  refine lv_istore_n (i := 3) (lv' := [(3, .int x3), (5, .int x_17), (0, .ref t), (1, .int x1), (2, .int x2), (4, .int x4)]) hx hb dX4_nearOf_105 rfl hl (by decide) rfl (fun ls hl => ?_)
                  obtain ⟨x_18, ex_18⟩ : ∃ y : Int32, y = x4 + 1 := ⟨_, rfl⟩
                  replace h := h x_18 ex_18
                  refine lv_iinc (v := x_18) (lv' := [(4, .int x_18), (3, .int x3), (5, .int x_17), (0, .ref t), (1, .int x1), (2, .int x2)]) hx hb dX4_nearOf_106 hl (k := 5) rfl (by rw [ex_18]; rfl) (by decide) rfl (fun ls hl => ?_)
                  refine lv_goto (tgt := 21) hx hb dX4_nearOf_109 (by decide) ?_
                  exact ih _ _ _ _ _ _ _ _ h hM hS (lv_sub hl [3, 4, 5, 1, 0] rfl)
                · replace h := h.2 hc
                  refine lv_iload hx hb dX4_nearOf_99 (lv_at hl 0 rfl) ?_
                  refine lv_goto (tgt := 105) hx hb dX4_nearOf_101 (by decide) ?_
                  refine lv_istore_n (i := 3) (lv' := [(3, .int x_17), (5, .int x_17), (0, .ref t), (1, .int x1), (2, .int x2), (4, .int x4)]) hx hb dX4_nearOf_105 rfl hl (by decide) rfl (fun ls hl => ?_)
                  obtain ⟨x_19, ex_19⟩ : ∃ y : Int32, y = x4 + 1 := ⟨_, rfl⟩
                  replace h := h x_19 ex_19
                  refine lv_iinc (v := x_19) (lv' := [(4, .int x_19), (3, .int x_17), (5, .int x_17), (0, .ref t), (1, .int x1), (2, .int x2)]) hx hb dX4_nearOf_106 hl (k := 5) rfl (by rw [ex_19]; rfl) (by decide) rfl (fun ls hl => ?_)
                  refine lv_goto (tgt := 21) hx hb dX4_nearOf_109 (by decide) ?_
                  exact ih _ _ _ _ _ _ _ _ h hM hS (lv_sub hl [3, 4, 5, 1, 0] rfl)
              · replace h := h.2 hc
                refine lv_aload_n hx hb dX4_nearOf_87 rfl (lv_at hl 1 rfl) ?_
                refine lv_iload hx hb dX4_nearOf_88 (lv_at hl 5 rfl) ?_
                obtain ⟨hk_20, h⟩ := h
                refine pf4_28 hx hb hts inX4_nearOf_4 hown hE.1 hM hS hk_20 (hts (.fieldLink RX4 164 "WorkCoderModel" "nearBy" "I") (by decide +kernel)) dX4_nearOf_90 (fun H locs hM hS => ?_)
                replace h := h _ rfl
                refine lv_iload hx hb dX4_nearOf_93 (lv_at hl 0 rfl) ?_
                refine lv_iload_n hx hb dX4_nearOf_95 rfl (lv_at hl 4 rfl) ?_
                refine lv_icmp_le (tgt := 104) hx hb dX4_nearOf_96 (by decide) (fun hc => ?_) (fun hc => ?_)
                · replace h := h.1 hc
                  refine lv_iload_n hx hb dX4_nearOf_104 rfl (lv_at hl 4 rfl) ?_
                  refine lv_istore_n (i := 3) (lv' := [(3, .int x3), (5, .int x_17), (0, .ref t), (1, .int x1), (2, .int x2), (4, .int x4)]) hx hb dX4_nearOf_105 rfl hl (by decide) rfl (fun ls hl => ?_)
                  obtain ⟨x_22, ex_22⟩ : ∃ y : Int32, y = x4 + 1 := ⟨_, rfl⟩
                  replace h := h x_22 ex_22
                  refine lv_iinc (v := x_22) (lv' := [(4, .int x_22), (3, .int x3), (5, .int x_17), (0, .ref t), (1, .int x1), (2, .int x2)]) hx hb dX4_nearOf_106 hl (k := 5) rfl (by rw [ex_22]; rfl) (by decide) rfl (fun ls hl => ?_)
                  refine lv_goto (tgt := 21) hx hb dX4_nearOf_109 (by decide) ?_
                  exact ih _ _ _ _ _ _ _ _ h hM hS (lv_sub hl [3, 4, 5, 1, 0] rfl)
                · replace h := h.2 hc
                  refine lv_iload hx hb dX4_nearOf_99 (lv_at hl 0 rfl) ?_
                  refine lv_goto (tgt := 105) hx hb dX4_nearOf_101 (by decide) ?_
                  refine lv_istore_n (i := 3) (lv' := [(3, .int x_17), (5, .int x_17), (0, .ref t), (1, .int x1), (2, .int x2), (4, .int x4)]) hx hb dX4_nearOf_105 rfl hl (by decide) rfl (fun ls hl => ?_)
                  obtain ⟨x_23, ex_23⟩ : ∃ y : Int32, y = x4 + 1 := ⟨_, rfl⟩
                  replace h := h x_23 ex_23
                  refine lv_iinc (v := x_23) (lv' := [(4, .int x_23), (3, .int x_17), (5, .int x_17), (0, .ref t), (1, .int x1), (2, .int x2)]) hx hb dX4_nearOf_106 hl (k := 5) rfl (by rw [ex_23]; rfl) (by decide) rfl (fun ls hl => ?_)
                  refine lv_goto (tgt := 21) hx hb dX4_nearOf_109 (by decide) ?_
                  exact ih _ _ _ _ _ _ _ _ h hM hS (lv_sub hl [3, 4, 5, 1, 0] rfl)
            · replace h := h.2 hc
              refine lv_goto (tgt := 106) hx hb dX4_nearOf_69 (by decide) ?_
              obtain ⟨x_24, ex_24⟩ : ∃ y : Int32, y = x4 + 1 := ⟨_, rfl⟩
              replace h := h x_24 ex_24
              refine lv_iinc (v := x_24) (lv' := [(4, .int x_24), (0, .ref t), (1, .int x1), (2, .int x2), (3, .int x3)]) hx hb dX4_nearOf_106 hl (k := 4) rfl (by rw [ex_24]; rfl) (by decide) rfl (fun ls hl => ?_)
              refine lv_goto (tgt := 21) hx hb dX4_nearOf_109 (by decide) ?_
              exact ih _ _ _ _ _ _ _ _ h hM hS (lv_sub hl [1, 2, 3, 4, 0] rfl)
set_option maxHeartbeats 4000000 in
set_option maxRecDepth 100000 in
theorem oX4_nearOf_0 {k : Int32 → MM → Prop} {t : Nat} (CX : CXM p s m args meth c cX4_nearOf 6 (some .int) "nearOf" RX4 wsX4_nearOf D cs A) : ∀ (x1 : Int32) (x2 : Int32) (σ : MM) (H : Heap) (locs : List Loc) (ls : Array Slot), wX4_nearOf t x1 x2 σ k → PH D cs A σ H → va_S A s.heap H locs → lv_has ls 6 [(0, .ref t), (1, .int x1), (2, .int x2)] → W p l e (headSpec wsX4_nearOf rmX4_nearOf).room s m args below meth c H locs 0 0 (MQ below (va_Qi k (mB D cs A) A) args s 0 0 A) (F0 m 0 ls []) := by
  intro x1 x2 σ H locs ls h hM hS hl
  have ⟨hx, hb, hml, hr, hnm, hown, hts, hlocks, hE⟩ := CX
  unfold wX4_nearOf at h
  refine lv_aload_n hx hb dX4_nearOf_0 rfl (lv_at hl 0 rfl) ?_
  refine lv_iconst (v := (-1)) hx hb dX4_nearOf_1 (by decide) ?_
  obtain ⟨hk_1, h⟩ := h
  refine pf4_28 hx hb hts inX4_nearOf_4 hown hE.1 hM hS hk_1 (hts (.fieldLink RX4 164 "WorkCoderModel" "nearBy" "I") (by decide +kernel)) dX4_nearOf_2 (fun H locs hM hS => ?_)
  replace h := h _ rfl
  refine lv_aload_n hx hb dX4_nearOf_5 rfl (lv_at hl 0 rfl) ?_
  refine lv_iload_n hx hb dX4_nearOf_6 rfl (lv_at hl 1 rfl) ?_
  refine lv_iload_n hx hb dX4_nearOf_7 rfl (lv_at hl 2 rfl) ?_
  refine clVi (C := RX4) (b := t) (As := [.int x1, .int x2]) (rest := []) ⟨hx, hb, hml, hown, hts⟩ hM hE hS (ok_X4_isExcluded l D cs A t x1 x2 _ _ h) (cwV 2 hts gX4_nearOf_X4_isExcluded rfl rfl rfl (by decide +kernel) ⟨(Nat.le_of_ble_eq_true rfl), (Nat.le_of_ble_eq_true rfl)⟩) (rc4 hM hE.1 hk_1) rfl hl.1 rfl (Nat.le_of_ble_eq_true rfl) dX4_nearOf_8 ⟨(Nat.le_of_ble_eq_true rfl), (Nat.le_of_ble_eq_true rfl)⟩ (fun x_4 σ_3 H locs h1 hM hS => ?_)
  replace h := h1
  clear h1
  refine lv_if_eq (tgt := 16) hx hb dX4_nearOf_11 (by decide) (fun hc => ?_) (fun hc => ?_)
  · replace h := h.1 hc
    refine lv_iconst (v := 0) hx hb dX4_nearOf_16 (by decide) ?_
    refine lv_istore_n (i := 3) (lv' := [(3, .int 0), (0, .ref t), (1, .int x1), (2, .int x2)]) hx hb dX4_nearOf_17 rfl hl (by decide) rfl (fun ls hl => ?_)
    refine lv_iconst (v := 0) hx hb dX4_nearOf_18 (by decide) ?_
    refine lv_istore (i := 4) (lv' := [(4, .int 0), (3, .int 0), (0, .ref t), (1, .int x1), (2, .int x2)]) hx hb dX4_nearOf_19 hl (by decide) rfl (fun ls hl => ?_)
    obtain ⟨n0, h⟩ := h
    exact oX4_nearOf_21 CX  n0 _ _ _ _ _ _ _ _ h hM hS (lv_sub hl [2, 3, 4, 1, 0] rfl)
  · replace h := h.2 hc
    refine lv_iconst (v := 0) hx hb dX4_nearOf_14 (by decide) ?_
    exact W.iret (v := 0) hx hb hr (fun t_ ht hW => ⟨⟨_, _, rfl, h, mB_of ht hM⟩, hS.F ht⟩) hS.2.2 dX4_nearOf_15
end S_X4_nearOf
set_option maxHeartbeats 4000000 in
set_option maxRecDepth 100000 in
theorem ok_X4_nearOf (l : Launch) (D : va_G) (cs : CS) (A : Nat → Prop) (t : Nat) (x1 : Int32) (x2 : Int32) (σ : MM) (k : Int32 → MM → Prop) (h : wX4_nearOf t x1 x2 σ k) : Met l yX4_nearOf wsX4_nearOf rmX4_nearOf (va_Pc [.ref t, .int x1, .int x2] (mP D cs A σ)) (va_Qi k (mB D cs A) A) 0 0 A := by
  refine Met.ofW (cc := cX4_nearOf) (maxL := 6) (ret := (some .int)) (by decide) rfl ?_
  intro p e s m args below meth c s₁ B hml hv
  obtain ⟨rfl, hM, hE⟩ := hv
  have CX : CXM p s m _ meth c cX4_nearOf 6 (some .int) "nearOf" RX4 wsX4_nearOf D cs A := ⟨B.exec, B.bytes, hml, B.returns, (name_of_methodNamed B.named B.method).1, findClass_of_methodNamed B.named, atoms_spec (ws := wsX4_nearOf) B.pre, B.notSynchronized, hE⟩
  have hl := lv_entry ([.ref t, .int x1, .int x2]) (n := 6) (Nat.le_of_ble_eq_true rfl)
  rw [lg_entry_eq]
  exact oX4_nearOf_0 CX x1 x2 σ _ _ _ h hM va_S.rf hl
/-! WorkCoderModel.near(II)I -/
abbrev rmX4_near : Room := { frames := 3, cells := 0, slots := 0, locals := 76 }
section S_X4_near
variable {p : Program} {l : Launch} {e : Env} {s : State} {m : MethodId} {args : Array Value} {below : List Frame} {meth : Method} {c : Code} {D : va_G} {cs : CS} {A : Nat → Prop}
set_option maxHeartbeats 4000000 in
set_option maxRecDepth 100000 in
theorem oX4_near_0 {k : Int32 → MM → Prop} {t : Nat} (CX : CXM p s m args meth c cX4_near 3 (some .int) "near" RX4 wsX4_near D cs A) : ∀ (x1 : Int32) (x2 : Int32) (σ : MM) (H : Heap) (locs : List Loc) (ls : Array Slot), wX4_near t x1 x2 σ k → PH D cs A σ H → va_S A s.heap H locs → lv_has ls 3 [(0, .ref t), (1, .int x1), (2, .int x2)] → W p l e (headSpec wsX4_near rmX4_near).room s m args below meth c H locs 0 0 (MQ below (va_Qi k (mB D cs A) A) args s 0 0 A) (F0 m 0 ls []) := by
  intro x1 x2 σ H locs ls h hM hS hl
  have ⟨hx, hb, hml, hr, hnm, hown, hts, hlocks, hE⟩ := CX
  unfold wX4_near at h
  refine lv_aload_n hx hb dX4_near_0 rfl (lv_at hl 0 rfl) ?_
  refine lv_iload_n hx hb dX4_near_1 rfl (lv_at hl 1 rfl) ?_
  obtain ⟨hk_1, h⟩ := h
  refine clVi (C := RX4) (b := t) (As := [.int x1]) (rest := []) ⟨hx, hb, hml, hown, hts⟩ hM hE hS (ok_X4_isCode l D cs A t x1 _ _ h) (cwV 1 hts gX4_near_X4_isCode rfl rfl rfl (by decide +kernel) ⟨(Nat.le_of_ble_eq_true rfl), (Nat.le_of_ble_eq_true rfl)⟩) (rc4 hM hE.1 hk_1) rfl hl.1 rfl (Nat.le_of_ble_eq_true rfl) dX4_near_2 ⟨(Nat.le_of_ble_eq_true rfl), (Nat.le_of_ble_eq_true rfl)⟩ (fun x_3 σ_2 H locs h1 hM hS => ?_)
  replace h := h1
  clear h1
  refine lv_if_eq (tgt := 25) hx hb dX4_near_5 (by decide) (fun hc => ?_) (fun hc => ?_)
  · replace h := h.1 hc
    refine lv_iconst (v := (-1)) hx hb dX4_near_25 (by decide) ?_
    exact W.iret (v := (-1)) hx hb hr (fun t_ ht hW => ⟨⟨_, _, rfl, h, mB_of ht hM⟩, hS.F ht⟩) hS.2.2 dX4_near_26
  · replace h := h.2 hc
    refine lv_aload_n hx hb dX4_near_8 rfl (lv_at hl 0 rfl) ?_
    refine lv_iload_n hx hb dX4_near_9 rfl (lv_at hl 2 rfl) ?_
    obtain ⟨hk_4, h⟩ := h
    refine clVi (C := RX4) (b := t) (As := [.int x2]) (rest := []) ⟨hx, hb, hml, hown, hts⟩ hM hE hS (ok_X4_isItem l D cs A t x2 _ _ h) (cwV 1 hts gX4_near_X4_isItem rfl rfl rfl (by decide +kernel) ⟨(Nat.le_of_ble_eq_true rfl), (Nat.le_of_ble_eq_true rfl)⟩) (rc4 hM hE.1 hk_4) rfl hl.1 rfl (Nat.le_of_ble_eq_true rfl) dX4_near_10 ⟨(Nat.le_of_ble_eq_true rfl), (Nat.le_of_ble_eq_true rfl)⟩ (fun x_6 σ_5 H locs h1 hM hS => ?_)
    replace h := h1
    clear h1
    refine lv_if_eq (tgt := 25) hx hb dX4_near_13 (by decide) (fun hc => ?_) (fun hc => ?_)
    · replace h := h.1 hc
      refine lv_iconst (v := (-1)) hx hb dX4_near_25 (by decide) ?_
      exact W.iret (v := (-1)) hx hb hr (fun t_ ht hW => ⟨⟨_, _, rfl, h, mB_of ht hM⟩, hS.F ht⟩) hS.2.2 dX4_near_26
    · replace h := h.2 hc
      refine lv_aload_n hx hb dX4_near_16 rfl (lv_at hl 0 rfl) ?_
      refine lv_iload_n hx hb dX4_near_17 rfl (lv_at hl 1 rfl) ?_
      refine lv_iload_n hx hb dX4_near_18 rfl (lv_at hl 2 rfl) ?_
      obtain ⟨hk_7, h⟩ := h
      refine clVi (C := RX4) (b := t) (As := [.int x1, .int x2]) (rest := []) ⟨hx, hb, hml, hown, hts⟩ hM hE hS (ok_X4_nearOf l D cs A t x1 x2 _ _ h) (cwV 2 hts gX4_near_X4_nearOf rfl rfl rfl (by decide +kernel) ⟨(Nat.le_of_ble_eq_true rfl), (Nat.le_of_ble_eq_true rfl)⟩) (rc4 hM hE.1 hk_7) rfl hl.1 rfl (Nat.le_of_ble_eq_true rfl) dX4_near_19 ⟨(Nat.le_of_ble_eq_true rfl), (Nat.le_of_ble_eq_true rfl)⟩ (fun x_9 σ_8 H locs h1 hM hS => ?_)
      replace h := h1
      clear h1
      refine lv_goto (tgt := 26) hx hb dX4_near_22 (by decide) ?_
      exact W.iret (v := x_9) hx hb hr (fun t_ ht hW => ⟨⟨_, _, rfl, h, mB_of ht hM⟩, hS.F ht⟩) hS.2.2 dX4_near_26
end S_X4_near
set_option maxHeartbeats 4000000 in
set_option maxRecDepth 100000 in
theorem ok_X4_near (l : Launch) (D : va_G) (cs : CS) (A : Nat → Prop) (t : Nat) (x1 : Int32) (x2 : Int32) (σ : MM) (k : Int32 → MM → Prop) (h : wX4_near t x1 x2 σ k) : Met l yX4_near wsX4_near rmX4_near (va_Pc [.ref t, .int x1, .int x2] (mP D cs A σ)) (va_Qi k (mB D cs A) A) 0 0 A := by
  refine Met.ofW (cc := cX4_near) (maxL := 3) (ret := (some .int)) (by decide) rfl ?_
  intro p e s m args below meth c s₁ B hml hv
  obtain ⟨rfl, hM, hE⟩ := hv
  have CX : CXM p s m _ meth c cX4_near 3 (some .int) "near" RX4 wsX4_near D cs A := ⟨B.exec, B.bytes, hml, B.returns, (name_of_methodNamed B.named B.method).1, findClass_of_methodNamed B.named, atoms_spec (ws := wsX4_near) B.pre, B.notSynchronized, hE⟩
  have hl := lv_entry ([.ref t, .int x1, .int x2]) (n := 3) (Nat.le_of_ble_eq_true rfl)
  rw [lg_entry_eq]
  exact oX4_near_0 CX x1 x2 σ _ _ _ h hM va_S.rf hl
/-! WorkCoderModel.byLikeness(I)I -/
abbrev rmX4_byLikeness : Room := { frames := 3, cells := 0, slots := 0, locals := 76 }
theorem inX4_byLikeness_4 : ∀ w ∈ wsX40, w ∈ wsX4_byLikeness := fun _ h => List.mem_cons_of_mem _ (List.mem_append_right _ (h))
section S_X4_byLikeness
variable {p : Program} {l : Launch} {e : Env} {s : State} {m : MethodId} {args : Array Value} {below : List Frame} {meth : Method} {c : Code} {D : va_G} {cs : CS} {A : Nat → Prop}
set_option maxHeartbeats 4000000 in
set_option maxRecDepth 100000 in
theorem oX4_byLikeness_16 {k : Int32 → MM → Prop} {t : Nat} (CX : CXM p s m args meth c cX4_byLikeness 7 (some .int) "byLikeness" RX4 wsX4_byLikeness D cs A) : ∀ (n : Nat), ∀ (x1 : Int32) (x2 : Int32) (x3 : Int32) (x4 : Int32) (x5 : Int32) (σ : MM) (H : Heap) (locs : List Loc) (ls : Array Slot), wX4_byLikeness_16 k t  n x1 x2 x3 x4 x5 σ → PH D cs A σ H → va_S A s.heap H locs → lv_has ls 7 [(0, .ref t), (1, .int x1), (2, .int x2), (3, .int x3), (4, .int x4), (5, .int x5)] → W p l e (headSpec wsX4_byLikeness rmX4_byLikeness).room s m args below meth c H locs 0 0 (MQ below (va_Qi k (mB D cs A) A) args s 0 0 A) (F0 m 16 ls []) := by
  intro n
  induction n with
  | zero => intro x1 x2 x3 x4 x5 σ H locs ls h; exact h.elim
  | succ n ih =>
    intro x1 x2 x3 x4 x5 σ H locs ls h hM hS hl
    have ⟨hx, hb, hml, hr, hnm, hown, hts, hlocks, hE⟩ := CX
    unfold wX4_byLikeness_16 at h
    refine lv_iload hx hb dX4_byLikeness_16 (lv_at hl 5 rfl) ?_
    refine lv_aload_n hx hb dX4_byLikeness_18 rfl (lv_at hl 0 rfl) ?_
    obtain ⟨hk_1, h⟩ := h
    refine gf4_2 hx hb hts inX4_byLikeness_4 hown hE.1 hM hk_1 (hts (.fieldLink RX4 98 "WorkCoderModel" "codes" "I") (by decide +kernel)) dX4_byLikeness_19 ?_
    refine lv_icmp_ge (tgt := 77) hx hb dX4_byLikeness_22 (by decide) (fun hc => ?_) (fun hc => ?_)
    · replace h := h.1 hc
      refine lv_iload_n hx hb dX4_byLikeness_77 rfl (lv_at hl 2 rfl) ?_
      refine lv_if_lt (tgt := 104) hx hb dX4_byLikeness_78 (by decide) (fun hc => ?_) (fun hc => ?_)
      · replace h := h.1 hc
        refine lv_bipush (v := (-2)) hx hb dX4_byLikeness_104 (by decide) ?_
        exact W.iret (v := (-2)) hx hb hr (fun t_ ht hW => ⟨⟨_, _, rfl, h, mB_of ht hM⟩, hS.F ht⟩) hS.2.2 dX4_byLikeness_106
      · replace h := h.2 hc
        refine lv_iload_n hx hb dX4_byLikeness_81 rfl (lv_at hl 3 rfl) ?_
        refine lv_aload_n hx hb dX4_byLikeness_82 rfl (lv_at hl 0 rfl) ?_
        refine gf4_26 hx hb hts inX4_byLikeness_4 hown hE.1 hM hk_1 (hts (.fieldLink RX4 80 "WorkCoderModel" "least" "I") (by decide +kernel)) dX4_byLikeness_83 ?_
        refine lv_icmp_lt (tgt := 104) hx hb dX4_byLikeness_86 (by decide) (fun hc => ?_) (fun hc => ?_)
        · replace h := h.1 hc
          refine lv_bipush (v := (-2)) hx hb dX4_byLikeness_104 (by decide) ?_
          exact W.iret (v := (-2)) hx hb hr (fun t_ ht hW => ⟨⟨_, _, rfl, h, mB_of ht hM⟩, hS.F ht⟩) hS.2.2 dX4_byLikeness_106
        · replace h := h.2 hc
          refine lv_iload_n hx hb dX4_byLikeness_89 rfl (lv_at hl 3 rfl) ?_
          refine lv_iload hx hb dX4_byLikeness_90 (lv_at hl 4 rfl) ?_
          refine lv_isub hx hb dX4_byLikeness_92 ?_
          refine lv_aload_n hx hb dX4_byLikeness_93 rfl (lv_at hl 0 rfl) ?_
          refine gf4_27 hx hb hts inX4_byLikeness_4 hown hE.1 hM hk_1 (hts (.fieldLink RX4 83 "WorkCoderModel" "gap" "I") (by decide +kernel)) dX4_byLikeness_94 ?_
          refine lv_icmp_lt (tgt := 104) hx hb dX4_byLikeness_97 (by decide) (fun hc => ?_) (fun hc => ?_)
          · replace h := h.1 hc
            refine lv_bipush (v := (-2)) hx hb dX4_byLikeness_104 (by decide) ?_
            exact W.iret (v := (-2)) hx hb hr (fun t_ ht hW => ⟨⟨_, _, rfl, h, mB_of ht hM⟩, hS.F ht⟩) hS.2.2 dX4_byLikeness_106
          · replace h := h.2 hc
            refine lv_iload_n hx hb dX4_byLikeness_100 rfl (lv_at hl 2 rfl) ?_
            refine lv_goto (tgt := 106) hx hb dX4_byLikeness_101 (by decide) ?_
            exact W.iret (v := x2) hx hb hr (fun t_ ht hW => ⟨⟨_, _, rfl, h, mB_of ht hM⟩, hS.F ht⟩) hS.2.2 dX4_byLikeness_106
    · replace h := h.2 hc
      refine lv_aload_n hx hb dX4_byLikeness_25 rfl (lv_at hl 0 rfl) ?_
      refine lv_iload hx hb dX4_byLikeness_26 (lv_at hl 5 rfl) ?_
      refine lv_iload_n hx hb dX4_byLikeness_28 rfl (lv_at hl 1 rfl) ?_
      refine clVi (C := RX4) (b := t) (As := [.int x5, .int x1]) (rest := []) ⟨hx, hb, hml, hown, hts⟩ hM hE hS (ok_X4_nearOf l D cs A t x5 x1 _ _ h) (cwV 2 hts gX4_byLikeness_X4_nearOf rfl rfl rfl (by decide +kernel) ⟨(Nat.le_of_ble_eq_true rfl), (Nat.le_of_ble_eq_true rfl)⟩) (rc4 hM hE.1 hk_1) rfl hl.1 rfl (Nat.le_of_ble_eq_true rfl) dX4_byLikeness_29 ⟨(Nat.le_of_ble_eq_true rfl), (Nat.le_of_ble_eq_true rfl)⟩ (fun x_3 σ_2 H locs h1 hM hS => ?_)
      replace h := h1
      clear h1
      refine lv_istore (i := 6) (lv' := [(6, .int x_3), (0, .ref t), (1, .int x1), (2, .int x2), (3, .int x3), (4, .int x4), (5, .int x5)]) hx hb dX4_byLikeness_32 hl (by decide) rfl (fun ls hl => ?_)
      refine lv_iload hx hb dX4_byLikeness_34 (lv_at hl 0 rfl) ?_
      refine lv_iload_n hx hb dX4_byLikeness_36 rfl (lv_at hl 4 rfl) ?_
      refine lv_icmp_le (tgt := 60) hx hb dX4_byLikeness_37 (by decide) (fun hc => ?_) (fun hc => ?_)
      · replace h := h.1 hc
        refine lv_iload hx hb dX4_byLikeness_60 (lv_at hl 0 rfl) ?_
        refine lv_iload hx hb dX4_byLikeness_62 (lv_at hl 5 rfl) ?_
        refine lv_icmp_le (tgt := 71) hx hb dX4_byLikeness_64 (by decide) (fun hc => ?_) (fun hc => ?_)
        · replace h := h.1 hc
          obtain ⟨x_4, ex_4⟩ : ∃ y : Int32, y = x5 + 1 := ⟨_, rfl⟩
          replace h := h x_4 ex_4
          refine lv_iinc (v := x_4) (lv' := [(5, .int x_4), (6, .int x_3), (0, .ref t), (1, .int x1), (2, .int x2), (3, .int x3), (4, .int x4)]) hx hb dX4_byLikeness_71 hl (k := 6) rfl (by rw [ex_4]; rfl) (by decide) rfl (fun ls hl => ?_)
          refine lv_goto (tgt := 16) hx hb dX4_byLikeness_74 (by decide) ?_
          exact ih _ _ _ _ _ _ _ _ _ h hM hS (lv_sub hl [2, 3, 4, 5, 6, 0] rfl)
        · replace h := h.2 hc
          refine lv_iload hx hb dX4_byLikeness_67 (lv_at hl 0 rfl) ?_
          refine lv_istore (i := 4) (lv' := [(4, .int x_3), (6, .int x_3), (0, .ref t), (1, .int x1), (2, .int x2), (3, .int x3), (5, .int x5)]) hx hb dX4_byLikeness_69 hl (by decide) rfl (fun ls hl => ?_)
          obtain ⟨x_5, ex_5⟩ : ∃ y : Int32, y = x5 + 1 := ⟨_, rfl⟩
          replace h := h x_5 ex_5
          refine lv_iinc (v := x_5) (lv' := [(5, .int x_5), (4, .int x_3), (6, .int x_3), (0, .ref t), (1, .int x1), (2, .int x2), (3, .int x3)]) hx hb dX4_byLikeness_71 hl (k := 6) rfl (by rw [ex_5]; rfl) (by decide) rfl (fun ls hl => ?_)
          refine lv_goto (tgt := 16) hx hb dX4_byLikeness_74 (by decide) ?_
          exact ih _ _ _ _ _ _ _ _ _ h hM hS (lv_sub hl [3, 4, 5, 6, 1, 0] rfl)
      · replace h := h.2 hc
        refine lv_iload_n hx hb dX4_byLikeness_40 rfl (lv_at hl 4 rfl) ?_
        refine lv_istore (i := 4) (lv' := [(4, .int x3), (6, .int x_3), (0, .ref t), (1, .int x1), (2, .int x2), (3, .int x3), (5, .int x5)]) hx hb dX4_byLikeness_41 hl (by decide) rfl (fun ls hl => ?_)
        refine lv_iload hx hb dX4_byLikeness_43 (lv_at hl 1 rfl) ?_
        refine lv_istore_n (i := 3) (lv' := [(3, .int x_3), (4, .int x3), (6, .int x_3), (0, .ref t), (1, .int x1), (2, .int x2), (5, .int x5)]) hx hb dX4_byLikeness_45 rfl hl (by decide) rfl (fun ls hl => ?_)
        refine lv_iload hx hb dX4_byLikeness_46 (lv_at hl 6 rfl) ?_
        refine lv_istore_n (i := 2) (lv' := [(2, .int x5), (3, .int x_3), (4, .int x3), (6, .int x_3), (0, .ref t), (1, .int x1), (5, .int x5)]) hx hb dX4_byLikeness_48 rfl hl (by decide) rfl (fun ls hl => ?_)
        refine lv_aload_n hx hb dX4_byLikeness_49 rfl (lv_at hl 4 rfl) ?_
        refine lv_aload_n hx hb dX4_byLikeness_50 rfl (lv_at hl 4 rfl) ?_
        obtain ⟨hk_6, h⟩ := h
        refine gf4_28 hx hb hts inX4_byLikeness_4 hown hE.1 hM hk_6 (hts (.fieldLink RX4 164 "WorkCoderModel" "nearBy" "I") (by decide +kernel)) dX4_byLikeness_51 ?_
        refine pf4_29 hx hb hts inX4_byLikeness_4 hown hE.1 hM hS hk_6 (hts (.fieldLink RX4 173 "WorkCoderModel" "likedBy" "I") (by decide +kernel)) dX4_byLikeness_54 (fun H locs hM hS => ?_)
        replace h := h _ rfl
        refine lv_goto (tgt := 71) hx hb dX4_byLikeness_57 (by decide) ?_
        obtain ⟨x_8, ex_8⟩ : ∃ y : Int32, y = x5 + 1 := ⟨_, rfl⟩
        replace h := h x_8 ex_8
        refine lv_iinc (v := x_8) (lv' := [(5, .int x_8), (2, .int x5), (3, .int x_3), (4, .int x3), (6, .int x_3), (0, .ref t), (1, .int x1)]) hx hb dX4_byLikeness_71 hl (k := 6) rfl (by rw [ex_8]; rfl) (by decide) rfl (fun ls hl => ?_)
        refine lv_goto (tgt := 16) hx hb dX4_byLikeness_74 (by decide) ?_
        exact ih _ _ _ _ _ _ _ _ _ h hM hS (lv_sub hl [5, 6, 1, 2, 3, 0] rfl)
set_option maxHeartbeats 4000000 in
set_option maxRecDepth 100000 in
theorem oX4_byLikeness_0 {k : Int32 → MM → Prop} {t : Nat} (CX : CXM p s m args meth c cX4_byLikeness 7 (some .int) "byLikeness" RX4 wsX4_byLikeness D cs A) : ∀ (x1 : Int32) (σ : MM) (H : Heap) (locs : List Loc) (ls : Array Slot), wX4_byLikeness t x1 σ k → PH D cs A σ H → va_S A s.heap H locs → lv_has ls 7 [(0, .ref t), (1, .int x1)] → W p l e (headSpec wsX4_byLikeness rmX4_byLikeness).room s m args below meth c H locs 0 0 (MQ below (va_Qi k (mB D cs A) A) args s 0 0 A) (F0 m 0 ls []) := by
  intro x1 σ H locs ls h hM hS hl
  have ⟨hx, hb, hml, hr, hnm, hown, hts, hlocks, hE⟩ := CX
  unfold wX4_byLikeness at h
  refine lv_bipush (v := (-2)) hx hb dX4_byLikeness_0 (by decide) ?_
  refine lv_istore_n (i := 2) (lv' := [(2, .int (-2)), (0, .ref t), (1, .int x1)]) hx hb dX4_byLikeness_2 rfl hl (by decide) rfl (fun ls hl => ?_)
  refine lv_iconst (v := 0) hx hb dX4_byLikeness_3 (by decide) ?_
  refine lv_istore_n (i := 3) (lv' := [(3, .int 0), (2, .int (-2)), (0, .ref t), (1, .int x1)]) hx hb dX4_byLikeness_4 rfl hl (by decide) rfl (fun ls hl => ?_)
  refine lv_iconst (v := 0) hx hb dX4_byLikeness_5 (by decide) ?_
  refine lv_istore (i := 4) (lv' := [(4, .int 0), (3, .int 0), (2, .int (-2)), (0, .ref t), (1, .int x1)]) hx hb dX4_byLikeness_6 hl (by decide) rfl (fun ls hl => ?_)
  refine lv_aload_n hx hb dX4_byLikeness_8 rfl (lv_at hl 3 rfl) ?_
  refine lv_iconst (v := (-1)) hx hb dX4_byLikeness_9 (by decide) ?_
  obtain ⟨hk_1, h⟩ := h
  refine pf4_29 hx hb hts inX4_byLikeness_4 hown hE.1 hM hS hk_1 (hts (.fieldLink RX4 173 "WorkCoderModel" "likedBy" "I") (by decide +kernel)) dX4_byLikeness_10 (fun H locs hM hS => ?_)
  replace h := h _ rfl
  refine lv_iconst (v := 0) hx hb dX4_byLikeness_13 (by decide) ?_
  refine lv_istore (i := 5) (lv' := [(5, .int 0), (4, .int 0), (3, .int 0), (2, .int (-2)), (0, .ref t), (1, .int x1)]) hx hb dX4_byLikeness_14 hl (by decide) rfl (fun ls hl => ?_)
  obtain ⟨n0, h⟩ := h
  exact oX4_byLikeness_16 CX  n0 _ _ _ _ _ _ _ _ _ h hM hS (lv_sub hl [4, 5, 3, 2, 1, 0] rfl)
end S_X4_byLikeness
set_option maxHeartbeats 4000000 in
set_option maxRecDepth 100000 in
theorem ok_X4_byLikeness (l : Launch) (D : va_G) (cs : CS) (A : Nat → Prop) (t : Nat) (x1 : Int32) (σ : MM) (k : Int32 → MM → Prop) (h : wX4_byLikeness t x1 σ k) : Met l yX4_byLikeness wsX4_byLikeness rmX4_byLikeness (va_Pc [.ref t, .int x1] (mP D cs A σ)) (va_Qi k (mB D cs A) A) 0 0 A := by
  refine Met.ofW (cc := cX4_byLikeness) (maxL := 7) (ret := (some .int)) (by decide) rfl ?_
  intro p e s m args below meth c s₁ B hml hv
  obtain ⟨rfl, hM, hE⟩ := hv
  have CX : CXM p s m _ meth c cX4_byLikeness 7 (some .int) "byLikeness" RX4 wsX4_byLikeness D cs A := ⟨B.exec, B.bytes, hml, B.returns, (name_of_methodNamed B.named B.method).1, findClass_of_methodNamed B.named, atoms_spec (ws := wsX4_byLikeness) B.pre, B.notSynchronized, hE⟩
  have hl := lv_entry ([.ref t, .int x1]) (n := 7) (Nat.le_of_ble_eq_true rfl)
  rw [lg_entry_eq]
  exact oX4_byLikeness_0 CX x1 σ _ _ _ h hM va_S.rf hl
/-! WorkCoderModel.liked(I)I -/
abbrev rmX4_liked : Room := { frames := 4, cells := 0, slots := 0, locals := 102 }
section S_X4_liked
variable {p : Program} {l : Launch} {e : Env} {s : State} {m : MethodId} {args : Array Value} {below : List Frame} {meth : Method} {c : Code} {D : va_G} {cs : CS} {A : Nat → Prop}
set_option maxHeartbeats 4000000 in
set_option maxRecDepth 100000 in
theorem oX4_liked_0 {k : Int32 → MM → Prop} {t : Nat} (CX : CXM p s m args meth c cX4_liked 2 (some .int) "liked" RX4 wsX4_liked D cs A) : ∀ (x1 : Int32) (σ : MM) (H : Heap) (locs : List Loc) (ls : Array Slot), wX4_liked t x1 σ k → PH D cs A σ H → va_S A s.heap H locs → lv_has ls 2 [(0, .ref t), (1, .int x1)] → W p l e (headSpec wsX4_liked rmX4_liked).room s m args below meth c H locs 0 0 (MQ below (va_Qi k (mB D cs A) A) args s 0 0 A) (F0 m 0 ls []) := by
  intro x1 σ H locs ls h hM hS hl
  have ⟨hx, hb, hml, hr, hnm, hown, hts, hlocks, hE⟩ := CX
  unfold wX4_liked at h
  refine lv_aload_n hx hb dX4_liked_0 rfl (lv_at hl 0 rfl) ?_
  refine lv_iload_n hx hb dX4_liked_1 rfl (lv_at hl 1 rfl) ?_
  obtain ⟨hk_1, h⟩ := h
  refine clVi (C := RX4) (b := t) (As := [.int x1]) (rest := []) ⟨hx, hb, hml, hown, hts⟩ hM hE hS (ok_X4_isItem l D cs A t x1 _ _ h) (cwV 1 hts gX4_liked_X4_isItem rfl rfl rfl (by decide +kernel) ⟨(Nat.le_of_ble_eq_true rfl), (Nat.le_of_ble_eq_true rfl)⟩) (rc4 hM hE.1 hk_1) rfl hl.1 rfl (Nat.le_of_ble_eq_true rfl) dX4_liked_2 ⟨(Nat.le_of_ble_eq_true rfl), (Nat.le_of_ble_eq_true rfl)⟩ (fun x_3 σ_2 H locs h1 hM hS => ?_)
  replace h := h1
  clear h1
  refine lv_if_eq (tgt := 16) hx hb dX4_liked_5 (by decide) (fun hc => ?_) (fun hc => ?_)
  · replace h := h.1 hc
    refine lv_iconst (v := (-1)) hx hb dX4_liked_16 (by decide) ?_
    exact W.iret (v := (-1)) hx hb hr (fun t_ ht hW => ⟨⟨_, _, rfl, h, mB_of ht hM⟩, hS.F ht⟩) hS.2.2 dX4_liked_17
  · replace h := h.2 hc
    refine lv_aload_n hx hb dX4_liked_8 rfl (lv_at hl 0 rfl) ?_
    refine lv_iload_n hx hb dX4_liked_9 rfl (lv_at hl 1 rfl) ?_
    obtain ⟨hk_4, h⟩ := h
    refine clVi (C := RX4) (b := t) (As := [.int x1]) (rest := []) ⟨hx, hb, hml, hown, hts⟩ hM hE hS (ok_X4_byLikeness l D cs A t x1 _ _ h) (cwV 1 hts gX4_liked_X4_byLikeness rfl rfl rfl (by decide +kernel) ⟨(Nat.le_of_ble_eq_true rfl), (Nat.le_of_ble_eq_true rfl)⟩) (rc4 hM hE.1 hk_4) rfl hl.1 rfl (Nat.le_of_ble_eq_true rfl) dX4_liked_10 ⟨(Nat.le_of_ble_eq_true rfl), (Nat.le_of_ble_eq_true rfl)⟩ (fun x_6 σ_5 H locs h1 hM hS => ?_)
    replace h := h1
    clear h1
    refine lv_goto (tgt := 17) hx hb dX4_liked_13 (by decide) ?_
    exact W.iret (v := x_6) hx hb hr (fun t_ ht hW => ⟨⟨_, _, rfl, h, mB_of ht hM⟩, hS.F ht⟩) hS.2.2 dX4_liked_17
end S_X4_liked
set_option maxHeartbeats 4000000 in
set_option maxRecDepth 100000 in
theorem ok_X4_liked (l : Launch) (D : va_G) (cs : CS) (A : Nat → Prop) (t : Nat) (x1 : Int32) (σ : MM) (k : Int32 → MM → Prop) (h : wX4_liked t x1 σ k) : Met l yX4_liked wsX4_liked rmX4_liked (va_Pc [.ref t, .int x1] (mP D cs A σ)) (va_Qi k (mB D cs A) A) 0 0 A := by
  refine Met.ofW (cc := cX4_liked) (maxL := 2) (ret := (some .int)) (by decide) rfl ?_
  intro p e s m args below meth c s₁ B hml hv
  obtain ⟨rfl, hM, hE⟩ := hv
  have CX : CXM p s m _ meth c cX4_liked 2 (some .int) "liked" RX4 wsX4_liked D cs A := ⟨B.exec, B.bytes, hml, B.returns, (name_of_methodNamed B.named B.method).1, findClass_of_methodNamed B.named, atoms_spec (ws := wsX4_liked) B.pre, B.notSynchronized, hE⟩
  have hl := lv_entry ([.ref t, .int x1]) (n := 2) (Nat.le_of_ble_eq_true rfl)
  rw [lg_entry_eq]
  exact oX4_liked_0 CX x1 σ _ _ _ h hM va_S.rf hl
/-! WorkCoderModel.become(IIII)V -/
abbrev rmX4_become : Room := { frames := 0, cells := 0, slots := 0, locals := 0 }
theorem inX4_become_4 : ∀ w ∈ wsX40, w ∈ wsX4_become := fun _ h => List.mem_cons_of_mem _ (List.mem_append_right _ (h))
section S_X4_become
variable {p : Program} {l : Launch} {e : Env} {s : State} {m : MethodId} {args : Array Value} {below : List Frame} {meth : Method} {c : Code} {D : va_G} {cs : CS} {A : Nat → Prop}
set_option maxHeartbeats 4000000 in
set_option maxRecDepth 100000 in
theorem oX4_become_0 {k : MM → Prop} {t : Nat} (CX : CXM p s m args meth c cX4_become 5 none "become" RX4 wsX4_become D cs A) : ∀ (x1 : Int32) (x2 : Int32) (x3 : Int32) (x4 : Int32) (σ : MM) (H : Heap) (locs : List Loc) (ls : Array Slot), wX4_become t x1 x2 x3 x4 σ k → PH D cs A σ H → va_S A s.heap H locs → lv_has ls 5 [(0, .ref t), (1, .int x1), (2, .int x2), (3, .int x3), (4, .int x4)] → W p l e (headSpec wsX4_become rmX4_become).room s m args below meth c H locs 0 0 (MQ below (va_Qv k (mB D cs A) A) args s 0 0 A) (F0 m 0 ls []) := by
  intro x1 x2 x3 x4 σ H locs ls h hM hS hl
  have ⟨hx, hb, hml, hr, hnm, hown, hts, hlocks, hE⟩ := CX
  unfold wX4_become at h
  refine lv_aload_n hx hb dX4_become_0 rfl (lv_at hl 0 rfl) ?_
  obtain ⟨hk_1, h⟩ := h
  refine gf4_13 hx hb hts inX4_become_4 hown hE.1 hM hk_1 (hts (.fieldLink RX4 46 "WorkCoderModel" "state" "[I") (by decide +kernel)) dX4_become_1 (fun r_2 er_2 => ?_)
  replace h := h r_2 er_2
  clear er_2
  refine lv_iload_n hx hb dX4_become_4 rfl (lv_at hl 1 rfl) ?_
  refine lv_iconst (v := 1) hx hb dX4_become_5 (by decide) ?_
  obtain ⟨a_3, rfl, h⟩ := h
  obtain ⟨hk_4, h⟩ := h
  obtain ⟨hv_5, h⟩ := h
  refine mm_iast hx hb hE.1 hM hS hk_4 hv_5 dX4_become_6 (fun H locs hM hS => ?_)
  replace h := h _ rfl
  refine lv_aload_n hx hb dX4_become_7 rfl (lv_at hl 0 rfl) ?_
  refine gf4_14 hx hb hts inX4_become_4 hown hE.1 hM hk_1 (hts (.fieldLink RX4 49 "WorkCoderModel" "codeOf" "[I") (by decide +kernel)) dX4_become_8 (fun r_7 er_7 => ?_)
  replace h := h r_7 er_7
  clear er_7
  refine lv_iload_n hx hb dX4_become_11 rfl (lv_at hl 1 rfl) ?_
  refine lv_iload_n hx hb dX4_become_12 rfl (lv_at hl 2 rfl) ?_
  obtain ⟨a_8, rfl, h⟩ := h
  obtain ⟨hk_9, h⟩ := h
  obtain ⟨hv_10, h⟩ := h
  refine mm_iast hx hb hE.1 hM hS hk_9 hv_10 dX4_become_13 (fun H locs hM hS => ?_)
  replace h := h _ rfl
  refine lv_aload_n hx hb dX4_become_14 rfl (lv_at hl 0 rfl) ?_
  refine gf4_15 hx hb hts inX4_become_4 hown hE.1 hM hk_1 (hts (.fieldLink RX4 52 "WorkCoderModel" "byWhat" "[I") (by decide +kernel)) dX4_become_15 (fun r_12 er_12 => ?_)
  replace h := h r_12 er_12
  clear er_12
  refine lv_iload_n hx hb dX4_become_18 rfl (lv_at hl 1 rfl) ?_
  refine lv_iload_n hx hb dX4_become_19 rfl (lv_at hl 3 rfl) ?_
  obtain ⟨a_13, rfl, h⟩ := h
  obtain ⟨hk_14, h⟩ := h
  obtain ⟨hv_15, h⟩ := h
  refine mm_iast hx hb hE.1 hM hS hk_14 hv_15 dX4_become_20 (fun H locs hM hS => ?_)
  replace h := h _ rfl
  refine lv_aload_n hx hb dX4_become_21 rfl (lv_at hl 0 rfl) ?_
  refine gf4_16 hx hb hts inX4_become_4 hown hE.1 hM hk_1 (hts (.fieldLink RX4 55 "WorkCoderModel" "byNumber" "[I") (by decide +kernel)) dX4_become_22 (fun r_17 er_17 => ?_)
  replace h := h r_17 er_17
  clear er_17
  refine lv_iload_n hx hb dX4_become_25 rfl (lv_at hl 1 rfl) ?_
  refine lv_iload hx hb dX4_become_26 (lv_at hl 4 rfl) ?_
  obtain ⟨a_18, rfl, h⟩ := h
  obtain ⟨hk_19, h⟩ := h
  obtain ⟨hv_20, h⟩ := h
  refine mm_iast hx hb hE.1 hM hS hk_19 hv_20 dX4_become_28 (fun H locs hM hS => ?_)
  replace h := h _ rfl
  refine lv_aload_n hx hb dX4_become_29 rfl (lv_at hl 0 rfl) ?_
  refine gf4_17 hx hb hts inX4_become_4 hown hE.1 hM hk_1 (hts (.fieldLink RX4 58 "WorkCoderModel" "second" "[I") (by decide +kernel)) dX4_become_30 (fun r_22 er_22 => ?_)
  replace h := h r_22 er_22
  clear er_22
  refine lv_iload_n hx hb dX4_become_33 rfl (lv_at hl 1 rfl) ?_
  refine lv_iconst (v := (-1)) hx hb dX4_become_34 (by decide) ?_
  obtain ⟨a_23, rfl, h⟩ := h
  obtain ⟨hk_24, h⟩ := h
  obtain ⟨hv_25, h⟩ := h
  refine mm_iast hx hb hE.1 hM hS hk_24 hv_25 dX4_become_35 (fun H locs hM hS => ?_)
  replace h := h _ rfl
  exact W.vret hx hb hr (fun t_ ht hW => ⟨⟨_, rfl, h, mB_of ht hM⟩, hS.F ht⟩) hS.2.2 dX4_become_36
end S_X4_become
set_option maxHeartbeats 4000000 in
set_option maxRecDepth 100000 in
theorem ok_X4_become (l : Launch) (D : va_G) (cs : CS) (A : Nat → Prop) (t : Nat) (x1 : Int32) (x2 : Int32) (x3 : Int32) (x4 : Int32) (σ : MM) (k : MM → Prop) (h : wX4_become t x1 x2 x3 x4 σ k) : Met l yX4_become wsX4_become rmX4_become (va_Pc [.ref t, .int x1, .int x2, .int x3, .int x4] (mP D cs A σ)) (va_Qv k (mB D cs A) A) 0 0 A := by
  refine Met.ofW (cc := cX4_become) (maxL := 5) (ret := none) (by decide) rfl ?_
  intro p e s m args below meth c s₁ B hml hv
  obtain ⟨rfl, hM, hE⟩ := hv
  have CX : CXM p s m _ meth c cX4_become 5 none "become" RX4 wsX4_become D cs A := ⟨B.exec, B.bytes, hml, B.returns, (name_of_methodNamed B.named B.method).1, findClass_of_methodNamed B.named, atoms_spec (ws := wsX4_become) B.pre, B.notSynchronized, hE⟩
  have hl := lv_entry ([.ref t, .int x1, .int x2, .int x3, .int x4]) (n := 5) (Nat.le_of_ble_eq_true rfl)
  rw [lg_entry_eq]
  exact oX4_become_0 CX x1 x2 x3 x4 σ _ _ _ h hM va_S.rf hl
/-! WorkCoderModel.day()I -/
abbrev rmX4_day : Room := { frames := 4, cells := 0, slots := 0, locals := 102 }
theorem inX4_day_4 : ∀ w ∈ wsX40, w ∈ wsX4_day := fun _ h => List.mem_cons_of_mem _ (List.mem_append_right _ (h))
section S_X4_day
variable {p : Program} {l : Launch} {e : Env} {s : State} {m : MethodId} {args : Array Value} {below : List Frame} {meth : Method} {c : Code} {D : va_G} {cs : CS} {A : Nat → Prop}
set_option maxHeartbeats 4000000 in
set_option maxRecDepth 100000 in
theorem oX4_day_114 {k : Int32 → MM → Prop} {t : Nat} (CX : CXM p s m args meth c cX4_day 3 (some .int) "day" RX4 wsX4_day D cs A) : ∀ (n : Nat), ∀ (x1 : Int32) (x2 : Int32) (σ : MM) (H : Heap) (locs : List Loc) (ls : Array Slot), wX4_day_114 k t  n x1 x2 σ → PH D cs A σ H → va_S A s.heap H locs → lv_has ls 3 [(0, .ref t), (1, .int x1), (2, .int x2)] → W p l e (headSpec wsX4_day rmX4_day).room s m args below meth c H locs 0 0 (MQ below (va_Qi k (mB D cs A) A) args s 0 0 A) (F0 m 114 ls []) := by
  intro n
  induction n with
  | zero => intro x1 x2 σ H locs ls h; exact h.elim
  | succ n ih =>
    intro x1 x2 σ H locs ls h hM hS hl
    have ⟨hx, hb, hml, hr, hnm, hown, hts, hlocks, hE⟩ := CX
    unfold wX4_day_114 at h
    refine lv_iload_n hx hb dX4_day_114 rfl (lv_at hl 2 rfl) ?_
    refine lv_iconst (v := 2) hx hb dX4_day_115 (by decide) ?_
    refine lv_aload_n hx hb dX4_day_116 rfl (lv_at hl 0 rfl) ?_
    obtain ⟨hk_1, h⟩ := h
    refine gf4_8 hx hb hts inX4_day_4 hown hE.1 hM hk_1 (hts (.fieldLink RX4 116 "WorkCoderModel" "answers" "I") (by decide +kernel)) dX4_day_117 ?_
    refine lv_imul hx hb dX4_day_120 ?_
    refine lv_icmp_ge (tgt := 196) hx hb dX4_day_121 (by decide) (fun hc => ?_) (fun hc => ?_)
    · replace h := h.1 hc
      refine lv_iload_n hx hb dX4_day_196 rfl (lv_at hl 1 rfl) ?_
      exact W.iret (v := x1) hx hb hr (fun t_ ht hW => ⟨⟨_, _, rfl, h, mB_of ht hM⟩, hS.F ht⟩) hS.2.2 dX4_day_197
    · replace h := h.2 hc
      refine lv_aload_n hx hb dX4_day_124 rfl (lv_at hl 0 rfl) ?_
      refine lv_iload_n hx hb dX4_day_125 rfl (lv_at hl 2 rfl) ?_
      refine clVi (C := RX4) (b := t) (As := [.int x2]) (rest := []) ⟨hx, hb, hml, hown, hts⟩ hM hE hS (ok_X4_isItem l D cs A t x2 _ _ h) (cwV 1 hts gX4_day_X4_isItem rfl rfl rfl (by decide +kernel) ⟨(Nat.le_of_ble_eq_true rfl), (Nat.le_of_ble_eq_true rfl)⟩) (rc4 hM hE.1 hk_1) rfl hl.1 rfl (Nat.le_of_ble_eq_true rfl) dX4_day_126 ⟨(Nat.le_of_ble_eq_true rfl), (Nat.le_of_ble_eq_true rfl)⟩ (fun x_3 σ_2 H locs h1 hM hS => ?_)
      replace h := h1
      clear h1
      refine lv_if_eq (tgt := 190) hx hb dX4_day_129 (by decide) (fun hc => ?_) (fun hc => ?_)
      · replace h := h.1 hc
        obtain ⟨x_4, ex_4⟩ : ∃ y : Int32, y = x2 + 1 := ⟨_, rfl⟩
        replace h := h x_4 ex_4
        refine lv_iinc (v := x_4) (lv' := [(2, .int x_4), (0, .ref t), (1, .int x1)]) hx hb dX4_day_190 hl (k := 2) rfl (by rw [ex_4]; rfl) (by decide) rfl (fun ls hl => ?_)
        refine lv_goto (tgt := 114) hx hb dX4_day_193 (by decide) ?_
        exact ih _ _ _ _ _ _ h hM hS (lv_sub hl [1, 2, 0] rfl)
      · replace h := h.2 hc
        refine lv_aload_n hx hb dX4_day_132 rfl (lv_at hl 0 rfl) ?_
        obtain ⟨hk_5, h⟩ := h
        refine gf4_13 hx hb hts inX4_day_4 hown hE.1 hM hk_5 (hts (.fieldLink RX4 46 "WorkCoderModel" "state" "[I") (by decide +kernel)) dX4_day_133 (fun r_6 er_6 => ?_)
        replace h := h r_6 er_6
        clear er_6
        refine lv_iload_n hx hb dX4_day_136 rfl (lv_at hl 2 rfl) ?_
        obtain ⟨a_7, rfl, h⟩ := h
        obtain ⟨hk_8, h⟩ := h
        obtain ⟨hv_9, h⟩ := h
        refine mm_iald hx hb hE.1 hM hk_8 hv_9 dX4_day_137 ?_
        refine lv_iconst (v := 1) hx hb dX4_day_138 (by decide) ?_
        refine lv_icmp_ne (tgt := 145) hx hb dX4_day_139 (by decide) (fun hc => ?_) (fun hc => ?_)
        · replace h := h.1 hc
          refine lv_aload_n hx hb dX4_day_145 rfl (lv_at hl 0 rfl) ?_
          refine gf4_13 hx hb hts inX4_day_4 hown hE.1 hM hk_5 (hts (.fieldLink RX4 46 "WorkCoderModel" "state" "[I") (by decide +kernel)) dX4_day_146 (fun r_10 er_10 => ?_)
          replace h := h r_10 er_10
          clear er_10
          refine lv_iload_n hx hb dX4_day_149 rfl (lv_at hl 2 rfl) ?_
          refine lv_iconst (v := 2) hx hb dX4_day_150 (by decide) ?_
          obtain ⟨a_11, rfl, h⟩ := h
          obtain ⟨hk_12, h⟩ := h
          obtain ⟨hv_13, h⟩ := h
          refine mm_iast hx hb hE.1 hM hS hk_12 hv_13 dX4_day_151 (fun H locs hM hS => ?_)
          replace h := h _ rfl
          refine lv_aload_n hx hb dX4_day_152 rfl (lv_at hl 0 rfl) ?_
          refine gf4_30 hx hb hts inX4_day_4 hown hE.1 hM hk_5 (hts (.fieldLink RX4 86 "WorkCoderModel" "gets" "[I") (by decide +kernel)) dX4_day_153 (fun r_15 er_15 => ?_)
          replace h := h r_15 er_15
          clear er_15
          refine lv_iload_n hx hb dX4_day_156 rfl (lv_at hl 2 rfl) ?_
          obtain ⟨a_16, rfl, h⟩ := h
          obtain ⟨hk_17, h⟩ := h
          obtain ⟨hv_18, h⟩ := h
          refine mm_iald hx hb hE.1 hM hk_17 hv_18 dX4_day_157 ?_
          refine lv_if_ge (tgt := 164) hx hb dX4_day_158 (by decide) (fun hc => ?_) (fun hc => ?_)
          · replace h := h.1 hc
            refine lv_aload_n hx hb dX4_day_164 rfl (lv_at hl 0 rfl) ?_
            refine lv_iload_n hx hb dX4_day_165 rfl (lv_at hl 2 rfl) ?_
            refine lv_aload_n hx hb dX4_day_166 rfl (lv_at hl 0 rfl) ?_
            refine gf4_30 hx hb hts inX4_day_4 hown hE.1 hM hk_5 (hts (.fieldLink RX4 86 "WorkCoderModel" "gets" "[I") (by decide +kernel)) dX4_day_167 (fun r_19 er_19 => ?_)
            replace h := h r_19 er_19
            clear er_19
            refine lv_iload_n hx hb dX4_day_170 rfl (lv_at hl 2 rfl) ?_
            obtain ⟨a_20, rfl, h⟩ := h
            obtain ⟨hk_21, h⟩ := h
            obtain ⟨hv_22, h⟩ := h
            refine mm_iald hx hb hE.1 hM hk_21 hv_22 dX4_day_171 ?_
            refine lv_aload_n hx hb dX4_day_172 rfl (lv_at hl 0 rfl) ?_
            refine gf4_31 hx hb hts inX4_day_4 hown hE.1 hM hk_5 (hts (.fieldLink RX4 89 "WorkCoderModel" "getsWhat" "[I") (by decide +kernel)) dX4_day_173 (fun r_23 er_23 => ?_)
            replace h := h r_23 er_23
            clear er_23
            refine lv_iload_n hx hb dX4_day_176 rfl (lv_at hl 2 rfl) ?_
            obtain ⟨a_24, rfl, h⟩ := h
            obtain ⟨hk_25, h⟩ := h
            obtain ⟨hv_26, h⟩ := h
            refine mm_iald hx hb hE.1 hM hk_25 hv_26 dX4_day_177 ?_
            refine lv_aload_n hx hb dX4_day_178 rfl (lv_at hl 0 rfl) ?_
            refine gf4_32 hx hb hts inX4_day_4 hown hE.1 hM hk_5 (hts (.fieldLink RX4 92 "WorkCoderModel" "getsNumber" "[I") (by decide +kernel)) dX4_day_179 (fun r_27 er_27 => ?_)
            replace h := h r_27 er_27
            clear er_27
            refine lv_iload_n hx hb dX4_day_182 rfl (lv_at hl 2 rfl) ?_
            obtain ⟨a_28, rfl, h⟩ := h
            obtain ⟨hk_29, h⟩ := h
            obtain ⟨hv_30, h⟩ := h
            refine mm_iald hx hb hE.1 hM hk_29 hv_30 dX4_day_183 ?_
            refine clVv (C := RX4) (b := t) (As := [.int x2, .int (mI (sI σ_2 a_11 (ix x2) 2) a_20 (ix x2)), .int (mI (sI σ_2 a_11 (ix x2) 2) a_24 (ix x2)), .int (mI (sI σ_2 a_11 (ix x2) 2) a_28 (ix x2))]) (rest := []) ⟨hx, hb, hml, hown, hts⟩ hM hE hS (ok_X4_become l D cs A t x2 (mI (sI σ_2 a_11 (ix x2) 2) a_20 (ix x2)) (mI (sI σ_2 a_11 (ix x2) 2) a_24 (ix x2)) (mI (sI σ_2 a_11 (ix x2) 2) a_28 (ix x2)) _ _ h) (cwV 4 hts gX4_day_X4_become rfl rfl rfl (by decide +kernel) ⟨(Nat.le_of_ble_eq_true rfl), (Nat.le_of_ble_eq_true rfl)⟩) (rc4 hM hE.1 hk_5) rfl hl.1 rfl (Nat.le_of_ble_eq_true rfl) dX4_day_184 ⟨(Nat.le_of_ble_eq_true rfl), (Nat.le_of_ble_eq_true rfl)⟩ (fun σ_31 H locs h1 hM hS => ?_)
            replace h := h1
            clear h1
            obtain ⟨x_33, ex_33⟩ : ∃ y : Int32, y = x1 + 1 := ⟨_, rfl⟩
            replace h := h x_33 ex_33
            refine lv_iinc (v := x_33) (lv' := [(1, .int x_33), (0, .ref t), (2, .int x2)]) hx hb dX4_day_187 hl (k := 1) rfl (by rw [ex_33]; rfl) (by decide) rfl (fun ls hl => ?_)
            obtain ⟨x_34, ex_34⟩ : ∃ y : Int32, y = x2 + 1 := ⟨_, rfl⟩
            replace h := h x_34 ex_34
            refine lv_iinc (v := x_34) (lv' := [(2, .int x_34), (1, .int x_33), (0, .ref t)]) hx hb dX4_day_190 hl (k := 2) rfl (by rw [ex_34]; rfl) (by decide) rfl (fun ls hl => ?_)
            refine lv_goto (tgt := 114) hx hb dX4_day_193 (by decide) ?_
            exact ih _ _ _ _ _ _ h hM hS (lv_sub hl [2, 1, 0] rfl)
          · replace h := h.2 hc
            refine lv_goto (tgt := 190) hx hb dX4_day_161 (by decide) ?_
            obtain ⟨x_35, ex_35⟩ : ∃ y : Int32, y = x2 + 1 := ⟨_, rfl⟩
            replace h := h x_35 ex_35
            refine lv_iinc (v := x_35) (lv' := [(2, .int x_35), (0, .ref t), (1, .int x1)]) hx hb dX4_day_190 hl (k := 2) rfl (by rw [ex_35]; rfl) (by decide) rfl (fun ls hl => ?_)
            refine lv_goto (tgt := 114) hx hb dX4_day_193 (by decide) ?_
            exact ih _ _ _ _ _ _ h hM hS (lv_sub hl [1, 2, 0] rfl)
        · replace h := h.2 hc
          refine lv_goto (tgt := 190) hx hb dX4_day_142 (by decide) ?_
          obtain ⟨x_36, ex_36⟩ : ∃ y : Int32, y = x2 + 1 := ⟨_, rfl⟩
          replace h := h x_36 ex_36
          refine lv_iinc (v := x_36) (lv' := [(2, .int x_36), (0, .ref t), (1, .int x1)]) hx hb dX4_day_190 hl (k := 2) rfl (by rw [ex_36]; rfl) (by decide) rfl (fun ls hl => ?_)
          refine lv_goto (tgt := 114) hx hb dX4_day_193 (by decide) ?_
          exact ih _ _ _ _ _ _ h hM hS (lv_sub hl [1, 2, 0] rfl)
set_option maxHeartbeats 4000000 in
set_option maxRecDepth 100000 in
theorem oX4_day_2 {k : Int32 → MM → Prop} {t : Nat} (CX : CXM p s m args meth c cX4_day 3 (some .int) "day" RX4 wsX4_day D cs A) : ∀ (n : Nat), ∀ (x1 : Int32) (σ : MM) (H : Heap) (locs : List Loc) (ls : Array Slot), wX4_day_2 k t  n x1 σ → PH D cs A σ H → va_S A s.heap H locs → lv_has ls 3 [(0, .ref t), (1, .int x1)] → W p l e (headSpec wsX4_day rmX4_day).room s m args below meth c H locs 0 0 (MQ below (va_Qi k (mB D cs A) A) args s 0 0 A) (F0 m 2 ls []) := by
  intro n
  induction n with
  | zero => intro x1 σ H locs ls h; exact h.elim
  | succ n ih =>
    intro x1 σ H locs ls h hM hS hl
    have ⟨hx, hb, hml, hr, hnm, hown, hts, hlocks, hE⟩ := CX
    unfold wX4_day_2 at h
    refine lv_iload_n hx hb dX4_day_2 rfl (lv_at hl 1 rfl) ?_
    refine lv_iconst (v := 2) hx hb dX4_day_3 (by decide) ?_
    refine lv_aload_n hx hb dX4_day_4 rfl (lv_at hl 0 rfl) ?_
    obtain ⟨hk_1, h⟩ := h
    refine gf4_8 hx hb hts inX4_day_4 hown hE.1 hM hk_1 (hts (.fieldLink RX4 116 "WorkCoderModel" "answers" "I") (by decide +kernel)) dX4_day_5 ?_
    refine lv_imul hx hb dX4_day_8 ?_
    refine lv_icmp_ge (tgt := 110) hx hb dX4_day_9 (by decide) (fun hc => ?_) (fun hc => ?_)
    · replace h := h.1 hc
      refine lv_iconst (v := 0) hx hb dX4_day_110 (by decide) ?_
      refine lv_istore_n (i := 1) (lv' := [(1, .int 0), (0, .ref t)]) hx hb dX4_day_111 rfl hl (by decide) rfl (fun ls hl => ?_)
      refine lv_iconst (v := 0) hx hb dX4_day_112 (by decide) ?_
      refine lv_istore_n (i := 2) (lv' := [(2, .int 0), (1, .int 0), (0, .ref t)]) hx hb dX4_day_113 rfl hl (by decide) rfl (fun ls hl => ?_)
      obtain ⟨n0, h⟩ := h
      exact oX4_day_114 CX  n0 _ _ _ _ _ _ h hM hS (lv_sub hl [2, 1, 0] rfl)
    · replace h := h.2 hc
      refine lv_aload_n hx hb dX4_day_12 rfl (lv_at hl 0 rfl) ?_
      refine lv_iload_n hx hb dX4_day_13 rfl (lv_at hl 1 rfl) ?_
      refine clVi (C := RX4) (b := t) (As := [.int x1]) (rest := []) ⟨hx, hb, hml, hown, hts⟩ hM hE hS (ok_X4_isItem l D cs A t x1 _ _ h) (cwV 1 hts gX4_day_X4_isItem rfl rfl rfl (by decide +kernel) ⟨(Nat.le_of_ble_eq_true rfl), (Nat.le_of_ble_eq_true rfl)⟩) (rc4 hM hE.1 hk_1) rfl hl.1 rfl (Nat.le_of_ble_eq_true rfl) dX4_day_14 ⟨(Nat.le_of_ble_eq_true rfl), (Nat.le_of_ble_eq_true rfl)⟩ (fun x_3 σ_2 H locs h1 hM hS => ?_)
      replace h := h1
      clear h1
      refine lv_if_eq (tgt := 104) hx hb dX4_day_17 (by decide) (fun hc => ?_) (fun hc => ?_)
      · replace h := h.1 hc
        obtain ⟨x_4, ex_4⟩ : ∃ y : Int32, y = x1 + 1 := ⟨_, rfl⟩
        replace h := h x_4 ex_4
        refine lv_iinc (v := x_4) (lv' := [(1, .int x_4), (0, .ref t)]) hx hb dX4_day_104 hl (k := 1) rfl (by rw [ex_4]; rfl) (by decide) rfl (fun ls hl => ?_)
        refine lv_goto (tgt := 2) hx hb dX4_day_107 (by decide) ?_
        exact ih _ _ _ _ _ h hM hS (lv_sub hl [1, 0] rfl)
      · replace h := h.2 hc
        refine lv_aload_n hx hb dX4_day_20 rfl (lv_at hl 0 rfl) ?_
        obtain ⟨hk_5, h⟩ := h
        refine gf4_13 hx hb hts inX4_day_4 hown hE.1 hM hk_5 (hts (.fieldLink RX4 46 "WorkCoderModel" "state" "[I") (by decide +kernel)) dX4_day_21 (fun r_6 er_6 => ?_)
        replace h := h r_6 er_6
        clear er_6
        refine lv_iload_n hx hb dX4_day_24 rfl (lv_at hl 1 rfl) ?_
        obtain ⟨a_7, rfl, h⟩ := h
        obtain ⟨hk_8, h⟩ := h
        obtain ⟨hv_9, h⟩ := h
        refine mm_iald hx hb hE.1 hM hk_8 hv_9 dX4_day_25 ?_
        refine lv_iconst (v := 1) hx hb dX4_day_26 (by decide) ?_
        refine lv_icmp_ne (tgt := 33) hx hb dX4_day_27 (by decide) (fun hc => ?_) (fun hc => ?_)
        · replace h := h.1 hc
          refine lv_aload_n hx hb dX4_day_33 rfl (lv_at hl 0 rfl) ?_
          refine gf4_30 hx hb hts inX4_day_4 hown hE.1 hM hk_5 (hts (.fieldLink RX4 86 "WorkCoderModel" "gets" "[I") (by decide +kernel)) dX4_day_34 (fun r_10 er_10 => ?_)
          replace h := h r_10 er_10
          clear er_10
          refine lv_iload_n hx hb dX4_day_37 rfl (lv_at hl 1 rfl) ?_
          refine lv_aload_n hx hb dX4_day_38 rfl (lv_at hl 0 rfl) ?_
          refine lv_iload_n hx hb dX4_day_39 rfl (lv_at hl 1 rfl) ?_
          refine lv_iconst (v := (-1)) hx hb dX4_day_40 (by decide) ?_
          refine clVi (C := RX4) (b := t) (As := [.int x1, .int (-1)]) (rest := [.int x1, va_rf r_10]) ⟨hx, hb, hml, hown, hts⟩ hM hE hS (ok_X4_byRules l D cs A t x1 (-1) _ _ h) (cwV 2 hts gX4_day_X4_byRules rfl rfl rfl (by decide +kernel) ⟨(Nat.le_of_ble_eq_true rfl), (Nat.le_of_ble_eq_true rfl)⟩) (rc4 hM hE.1 hk_5) rfl hl.1 rfl (cat_le (Nat.le_of_ble_eq_true rfl)) dX4_day_41 ⟨(Nat.le_of_ble_eq_true rfl), (Nat.le_of_ble_eq_true rfl)⟩ (fun x_12 σ_11 H locs h1 hM hS => ?_)
          replace h := h1
          clear h1
          obtain ⟨a_13, rfl, h⟩ := h
          obtain ⟨hk_14, h⟩ := h
          obtain ⟨hv_15, h⟩ := h
          refine mm_iast hx hb hE.1 hM hS hk_14 hv_15 dX4_day_44 (fun H locs hM hS => ?_)
          replace h := h _ rfl
          refine lv_aload_n hx hb dX4_day_45 rfl (lv_at hl 0 rfl) ?_
          obtain ⟨hk_17, h⟩ := h
          refine gf4_31 hx hb hts inX4_day_4 hown hE.1 hM hk_17 (hts (.fieldLink RX4 89 "WorkCoderModel" "getsWhat" "[I") (by decide +kernel)) dX4_day_46 (fun r_18 er_18 => ?_)
          replace h := h r_18 er_18
          clear er_18
          refine lv_iload_n hx hb dX4_day_49 rfl (lv_at hl 1 rfl) ?_
          refine lv_iconst (v := 0) hx hb dX4_day_50 (by decide) ?_
          obtain ⟨a_19, rfl, h⟩ := h
          obtain ⟨hk_20, h⟩ := h
          obtain ⟨hv_21, h⟩ := h
          refine mm_iast hx hb hE.1 hM hS hk_20 hv_21 dX4_day_51 (fun H locs hM hS => ?_)
          replace h := h _ rfl
          refine lv_aload_n hx hb dX4_day_52 rfl (lv_at hl 0 rfl) ?_
          refine gf4_32 hx hb hts inX4_day_4 hown hE.1 hM hk_17 (hts (.fieldLink RX4 92 "WorkCoderModel" "getsNumber" "[I") (by decide +kernel)) dX4_day_53 (fun r_23 er_23 => ?_)
          replace h := h r_23 er_23
          clear er_23
          refine lv_iload_n hx hb dX4_day_56 rfl (lv_at hl 1 rfl) ?_
          refine lv_aload_n hx hb dX4_day_57 rfl (lv_at hl 0 rfl) ?_
          refine gf4_25 hx hb hts inX4_day_4 hown hE.1 hM hk_17 (hts (.fieldLink RX4 152 "WorkCoderModel" "givenBy" "I") (by decide +kernel)) dX4_day_58 ?_
          obtain ⟨a_24, rfl, h⟩ := h
          obtain ⟨hk_25, h⟩ := h
          obtain ⟨hv_26, h⟩ := h
          refine mm_iast hx hb hE.1 hM hS hk_25 hv_26 dX4_day_61 (fun H locs hM hS => ?_)
          replace h := h _ rfl
          refine lv_aload_n hx hb dX4_day_62 rfl (lv_at hl 0 rfl) ?_
          refine gf4_30 hx hb hts inX4_day_4 hown hE.1 hM hk_17 (hts (.fieldLink RX4 86 "WorkCoderModel" "gets" "[I") (by decide +kernel)) dX4_day_63 (fun r_28 er_28 => ?_)
          replace h := h r_28 er_28
          clear er_28
          refine lv_iload_n hx hb dX4_day_66 rfl (lv_at hl 1 rfl) ?_
          obtain ⟨a_29, rfl, h⟩ := h
          obtain ⟨hk_30, h⟩ := h
          obtain ⟨hv_31, h⟩ := h
          refine mm_iald hx hb hE.1 hM hk_30 hv_31 dX4_day_67 ?_
          refine lv_bipush (v := (-2)) hx hb dX4_day_68 (by decide) ?_
          refine lv_icmp_eq (tgt := 76) hx hb dX4_day_70 (by decide) (fun hc => ?_) (fun hc => ?_)
          · replace h := h.1 hc
            refine lv_aload_n hx hb dX4_day_76 rfl (lv_at hl 0 rfl) ?_
            refine gf4_30 hx hb hts inX4_day_4 hown hE.1 hM hk_17 (hts (.fieldLink RX4 86 "WorkCoderModel" "gets" "[I") (by decide +kernel)) dX4_day_77 (fun r_32 er_32 => ?_)
            replace h := h r_32 er_32
            clear er_32
            refine lv_iload_n hx hb dX4_day_80 rfl (lv_at hl 1 rfl) ?_
            refine lv_aload_n hx hb dX4_day_81 rfl (lv_at hl 0 rfl) ?_
            refine lv_iload_n hx hb dX4_day_82 rfl (lv_at hl 1 rfl) ?_
            refine clVi (C := RX4) (b := t) (As := [.int x1]) (rest := [.int x1, va_rf r_32]) ⟨hx, hb, hml, hown, hts⟩ hM hE hS (ok_X4_byLikeness l D cs A t x1 _ _ h) (cwV 1 hts gX4_day_X4_byLikeness rfl rfl rfl (by decide +kernel) ⟨(Nat.le_of_ble_eq_true rfl), (Nat.le_of_ble_eq_true rfl)⟩) (rc4 hM hE.1 hk_17) rfl hl.1 rfl (cat_le (Nat.le_of_ble_eq_true rfl)) dX4_day_83 ⟨(Nat.le_of_ble_eq_true rfl), (Nat.le_of_ble_eq_true rfl)⟩ (fun x_34 σ_33 H locs h1 hM hS => ?_)
            replace h := h1
            clear h1
            obtain ⟨a_35, rfl, h⟩ := h
            obtain ⟨hk_36, h⟩ := h
            obtain ⟨hv_37, h⟩ := h
            refine mm_iast hx hb hE.1 hM hS hk_36 hv_37 dX4_day_86 (fun H locs hM hS => ?_)
            replace h := h _ rfl
            refine lv_aload_n hx hb dX4_day_87 rfl (lv_at hl 0 rfl) ?_
            obtain ⟨hk_39, h⟩ := h
            refine gf4_31 hx hb hts inX4_day_4 hown hE.1 hM hk_39 (hts (.fieldLink RX4 89 "WorkCoderModel" "getsWhat" "[I") (by decide +kernel)) dX4_day_88 (fun r_40 er_40 => ?_)
            replace h := h r_40 er_40
            clear er_40
            refine lv_iload_n hx hb dX4_day_91 rfl (lv_at hl 1 rfl) ?_
            refine lv_iconst (v := 1) hx hb dX4_day_92 (by decide) ?_
            obtain ⟨a_41, rfl, h⟩ := h
            obtain ⟨hk_42, h⟩ := h
            obtain ⟨hv_43, h⟩ := h
            refine mm_iast hx hb hE.1 hM hS hk_42 hv_43 dX4_day_93 (fun H locs hM hS => ?_)
            replace h := h _ rfl
            refine lv_aload_n hx hb dX4_day_94 rfl (lv_at hl 0 rfl) ?_
            refine gf4_32 hx hb hts inX4_day_4 hown hE.1 hM hk_39 (hts (.fieldLink RX4 92 "WorkCoderModel" "getsNumber" "[I") (by decide +kernel)) dX4_day_95 (fun r_45 er_45 => ?_)
            replace h := h r_45 er_45
            clear er_45
            refine lv_iload_n hx hb dX4_day_98 rfl (lv_at hl 1 rfl) ?_
            refine lv_aload_n hx hb dX4_day_99 rfl (lv_at hl 0 rfl) ?_
            refine gf4_29 hx hb hts inX4_day_4 hown hE.1 hM hk_39 (hts (.fieldLink RX4 173 "WorkCoderModel" "likedBy" "I") (by decide +kernel)) dX4_day_100 ?_
            obtain ⟨a_46, rfl, h⟩ := h
            obtain ⟨hk_47, h⟩ := h
            obtain ⟨hv_48, h⟩ := h
            refine mm_iast hx hb hE.1 hM hS hk_47 hv_48 dX4_day_103 (fun H locs hM hS => ?_)
            replace h := h _ rfl
            obtain ⟨x_50, ex_50⟩ : ∃ y : Int32, y = x1 + 1 := ⟨_, rfl⟩
            replace h := h x_50 ex_50
            refine lv_iinc (v := x_50) (lv' := [(1, .int x_50), (0, .ref t)]) hx hb dX4_day_104 hl (k := 1) rfl (by rw [ex_50]; rfl) (by decide) rfl (fun ls hl => ?_)
            refine lv_goto (tgt := 2) hx hb dX4_day_107 (by decide) ?_
            exact ih _ _ _ _ _ h hM hS (lv_sub hl [1, 0] rfl)
          · replace h := h.2 hc
            refine lv_goto (tgt := 104) hx hb dX4_day_73 (by decide) ?_
            obtain ⟨x_51, ex_51⟩ : ∃ y : Int32, y = x1 + 1 := ⟨_, rfl⟩
            replace h := h x_51 ex_51
            refine lv_iinc (v := x_51) (lv' := [(1, .int x_51), (0, .ref t)]) hx hb dX4_day_104 hl (k := 1) rfl (by rw [ex_51]; rfl) (by decide) rfl (fun ls hl => ?_)
            refine lv_goto (tgt := 2) hx hb dX4_day_107 (by decide) ?_
            exact ih _ _ _ _ _ h hM hS (lv_sub hl [1, 0] rfl)
        · replace h := h.2 hc
          refine lv_goto (tgt := 104) hx hb dX4_day_30 (by decide) ?_
          obtain ⟨x_52, ex_52⟩ : ∃ y : Int32, y = x1 + 1 := ⟨_, rfl⟩
          replace h := h x_52 ex_52
          refine lv_iinc (v := x_52) (lv' := [(1, .int x_52), (0, .ref t)]) hx hb dX4_day_104 hl (k := 1) rfl (by rw [ex_52]; rfl) (by decide) rfl (fun ls hl => ?_)
          refine lv_goto (tgt := 2) hx hb dX4_day_107 (by decide) ?_
          exact ih _ _ _ _ _ h hM hS (lv_sub hl [1, 0] rfl)
set_option maxHeartbeats 4000000 in
set_option maxRecDepth 100000 in
theorem oX4_day_0 {k : Int32 → MM → Prop} {t : Nat} (CX : CXM p s m args meth c cX4_day 3 (some .int) "day" RX4 wsX4_day D cs A) : ∀ (σ : MM) (H : Heap) (locs : List Loc) (ls : Array Slot), wX4_day t σ k → PH D cs A σ H → va_S A s.heap H locs → lv_has ls 3 [(0, .ref t)] → W p l e (headSpec wsX4_day rmX4_day).room s m args below meth c H locs 0 0 (MQ below (va_Qi k (mB D cs A) A) args s 0 0 A) (F0 m 0 ls []) := by
  intro  σ H locs ls h hM hS hl
  have ⟨hx, hb, hml, hr, hnm, hown, hts, hlocks, hE⟩ := CX
  unfold wX4_day at h
  refine lv_iconst (v := 0) hx hb dX4_day_0 (by decide) ?_
  refine lv_istore_n (i := 1) (lv' := [(1, .int 0), (0, .ref t)]) hx hb dX4_day_1 rfl hl (by decide) rfl (fun ls hl => ?_)
  obtain ⟨n0, h⟩ := h
  exact oX4_day_2 CX  n0 _ _ _ _ _ h hM hS (lv_sub hl [1, 0] rfl)
end S_X4_day
set_option maxHeartbeats 4000000 in
set_option maxRecDepth 100000 in
theorem ok_X4_day (l : Launch) (D : va_G) (cs : CS) (A : Nat → Prop) (t : Nat) (σ : MM) (k : Int32 → MM → Prop) (h : wX4_day t σ k) : Met l yX4_day wsX4_day rmX4_day (va_Pc [.ref t] (mP D cs A σ)) (va_Qi k (mB D cs A) A) 0 0 A := by
  refine Met.ofW (cc := cX4_day) (maxL := 3) (ret := (some .int)) (by decide) rfl ?_
  intro p e s m args below meth c s₁ B hml hv
  obtain ⟨rfl, hM, hE⟩ := hv
  have CX : CXM p s m _ meth c cX4_day 3 (some .int) "day" RX4 wsX4_day D cs A := ⟨B.exec, B.bytes, hml, B.returns, (name_of_methodNamed B.named B.method).1, findClass_of_methodNamed B.named, atoms_spec (ws := wsX4_day) B.pre, B.notSynchronized, hE⟩
  have hl := lv_entry ([.ref t]) (n := 3) (Nat.le_of_ble_eq_true rfl)
  rw [lg_entry_eq]
  exact oX4_day_0 CX  σ _ _ _ h hM va_S.rf hl
/-! WorkCoderModel.first()I -/
abbrev rmX4_first : Room := { frames := 3, cells := 0, slots := 0, locals := 70 }
theorem inX4_first_4 : ∀ w ∈ wsX40, w ∈ wsX4_first := fun _ h => List.mem_cons_of_mem _ (List.mem_append_right _ (h))
section S_X4_first
variable {p : Program} {l : Launch} {e : Env} {s : State} {m : MethodId} {args : Array Value} {below : List Frame} {meth : Method} {c : Code} {D : va_G} {cs : CS} {A : Nat → Prop}
set_option maxHeartbeats 4000000 in
set_option maxRecDepth 100000 in
theorem oX4_first_7 {k : Int32 → MM → Prop} {t : Nat} (CX : CXM p s m args meth c cX4_first 5 (some .int) "first" RX4 wsX4_first D cs A) : ∀ (n : Nat), ∀ (x1 : Int32) (x2 : Int32) (x3 : Int32) (σ : MM) (H : Heap) (locs : List Loc) (ls : Array Slot), wX4_first_7 k t  n x1 x2 x3 σ → PH D cs A σ H → va_S A s.heap H locs → lv_has ls 5 [(0, .ref t), (1, .int x1), (2, .int x2), (3, .int x3)] → W p l e (headSpec wsX4_first rmX4_first).room s m args below meth c H locs 0 0 (MQ below (va_Qi k (mB D cs A) A) args s 0 0 A) (F0 m 7 ls []) := by
  intro n
  induction n with
  | zero => intro x1 x2 x3 σ H locs ls h; exact h.elim
  | succ n ih =>
    intro x1 x2 x3 σ H locs ls h hM hS hl
    have ⟨hx, hb, hml, hr, hnm, hown, hts, hlocks, hE⟩ := CX
    unfold wX4_first_7 at h
    refine lv_iload_n hx hb dX4_first_7 rfl (lv_at hl 3 rfl) ?_
    refine lv_iconst (v := 2) hx hb dX4_first_8 (by decide) ?_
    refine lv_aload_n hx hb dX4_first_9 rfl (lv_at hl 0 rfl) ?_
    obtain ⟨hk_1, h⟩ := h
    refine gf4_8 hx hb hts inX4_first_4 hown hE.1 hM hk_1 (hts (.fieldLink RX4 116 "WorkCoderModel" "answers" "I") (by decide +kernel)) dX4_first_10 ?_
    refine lv_imul hx hb dX4_first_13 ?_
    refine lv_icmp_ge (tgt := 73) hx hb dX4_first_14 (by decide) (fun hc => ?_) (fun hc => ?_)
    · replace h := h.1 hc
      refine lv_iload_n hx hb dX4_first_73 rfl (lv_at hl 1 rfl) ?_
      exact W.iret (v := x1) hx hb hr (fun t_ ht hW => ⟨⟨_, _, rfl, h, mB_of ht hM⟩, hS.F ht⟩) hS.2.2 dX4_first_74
    · replace h := h.2 hc
      refine lv_aload_n hx hb dX4_first_17 rfl (lv_at hl 0 rfl) ?_
      refine lv_iload_n hx hb dX4_first_18 rfl (lv_at hl 3 rfl) ?_
      refine clVi (C := RX4) (b := t) (As := [.int x3]) (rest := []) ⟨hx, hb, hml, hown, hts⟩ hM hE hS (ok_X4_isItem l D cs A t x3 _ _ h) (cwV 1 hts gX4_first_X4_isItem rfl rfl rfl (by decide +kernel) ⟨(Nat.le_of_ble_eq_true rfl), (Nat.le_of_ble_eq_true rfl)⟩) (rc4 hM hE.1 hk_1) rfl hl.1 rfl (Nat.le_of_ble_eq_true rfl) dX4_first_19 ⟨(Nat.le_of_ble_eq_true rfl), (Nat.le_of_ble_eq_true rfl)⟩ (fun x_3 σ_2 H locs h1 hM hS => ?_)
      replace h := h1
      clear h1
      refine lv_if_eq (tgt := 67) hx hb dX4_first_22 (by decide) (fun hc => ?_) (fun hc => ?_)
      · replace h := h.1 hc
        obtain ⟨x_4, ex_4⟩ : ∃ y : Int32, y = x3 + 1 := ⟨_, rfl⟩
        replace h := h x_4 ex_4
        refine lv_iinc (v := x_4) (lv' := [(3, .int x_4), (0, .ref t), (1, .int x1), (2, .int x2)]) hx hb dX4_first_67 hl (k := 3) rfl (by rw [ex_4]; rfl) (by decide) rfl (fun ls hl => ?_)
        refine lv_goto (tgt := 7) hx hb dX4_first_70 (by decide) ?_
        exact ih _ _ _ _ _ _ _ h hM hS (lv_sub hl [1, 2, 3, 0] rfl)
      · replace h := h.2 hc
        refine lv_aload_n hx hb dX4_first_25 rfl (lv_at hl 0 rfl) ?_
        obtain ⟨hk_5, h⟩ := h
        refine gf4_13 hx hb hts inX4_first_4 hown hE.1 hM hk_5 (hts (.fieldLink RX4 46 "WorkCoderModel" "state" "[I") (by decide +kernel)) dX4_first_26 (fun r_6 er_6 => ?_)
        replace h := h r_6 er_6
        clear er_6
        refine lv_iload_n hx hb dX4_first_29 rfl (lv_at hl 3 rfl) ?_
        obtain ⟨a_7, rfl, h⟩ := h
        obtain ⟨hk_8, h⟩ := h
        obtain ⟨hv_9, h⟩ := h
        refine mm_iald hx hb hE.1 hM hk_8 hv_9 dX4_first_30 ?_
        refine lv_iconst (v := 2) hx hb dX4_first_31 (by decide) ?_
        refine lv_icmp_eq (tgt := 38) hx hb dX4_first_32 (by decide) (fun hc => ?_) (fun hc => ?_)
        · replace h := h.1 hc
          refine lv_aload_n hx hb dX4_first_38 rfl (lv_at hl 0 rfl) ?_
          refine lv_iload_n hx hb dX4_first_39 rfl (lv_at hl 3 rfl) ?_
          refine lv_iconst (v := 2) hx hb dX4_first_40 (by decide) ?_
          refine clVi (C := RX4) (b := t) (As := [.int x3, .int 2]) (rest := []) ⟨hx, hb, hml, hown, hts⟩ hM hE hS (ok_X4_likesOf l D cs A t x3 2 _ _ h) (cwV 2 hts gX4_first_X4_likesOf rfl rfl rfl (by decide +kernel) ⟨(Nat.le_of_ble_eq_true rfl), (Nat.le_of_ble_eq_true rfl)⟩) (rc4 hM hE.1 hk_5) rfl hl.1 rfl (Nat.le_of_ble_eq_true rfl) dX4_first_41 ⟨(Nat.le_of_ble_eq_true rfl), (Nat.le_of_ble_eq_true rfl)⟩ (fun x_11 σ_10 H locs h1 hM hS => ?_)
          replace h := h1
          clear h1
          refine lv_istore (i := 4) (lv' := [(4, .int x_11), (0, .ref t), (1, .int x1), (2, .int x2), (3, .int x3)]) hx hb dX4_first_44 hl (by decide) rfl (fun ls hl => ?_)
          refine lv_iload hx hb dX4_first_46 (lv_at hl 0 rfl) ?_
          refine lv_iload_n hx hb dX4_first_48 rfl (lv_at hl 3 rfl) ?_
          refine lv_icmp_le (tgt := 54) hx hb dX4_first_49 (by decide) (fun hc => ?_) (fun hc => ?_)
          · replace h := h.1 hc
            refine lv_iload hx hb dX4_first_54 (lv_at hl 0 rfl) ?_
            refine lv_iload_n hx hb dX4_first_56 rfl (lv_at hl 3 rfl) ?_
            refine lv_icmp_le (tgt := 65) hx hb dX4_first_57 (by decide) (fun hc => ?_) (fun hc => ?_)
            · replace h := h.1 hc
              refine lv_iload_n hx hb dX4_first_65 rfl (lv_at hl 3 rfl) ?_
              refine lv_istore_n (i := 2) (lv' := [(2, .int x2), (4, .int x_11), (0, .ref t), (1, .int x1), (3, .int x3)]) hx hb dX4_first_66 rfl hl (by decide) rfl (fun ls hl => ?_)
              obtain ⟨x_12, ex_12⟩ : ∃ y : Int32, y = x3 + 1 := ⟨_, rfl⟩
              replace h := h x_12 ex_12
              refine lv_iinc (v := x_12) (lv' := [(3, .int x_12), (2, .int x2), (4, .int x_11), (0, .ref t), (1, .int x1)]) hx hb dX4_first_67 hl (k := 4) rfl (by rw [ex_12]; rfl) (by decide) rfl (fun ls hl => ?_)
              refine lv_goto (tgt := 7) hx hb dX4_first_70 (by decide) ?_
              exact ih _ _ _ _ _ _ _ h hM hS (lv_sub hl [3, 4, 1, 0] rfl)
            · replace h := h.2 hc
              refine lv_iload hx hb dX4_first_60 (lv_at hl 0 rfl) ?_
              refine lv_goto (tgt := 66) hx hb dX4_first_62 (by decide) ?_
              refine lv_istore_n (i := 2) (lv' := [(2, .int x_11), (4, .int x_11), (0, .ref t), (1, .int x1), (3, .int x3)]) hx hb dX4_first_66 rfl hl (by decide) rfl (fun ls hl => ?_)
              obtain ⟨x_13, ex_13⟩ : ∃ y : Int32, y = x3 + 1 := ⟨_, rfl⟩
              replace h := h x_13 ex_13
              refine lv_iinc (v := x_13) (lv' := [(3, .int x_13), (2, .int x_11), (4, .int x_11), (0, .ref t), (1, .int x1)]) hx hb dX4_first_67 hl (k := 4) rfl (by rw [ex_13]; rfl) (by decide) rfl (fun ls hl => ?_)
              refine lv_goto (tgt := 7) hx hb dX4_first_70 (by decide) ?_
              exact ih _ _ _ _ _ _ _ h hM hS (lv_sub hl [3, 4, 1, 0] rfl)
          · replace h := h.2 hc
            refine lv_iload_n hx hb dX4_first_52 rfl (lv_at hl 4 rfl) ?_
            refine lv_istore_n (i := 1) (lv' := [(1, .int x3), (4, .int x_11), (0, .ref t), (2, .int x2), (3, .int x3)]) hx hb dX4_first_53 rfl hl (by decide) rfl (fun ls hl => ?_)
            refine lv_iload hx hb dX4_first_54 (lv_at hl 1 rfl) ?_
            refine lv_iload_n hx hb dX4_first_56 rfl (lv_at hl 3 rfl) ?_
            refine lv_icmp_le (tgt := 65) hx hb dX4_first_57 (by decide) (fun hc => ?_) (fun hc => ?_)
            · replace h := h.1 hc
              refine lv_iload_n hx hb dX4_first_65 rfl (lv_at hl 3 rfl) ?_
              refine lv_istore_n (i := 2) (lv' := [(2, .int x2), (1, .int x3), (4, .int x_11), (0, .ref t), (3, .int x3)]) hx hb dX4_first_66 rfl hl (by decide) rfl (fun ls hl => ?_)
              obtain ⟨x_14, ex_14⟩ : ∃ y : Int32, y = x3 + 1 := ⟨_, rfl⟩
              replace h := h x_14 ex_14
              refine lv_iinc (v := x_14) (lv' := [(3, .int x_14), (2, .int x2), (1, .int x3), (4, .int x_11), (0, .ref t)]) hx hb dX4_first_67 hl (k := 4) rfl (by rw [ex_14]; rfl) (by decide) rfl (fun ls hl => ?_)
              refine lv_goto (tgt := 7) hx hb dX4_first_70 (by decide) ?_
              exact ih _ _ _ _ _ _ _ h hM hS (lv_sub hl [4, 2, 1, 0] rfl)
            · replace h := h.2 hc
              refine lv_iload hx hb dX4_first_60 (lv_at hl 1 rfl) ?_
              refine lv_goto (tgt := 66) hx hb dX4_first_62 (by decide) ?_
              refine lv_istore_n (i := 2) (lv' := [(2, .int x_11), (1, .int x3), (4, .int x_11), (0, .ref t), (3, .int x3)]) hx hb dX4_first_66 rfl hl (by decide) rfl (fun ls hl => ?_)
              obtain ⟨x_15, ex_15⟩ : ∃ y : Int32, y = x3 + 1 := ⟨_, rfl⟩
              replace h := h x_15 ex_15
              refine lv_iinc (v := x_15) (lv' := [(3, .int x_15), (2, .int x_11), (1, .int x3), (4, .int x_11), (0, .ref t)]) hx hb dX4_first_67 hl (k := 4) rfl (by rw [ex_15]; rfl) (by decide) rfl (fun ls hl => ?_)
              refine lv_goto (tgt := 7) hx hb dX4_first_70 (by decide) ?_
              exact ih _ _ _ _ _ _ _ h hM hS (lv_sub hl [4, 2, 1, 0] rfl)
        · replace h := h.2 hc
          refine lv_goto (tgt := 67) hx hb dX4_first_35 (by decide) ?_
          obtain ⟨x_16, ex_16⟩ : ∃ y : Int32, y = x3 + 1 := ⟨_, rfl⟩
          replace h := h x_16 ex_16
          refine lv_iinc (v := x_16) (lv' := [(3, .int x_16), (0, .ref t), (1, .int x1), (2, .int x2)]) hx hb dX4_first_67 hl (k := 3) rfl (by rw [ex_16]; rfl) (by decide) rfl (fun ls hl => ?_)
          refine lv_goto (tgt := 7) hx hb dX4_first_70 (by decide) ?_
          exact ih _ _ _ _ _ _ _ h hM hS (lv_sub hl [1, 2, 3, 0] rfl)
set_option maxHeartbeats 4000000 in
set_option maxRecDepth 100000 in
theorem oX4_first_0 {k : Int32 → MM → Prop} {t : Nat} (CX : CXM p s m args meth c cX4_first 5 (some .int) "first" RX4 wsX4_first D cs A) : ∀ (σ : MM) (H : Heap) (locs : List Loc) (ls : Array Slot), wX4_first t σ k → PH D cs A σ H → va_S A s.heap H locs → lv_has ls 5 [(0, .ref t)] → W p l e (headSpec wsX4_first rmX4_first).room s m args below meth c H locs 0 0 (MQ below (va_Qi k (mB D cs A) A) args s 0 0 A) (F0 m 0 ls []) := by
  intro  σ H locs ls h hM hS hl
  have ⟨hx, hb, hml, hr, hnm, hown, hts, hlocks, hE⟩ := CX
  unfold wX4_first at h
  refine lv_bipush (v := (-2)) hx hb dX4_first_0 (by decide) ?_
  refine lv_istore_n (i := 1) (lv' := [(1, .int (-2)), (0, .ref t)]) hx hb dX4_first_2 rfl hl (by decide) rfl (fun ls hl => ?_)
  refine lv_iconst (v := 0) hx hb dX4_first_3 (by decide) ?_
  refine lv_istore_n (i := 2) (lv' := [(2, .int 0), (1, .int (-2)), (0, .ref t)]) hx hb dX4_first_4 rfl hl (by decide) rfl (fun ls hl => ?_)
  refine lv_iconst (v := 0) hx hb dX4_first_5 (by decide) ?_
  refine lv_istore_n (i := 3) (lv' := [(3, .int 0), (2, .int 0), (1, .int (-2)), (0, .ref t)]) hx hb dX4_first_6 rfl hl (by decide) rfl (fun ls hl => ?_)
  obtain ⟨n0, h⟩ := h
  exact oX4_first_7 CX  n0 _ _ _ _ _ _ _ h hM hS (lv_sub hl [3, 2, 1, 0] rfl)
end S_X4_first
set_option maxHeartbeats 4000000 in
set_option maxRecDepth 100000 in
theorem ok_X4_first (l : Launch) (D : va_G) (cs : CS) (A : Nat → Prop) (t : Nat) (σ : MM) (k : Int32 → MM → Prop) (h : wX4_first t σ k) : Met l yX4_first wsX4_first rmX4_first (va_Pc [.ref t] (mP D cs A σ)) (va_Qi k (mB D cs A) A) 0 0 A := by
  refine Met.ofW (cc := cX4_first) (maxL := 5) (ret := (some .int)) (by decide) rfl ?_
  intro p e s m args below meth c s₁ B hml hv
  obtain ⟨rfl, hM, hE⟩ := hv
  have CX : CXM p s m _ meth c cX4_first 5 (some .int) "first" RX4 wsX4_first D cs A := ⟨B.exec, B.bytes, hml, B.returns, (name_of_methodNamed B.named B.method).1, findClass_of_methodNamed B.named, atoms_spec (ws := wsX4_first) B.pre, B.notSynchronized, hE⟩
  have hl := lv_entry ([.ref t]) (n := 5) (Nat.le_of_ble_eq_true rfl)
  rw [lg_entry_eq]
  exact oX4_first_0 CX  σ _ _ _ h hM va_S.rf hl
/-! WorkCoderModel.settle(III)I -/
abbrev rmX4_settle : Room := { frames := 2, cells := 0, slots := 0, locals := 46 }
theorem inX4_settle_4 : ∀ w ∈ wsX40, w ∈ wsX4_settle := fun _ h => List.mem_cons_of_mem _ (List.mem_append_right _ (h))
section S_X4_settle
variable {p : Program} {l : Launch} {e : Env} {s : State} {m : MethodId} {args : Array Value} {below : List Frame} {meth : Method} {c : Code} {D : va_G} {cs : CS} {A : Nat → Prop}
set_option maxHeartbeats 4000000 in
set_option maxRecDepth 100000 in
theorem oX4_settle_129 {k : Int32 → MM → Prop} {t : Nat} (CX : CXM p s m args meth c cX4_settle 6 (some .int) "settle" RX4 wsX4_settle D cs A) : ∀ (n : Nat), ∀ (x2 : Int32) (x3 : Int32) (x4 : Int32) (x5 : Int32) (σ : MM) (H : Heap) (locs : List Loc) (ls : Array Slot), wX4_settle_129 k t  n x2 x3 x4 x5 σ → PH D cs A σ H → va_S A s.heap H locs → lv_has ls 6 [(0, .ref t), (2, .int x2), (3, .int x3), (4, .int x4), (5, .int x5)] → W p l e (headSpec wsX4_settle rmX4_settle).room s m args below meth c H locs 0 0 (MQ below (va_Qi k (mB D cs A) A) args s 0 0 A) (F0 m 129 ls []) := by
  intro n
  induction n with
  | zero => intro x2 x3 x4 x5 σ H locs ls h; exact h.elim
  | succ n ih =>
    intro x2 x3 x4 x5 σ H locs ls h hM hS hl
    have ⟨hx, hb, hml, hr, hnm, hown, hts, hlocks, hE⟩ := CX
    unfold wX4_settle_129 at h
    refine lv_iload hx hb dX4_settle_129 (lv_at hl 4 rfl) ?_
    refine lv_iconst (v := 2) hx hb dX4_settle_131 (by decide) ?_
    refine lv_aload_n hx hb dX4_settle_132 rfl (lv_at hl 0 rfl) ?_
    obtain ⟨hk_1, h⟩ := h
    refine gf4_8 hx hb hts inX4_settle_4 hown hE.1 hM hk_1 (hts (.fieldLink RX4 116 "WorkCoderModel" "answers" "I") (by decide +kernel)) dX4_settle_133 ?_
    refine lv_imul hx hb dX4_settle_136 ?_
    refine lv_icmp_ge (tgt := 165) hx hb dX4_settle_137 (by decide) (fun hc => ?_) (fun hc => ?_)
    · replace h := h.1 hc
      refine lv_iload hx hb dX4_settle_165 (lv_at hl 3 rfl) ?_
      exact W.iret (v := x4) hx hb hr (fun t_ ht hW => ⟨⟨_, _, rfl, h, mB_of ht hM⟩, hS.F ht⟩) hS.2.2 dX4_settle_167
    · replace h := h.2 hc
      refine lv_aload_n hx hb dX4_settle_140 rfl (lv_at hl 0 rfl) ?_
      refine gf4_33 hx hb hts inX4_settle_4 hown hE.1 hM hk_1 (hts (.fieldLink RX4 95 "WorkCoderModel" "settled" "[Z") (by decide +kernel)) dX4_settle_141 (fun r_2 er_2 => ?_)
      replace h := h r_2 er_2
      clear er_2
      refine lv_iload hx hb dX4_settle_144 (lv_at hl 4 rfl) ?_
      obtain ⟨a_3, rfl, h⟩ := h
      obtain ⟨hk_4, h⟩ := h
      obtain ⟨hv_5, h⟩ := h
      refine mm_zald hx hb hE.1 hM hk_4 hv_5 dX4_settle_146 ?_
      refine lv_if_eq (tgt := 159) hx hb dX4_settle_147 (by decide) (fun hc => ?_) (fun hc => ?_)
      · replace h := h.1 hc
        obtain ⟨x_6, ex_6⟩ : ∃ y : Int32, y = x5 + 1 := ⟨_, rfl⟩
        replace h := h x_6 ex_6
        refine lv_iinc (v := x_6) (lv' := [(5, .int x_6), (0, .ref t), (2, .int x2), (3, .int x3), (4, .int x4)]) hx hb dX4_settle_159 hl (k := 4) rfl (by rw [ex_6]; rfl) (by decide) rfl (fun ls hl => ?_)
        refine lv_goto (tgt := 129) hx hb dX4_settle_162 (by decide) ?_
        exact ih _ _ _ _ _ _ _ _ h hM hS (lv_sub hl [1, 2, 3, 4, 0] rfl)
      · replace h := h.2 hc
        refine lv_aload_n hx hb dX4_settle_150 rfl (lv_at hl 0 rfl) ?_
        refine lv_iload hx hb dX4_settle_151 (lv_at hl 4 rfl) ?_
        refine lv_iload_n hx hb dX4_settle_153 rfl (lv_at hl 2 rfl) ?_
        refine lv_iconst (v := 2) hx hb dX4_settle_154 (by decide) ?_
        refine lv_iload_n hx hb dX4_settle_155 rfl (lv_at hl 1 rfl) ?_
        refine clVv (C := RX4) (b := t) (As := [.int x5, .int x3, .int 2, .int x2]) (rest := []) ⟨hx, hb, hml, hown, hts⟩ hM hE hS (ok_X4_become l D cs A t x5 x3 2 x2 _ _ h) (cwV 4 hts gX4_settle_X4_become rfl rfl rfl (by decide +kernel) ⟨(Nat.le_of_ble_eq_true rfl), (Nat.le_of_ble_eq_true rfl)⟩) (rc4 hM hE.1 hk_1) rfl hl.1 rfl (Nat.le_of_ble_eq_true rfl) dX4_settle_156 ⟨(Nat.le_of_ble_eq_true rfl), (Nat.le_of_ble_eq_true rfl)⟩ (fun σ_7 H locs h1 hM hS => ?_)
        replace h := h1
        clear h1
        obtain ⟨x_9, ex_9⟩ : ∃ y : Int32, y = x5 + 1 := ⟨_, rfl⟩
        replace h := h x_9 ex_9
        refine lv_iinc (v := x_9) (lv' := [(5, .int x_9), (0, .ref t), (2, .int x2), (3, .int x3), (4, .int x4)]) hx hb dX4_settle_159 hl (k := 4) rfl (by rw [ex_9]; rfl) (by decide) rfl (fun ls hl => ?_)
        refine lv_goto (tgt := 129) hx hb dX4_settle_162 (by decide) ?_
        exact ih _ _ _ _ _ _ _ _ h hM hS (lv_sub hl [1, 2, 3, 4, 0] rfl)
set_option maxHeartbeats 4000000 in
set_option maxRecDepth 100000 in
theorem oX4_settle_99 {k : Int32 → MM → Prop} {t : Nat} {g47 : Int32 → Int32 → Int32 → Int32 → Int32 → MM → Prop} (CX : CXM p s m args meth c cX4_settle 6 (some .int) "settle" RX4 wsX4_settle D cs A) (hg47 : ∀ (x1 : Int32) (x2 : Int32) (x3 : Int32) (x4 : Int32) (x5 : Int32) (σ : MM) (H : Heap) (locs : List Loc) (ls : Array Slot), g47 x1 x2 x3 x4 x5 σ → PH D cs A σ H → va_S A s.heap H locs → lv_has ls 6 [(0, .ref t), (1, .int x1), (2, .int x2), (3, .int x3), (4, .int x4), (5, .int x5)] → W p l e (headSpec wsX4_settle rmX4_settle).room s m args below meth c H locs 0 0 (MQ below (va_Qi k (mB D cs A) A) args s 0 0 A) (F0 m 47 ls [])) : ∀ (x1 : Int32) (x2 : Int32) (x3 : Int32) (x4 : Int32) (x5 : Int32) (z0 : Option Nat) (z1 : Int32) (z2 : Int32) (σ : MM) (H : Heap) (locs : List Loc) (ls : Array Slot), wX4_settle_99 k t g47 x1 x2 x3 x4 x5 z0 z1 z2 σ → PH D cs A σ H → va_S A s.heap H locs → lv_has ls 6 [(0, .ref t), (1, .int x1), (2, .int x2), (3, .int x3), (4, .int x4), (5, .int x5)] → W p l e (headSpec wsX4_settle rmX4_settle).room s m args below meth c H locs 0 0 (MQ below (va_Qi k (mB D cs A) A) args s 0 0 A) (F0 m 99 ls [.int z2, .int z1, va_rf z0]) := by
  intro x1 x2 x3 x4 x5 z0 z1 z2 σ H locs ls h hM hS hl
  have ⟨hx, hb, hml, hr, hnm, hown, hts, hlocks, hE⟩ := CX
  unfold wX4_settle_99 at h
  obtain ⟨a_1, rfl, h⟩ := h
  obtain ⟨hk_2, h⟩ := h
  obtain ⟨hv_3, h⟩ := h
  obtain ⟨hz_4, h⟩ := h
  refine mm_zast hx hb hE.1 hM hS hk_2 hv_3 (bz_nar hz_4) dX4_settle_99 (fun H locs hM hS => ?_)
  replace h := h _ rfl
  refine lv_iload hx hb dX4_settle_100 (lv_at hl 4 rfl) ?_
  refine lv_aload_n hx hb dX4_settle_102 rfl (lv_at hl 0 rfl) ?_
  obtain ⟨hk_6, h⟩ := h
  refine gf4_33 hx hb hts inX4_settle_4 hown hE.1 hM hk_6 (hts (.fieldLink RX4 95 "WorkCoderModel" "settled" "[Z") (by decide +kernel)) dX4_settle_103 (fun r_7 er_7 => ?_)
  replace h := h r_7 er_7
  clear er_7
  refine lv_iload hx hb dX4_settle_106 (lv_at hl 5 rfl) ?_
  obtain ⟨a_8, rfl, h⟩ := h
  obtain ⟨hk_9, h⟩ := h
  obtain ⟨hv_10, h⟩ := h
  refine mm_zald hx hb hE.1 hM hk_9 hv_10 dX4_settle_108 ?_
  refine lv_if_eq (tgt := 116) hx hb dX4_settle_109 (by decide) (fun hc => ?_) (fun hc => ?_)
  · replace h := h.1 hc
    refine lv_iconst (v := 0) hx hb dX4_settle_116 (by decide) ?_
    refine lv_iadd hx hb dX4_settle_117 ?_
    refine lv_topi (fun x_11 ex_11 => ?_)
    replace h := h x_11 ex_11
    refine lv_istore (i := 4) (lv' := [(4, .int x_11), (0, .ref t), (1, .int x1), (2, .int x2), (3, .int x3), (5, .int x5)]) hx hb dX4_settle_118 hl (by decide) rfl (fun ls hl => ?_)
    obtain ⟨x_12, ex_12⟩ : ∃ y : Int32, y = x5 + 1 := ⟨_, rfl⟩
    replace h := h x_12 ex_12
    refine lv_iinc (v := x_12) (lv' := [(5, .int x_12), (4, .int x_11), (0, .ref t), (1, .int x1), (2, .int x2), (3, .int x3)]) hx hb dX4_settle_120 hl (k := 5) rfl (by rw [ex_12]; rfl) (by decide) rfl (fun ls hl => ?_)
    refine lv_goto (tgt := 47) hx hb dX4_settle_123 (by decide) ?_
    exact hg47 _ _ _ _ _ _ _ _ _ h hM hS (lv_sub hl [2, 3, 4, 5, 1, 0] rfl)
  · replace h := h.2 hc
    refine lv_iconst (v := 1) hx hb dX4_settle_112 (by decide) ?_
    refine lv_goto (tgt := 117) hx hb dX4_settle_113 (by decide) ?_
    refine lv_iadd hx hb dX4_settle_117 ?_
    refine lv_topi (fun x_13 ex_13 => ?_)
    replace h := h x_13 ex_13
    refine lv_istore (i := 4) (lv' := [(4, .int x_13), (0, .ref t), (1, .int x1), (2, .int x2), (3, .int x3), (5, .int x5)]) hx hb dX4_settle_118 hl (by decide) rfl (fun ls hl => ?_)
    obtain ⟨x_14, ex_14⟩ : ∃ y : Int32, y = x5 + 1 := ⟨_, rfl⟩
    replace h := h x_14 ex_14
    refine lv_iinc (v := x_14) (lv' := [(5, .int x_14), (4, .int x_13), (0, .ref t), (1, .int x1), (2, .int x2), (3, .int x3)]) hx hb dX4_settle_120 hl (k := 5) rfl (by rw [ex_14]; rfl) (by decide) rfl (fun ls hl => ?_)
    refine lv_goto (tgt := 47) hx hb dX4_settle_123 (by decide) ?_
    exact hg47 _ _ _ _ _ _ _ _ _ h hM hS (lv_sub hl [2, 3, 4, 5, 1, 0] rfl)
set_option maxHeartbeats 4000000 in
set_option maxRecDepth 100000 in
theorem oX4_settle_47 {k : Int32 → MM → Prop} {t : Nat} (CX : CXM p s m args meth c cX4_settle 6 (some .int) "settle" RX4 wsX4_settle D cs A) : ∀ (n : Nat), ∀ (x1 : Int32) (x2 : Int32) (x3 : Int32) (x4 : Int32) (x5 : Int32) (σ : MM) (H : Heap) (locs : List Loc) (ls : Array Slot), wX4_settle_47 k t  n x1 x2 x3 x4 x5 σ → PH D cs A σ H → va_S A s.heap H locs → lv_has ls 6 [(0, .ref t), (1, .int x1), (2, .int x2), (3, .int x3), (4, .int x4), (5, .int x5)] → W p l e (headSpec wsX4_settle rmX4_settle).room s m args below meth c H locs 0 0 (MQ below (va_Qi k (mB D cs A) A) args s 0 0 A) (F0 m 47 ls []) := by
  intro n
  induction n with
  | zero => intro x1 x2 x3 x4 x5 σ H locs ls h; exact h.elim
  | succ n ih =>
    intro x1 x2 x3 x4 x5 σ H locs ls h hM hS hl
    have ⟨hx, hb, hml, hr, hnm, hown, hts, hlocks, hE⟩ := CX
    unfold wX4_settle_47 at h
    refine lv_iload hx hb dX4_settle_47 (lv_at hl 5 rfl) ?_
    refine lv_iconst (v := 2) hx hb dX4_settle_49 (by decide) ?_
    refine lv_aload_n hx hb dX4_settle_50 rfl (lv_at hl 0 rfl) ?_
    obtain ⟨hk_1, h⟩ := h
    refine gf4_8 hx hb hts inX4_settle_4 hown hE.1 hM hk_1 (hts (.fieldLink RX4 116 "WorkCoderModel" "answers" "I") (by decide +kernel)) dX4_settle_51 ?_
    refine lv_imul hx hb dX4_settle_54 ?_
    refine lv_icmp_ge (tgt := 126) hx hb dX4_settle_55 (by decide) (fun hc => ?_) (fun hc => ?_)
    · replace h := h.1 hc
      refine lv_iconst (v := 0) hx hb dX4_settle_126 (by decide) ?_
      refine lv_istore (i := 5) (lv' := [(5, .int 0), (0, .ref t), (1, .int x1), (2, .int x2), (3, .int x3), (4, .int x4)]) hx hb dX4_settle_127 hl (by decide) rfl (fun ls hl => ?_)
      obtain ⟨n0, h⟩ := h
      exact oX4_settle_129 CX  n0 _ _ _ _ _ _ _ _ h hM hS (lv_sub hl [1, 3, 4, 5, 0] rfl)
    · replace h := h.2 hc
      refine lv_aload_n hx hb dX4_settle_58 rfl (lv_at hl 0 rfl) ?_
      refine gf4_33 hx hb hts inX4_settle_4 hown hE.1 hM hk_1 (hts (.fieldLink RX4 95 "WorkCoderModel" "settled" "[Z") (by decide +kernel)) dX4_settle_59 (fun r_2 er_2 => ?_)
      replace h := h r_2 er_2
      clear er_2
      refine lv_iload hx hb dX4_settle_62 (lv_at hl 5 rfl) ?_
      refine lv_aload_n hx hb dX4_settle_64 rfl (lv_at hl 0 rfl) ?_
      refine lv_iload hx hb dX4_settle_65 (lv_at hl 5 rfl) ?_
      refine clVi (C := RX4) (b := t) (As := [.int x5]) (rest := [.int x5, va_rf r_2]) ⟨hx, hb, hml, hown, hts⟩ hM hE hS (ok_X4_isItem l D cs A t x5 _ _ h) (cwV 1 hts gX4_settle_X4_isItem rfl rfl rfl (by decide +kernel) ⟨(Nat.le_of_ble_eq_true rfl), (Nat.le_of_ble_eq_true rfl)⟩) (rc4 hM hE.1 hk_1) rfl hl.1 rfl (cat_le (Nat.le_of_ble_eq_true rfl)) dX4_settle_67 ⟨(Nat.le_of_ble_eq_true rfl), (Nat.le_of_ble_eq_true rfl)⟩ (fun x_4 σ_3 H locs h1 hM hS => ?_)
      replace h := h1
      clear h1
      refine lv_if_eq (tgt := 98) hx hb dX4_settle_70 (by decide) (fun hc => ?_) (fun hc => ?_)
      · replace h := h.1 hc
        refine lv_iconst (v := 0) hx hb dX4_settle_98 (by decide) ?_
        exact oX4_settle_99 CX ih _ _ _ _ _ _ _ _ _ _ _ _ h hM hS (lv_sub hl [0, 1, 2, 3, 4, 5] rfl)
      · replace h := h.2 hc
        refine lv_aload_n hx hb dX4_settle_73 rfl (lv_at hl 0 rfl) ?_
        obtain ⟨hk_5, h⟩ := h
        refine gf4_13 hx hb hts inX4_settle_4 hown hE.1 hM hk_5 (hts (.fieldLink RX4 46 "WorkCoderModel" "state" "[I") (by decide +kernel)) dX4_settle_74 (fun r_6 er_6 => ?_)
        replace h := h r_6 er_6
        clear er_6
        refine lv_iload hx hb dX4_settle_77 (lv_at hl 5 rfl) ?_
        obtain ⟨a_7, rfl, h⟩ := h
        obtain ⟨hk_8, h⟩ := h
        obtain ⟨hv_9, h⟩ := h
        refine mm_iald hx hb hE.1 hM hk_8 hv_9 dX4_settle_79 ?_
        refine lv_iconst (v := 2) hx hb dX4_settle_80 (by decide) ?_
        refine lv_icmp_ne (tgt := 98) hx hb dX4_settle_81 (by decide) (fun hc => ?_) (fun hc => ?_)
        · replace h := h.1 hc
          refine lv_iconst (v := 0) hx hb dX4_settle_98 (by decide) ?_
          exact oX4_settle_99 CX ih _ _ _ _ _ _ _ _ _ _ _ _ h hM hS (lv_sub hl [0, 1, 2, 3, 4, 5] rfl)
        · replace h := h.2 hc
          refine lv_aload_n hx hb dX4_settle_84 rfl (lv_at hl 0 rfl) ?_
          refine lv_iload hx hb dX4_settle_85 (lv_at hl 5 rfl) ?_
          refine lv_iload_n hx hb dX4_settle_87 rfl (lv_at hl 1 rfl) ?_
          refine clVi (C := RX4) (b := t) (As := [.int x5, .int x1]) (rest := [.int x5, va_rf r_2]) ⟨hx, hb, hml, hown, hts⟩ hM hE hS (ok_X4_areAlike l D cs A t x5 x1 _ _ h) (cwV 2 hts gX4_settle_X4_areAlike rfl rfl rfl (by decide +kernel) ⟨(Nat.le_of_ble_eq_true rfl), (Nat.le_of_ble_eq_true rfl)⟩) (rc4 hM hE.1 hk_5) rfl hl.1 rfl (cat_le (Nat.le_of_ble_eq_true rfl)) dX4_settle_88 ⟨(Nat.le_of_ble_eq_true rfl), (Nat.le_of_ble_eq_true rfl)⟩ (fun x_11 σ_10 H locs h1 hM hS => ?_)
          replace h := h1
          clear h1
          refine lv_if_eq (tgt := 98) hx hb dX4_settle_91 (by decide) (fun hc => ?_) (fun hc => ?_)
          · replace h := h.1 hc
            refine lv_iconst (v := 0) hx hb dX4_settle_98 (by decide) ?_
            exact oX4_settle_99 CX ih _ _ _ _ _ _ _ _ _ _ _ _ h hM hS (lv_sub hl [0, 1, 2, 3, 4, 5] rfl)
          · replace h := h.2 hc
            refine lv_iconst (v := 1) hx hb dX4_settle_94 (by decide) ?_
            refine lv_goto (tgt := 99) hx hb dX4_settle_95 (by decide) ?_
            exact oX4_settle_99 CX ih _ _ _ _ _ _ _ _ _ _ _ _ h hM hS (lv_sub hl [0, 1, 2, 3, 4, 5] rfl)
set_option maxHeartbeats 4000000 in
set_option maxRecDepth 100000 in
theorem oX4_settle_0 {k : Int32 → MM → Prop} {t : Nat} (CX : CXM p s m args meth c cX4_settle 6 (some .int) "settle" RX4 wsX4_settle D cs A) : ∀ (x1 : Int32) (x2 : Int32) (x3 : Int32) (σ : MM) (H : Heap) (locs : List Loc) (ls : Array Slot), wX4_settle t x1 x2 x3 σ k → PH D cs A σ H → va_S A s.heap H locs → lv_has ls 6 [(0, .ref t), (1, .int x1), (2, .int x2), (3, .int x3)] → W p l e (headSpec wsX4_settle rmX4_settle).room s m args below meth c H locs 0 0 (MQ below (va_Qi k (mB D cs A) A) args s 0 0 A) (F0 m 0 ls []) := by
  intro x1 x2 x3 σ H locs ls h hM hS hl
  have ⟨hx, hb, hml, hr, hnm, hown, hts, hlocks, hE⟩ := CX
  unfold wX4_settle at h
  refine lv_aload_n hx hb dX4_settle_0 rfl (lv_at hl 0 rfl) ?_
  refine lv_iload_n hx hb dX4_settle_1 rfl (lv_at hl 1 rfl) ?_
  obtain ⟨hk_1, h⟩ := h
  refine clVi (C := RX4) (b := t) (As := [.int x1]) (rest := []) ⟨hx, hb, hml, hown, hts⟩ hM hE hS (ok_X4_isItem l D cs A t x1 _ _ h) (cwV 1 hts gX4_settle_X4_isItem rfl rfl rfl (by decide +kernel) ⟨(Nat.le_of_ble_eq_true rfl), (Nat.le_of_ble_eq_true rfl)⟩) (rc4 hM hE.1 hk_1) rfl hl.1 rfl (Nat.le_of_ble_eq_true rfl) dX4_settle_2 ⟨(Nat.le_of_ble_eq_true rfl), (Nat.le_of_ble_eq_true rfl)⟩ (fun x_3 σ_2 H locs h1 hM hS => ?_)
  replace h := h1
  clear h1
  refine lv_if_eq (tgt := 26) hx hb dX4_settle_5 (by decide) (fun hc => ?_) (fun hc => ?_)
  · replace h := h.1 hc
    refine lv_iconst (v := (-1)) hx hb dX4_settle_26 (by decide) ?_
    exact W.iret (v := (-1)) hx hb hr (fun t_ ht hW => ⟨⟨_, _, rfl, h, mB_of ht hM⟩, hS.F ht⟩) hS.2.2 dX4_settle_27
  · replace h := h.2 hc
    refine lv_iload_n hx hb dX4_settle_8 rfl (lv_at hl 2 rfl) ?_
    refine lv_iconst (v := 0) hx hb dX4_settle_9 (by decide) ?_
    refine lv_bipush (v := 9) hx hb dX4_settle_10 (by decide) ?_
    refine clSi (As := [.int x2, .int 0, .int 9]) (rest := []) ⟨hx, hb, hml, hown, hts⟩ hM hE hS (ok_X4_in l D cs A x2 0 9 _ _ h) (va_cwS 3 hts gX4_settle_X4_in rfl rfl rfl (by decide +kernel) ⟨(Nat.le_of_ble_eq_true rfl), (Nat.le_of_ble_eq_true rfl)⟩) rfl hl.1 rfl (Nat.le_of_ble_eq_true rfl) dX4_settle_12 ⟨(Nat.le_of_ble_eq_true rfl), (Nat.le_of_ble_eq_true rfl)⟩ (fun x_5 σ_4 H locs h1 hM hS => ?_)
    replace h := h1
    clear h1
    refine lv_if_eq (tgt := 26) hx hb dX4_settle_15 (by decide) (fun hc => ?_) (fun hc => ?_)
    · replace h := h.1 hc
      refine lv_iconst (v := (-1)) hx hb dX4_settle_26 (by decide) ?_
      exact W.iret (v := (-1)) hx hb hr (fun t_ ht hW => ⟨⟨_, _, rfl, h, mB_of ht hM⟩, hS.F ht⟩) hS.2.2 dX4_settle_27
    · replace h := h.2 hc
      refine lv_aload_n hx hb dX4_settle_18 rfl (lv_at hl 0 rfl) ?_
      refine lv_iload_n hx hb dX4_settle_19 rfl (lv_at hl 3 rfl) ?_
      obtain ⟨hk_6, h⟩ := h
      refine clVi (C := RX4) (b := t) (As := [.int x3]) (rest := []) ⟨hx, hb, hml, hown, hts⟩ hM hE hS (ok_X4_isCode l D cs A t x3 _ _ h) (cwV 1 hts gX4_settle_X4_isCode rfl rfl rfl (by decide +kernel) ⟨(Nat.le_of_ble_eq_true rfl), (Nat.le_of_ble_eq_true rfl)⟩) (rc4 hM hE.1 hk_6) rfl hl.1 rfl (Nat.le_of_ble_eq_true rfl) dX4_settle_20 ⟨(Nat.le_of_ble_eq_true rfl), (Nat.le_of_ble_eq_true rfl)⟩ (fun x_8 σ_7 H locs h1 hM hS => ?_)
      replace h := h1
      clear h1
      refine lv_if_ne (tgt := 28) hx hb dX4_settle_23 (by decide) (fun hc => ?_) (fun hc => ?_)
      · replace h := h.1 hc
        refine lv_aload_n hx hb dX4_settle_28 rfl (lv_at hl 0 rfl) ?_
        obtain ⟨hk_9, h⟩ := h
        refine gf4_13 hx hb hts inX4_settle_4 hown hE.1 hM hk_9 (hts (.fieldLink RX4 46 "WorkCoderModel" "state" "[I") (by decide +kernel)) dX4_settle_29 (fun r_10 er_10 => ?_)
        replace h := h r_10 er_10
        clear er_10
        refine lv_iload_n hx hb dX4_settle_32 rfl (lv_at hl 1 rfl) ?_
        obtain ⟨a_11, rfl, h⟩ := h
        obtain ⟨hk_12, h⟩ := h
        obtain ⟨hv_13, h⟩ := h
        refine mm_iald hx hb hE.1 hM hk_12 hv_13 dX4_settle_33 ?_
        refine lv_iconst (v := 2) hx hb dX4_settle_34 (by decide) ?_
        refine lv_icmp_eq (tgt := 41) hx hb dX4_settle_35 (by decide) (fun hc => ?_) (fun hc => ?_)
        · replace h := h.1 hc
          refine lv_iconst (v := 0) hx hb dX4_settle_41 (by decide) ?_
          refine lv_istore (i := 4) (lv' := [(4, .int 0), (0, .ref t), (1, .int x1), (2, .int x2), (3, .int x3)]) hx hb dX4_settle_42 hl (by decide) rfl (fun ls hl => ?_)
          refine lv_iconst (v := 0) hx hb dX4_settle_44 (by decide) ?_
          refine lv_istore (i := 5) (lv' := [(5, .int 0), (4, .int 0), (0, .ref t), (1, .int x1), (2, .int x2), (3, .int x3)]) hx hb dX4_settle_45 hl (by decide) rfl (fun ls hl => ?_)
          obtain ⟨n0, h⟩ := h
          exact oX4_settle_47 CX  n0 _ _ _ _ _ _ _ _ _ h hM hS (lv_sub hl [2, 3, 4, 5, 1, 0] rfl)
        · replace h := h.2 hc
          refine lv_bipush (v := (-2)) hx hb dX4_settle_38 (by decide) ?_
          exact W.iret (v := (-2)) hx hb hr (fun t_ ht hW => ⟨⟨_, _, rfl, h, mB_of ht hM⟩, hS.F ht⟩) hS.2.2 dX4_settle_40
      · replace h := h.2 hc
        refine lv_iconst (v := (-1)) hx hb dX4_settle_26 (by decide) ?_
        exact W.iret (v := (-1)) hx hb hr (fun t_ ht hW => ⟨⟨_, _, rfl, h, mB_of ht hM⟩, hS.F ht⟩) hS.2.2 dX4_settle_27
end S_X4_settle
set_option maxHeartbeats 4000000 in
set_option maxRecDepth 100000 in
theorem ok_X4_settle (l : Launch) (D : va_G) (cs : CS) (A : Nat → Prop) (t : Nat) (x1 : Int32) (x2 : Int32) (x3 : Int32) (σ : MM) (k : Int32 → MM → Prop) (h : wX4_settle t x1 x2 x3 σ k) : Met l yX4_settle wsX4_settle rmX4_settle (va_Pc [.ref t, .int x1, .int x2, .int x3] (mP D cs A σ)) (va_Qi k (mB D cs A) A) 0 0 A := by
  refine Met.ofW (cc := cX4_settle) (maxL := 6) (ret := (some .int)) (by decide) rfl ?_
  intro p e s m args below meth c s₁ B hml hv
  obtain ⟨rfl, hM, hE⟩ := hv
  have CX : CXM p s m _ meth c cX4_settle 6 (some .int) "settle" RX4 wsX4_settle D cs A := ⟨B.exec, B.bytes, hml, B.returns, (name_of_methodNamed B.named B.method).1, findClass_of_methodNamed B.named, atoms_spec (ws := wsX4_settle) B.pre, B.notSynchronized, hE⟩
  have hl := lv_entry ([.ref t, .int x1, .int x2, .int x3]) (n := 6) (Nat.le_of_ble_eq_true rfl)
  rw [lg_entry_eq]
  exact oX4_settle_0 CX x1 x2 x3 σ _ _ _ h hM va_S.rf hl
/-! WorkCoderModel.isStale(I)Z -/
abbrev rmX4_isStale : Room := { frames := 2, cells := 0, slots := 0, locals := 51 }
theorem inX4_isStale_4 : ∀ w ∈ wsX40, w ∈ wsX4_isStale := fun _ h => List.mem_cons_of_mem _ (List.mem_append_right _ (h))
section S_X4_isStale
variable {p : Program} {l : Launch} {e : Env} {s : State} {m : MethodId} {args : Array Value} {below : List Frame} {meth : Method} {c : Code} {D : va_G} {cs : CS} {A : Nat → Prop}
set_option maxHeartbeats 4000000 in
set_option maxRecDepth 100000 in
theorem oX4_isStale_0 {k : Int32 → MM → Prop} {t : Nat} (CX : CXM p s m args meth c cX4_isStale 2 (some .boolean) "isStale" RX4 wsX4_isStale D cs A) : ∀ (x1 : Int32) (σ : MM) (H : Heap) (locs : List Loc) (ls : Array Slot), wX4_isStale t x1 σ k → PH D cs A σ H → va_S A s.heap H locs → lv_has ls 2 [(0, .ref t), (1, .int x1)] → W p l e (headSpec wsX4_isStale rmX4_isStale).room s m args below meth c H locs 0 0 (MQ below (va_Qi k (mB D cs A) A) args s 0 0 A) (F0 m 0 ls []) := by
  intro x1 σ H locs ls h hM hS hl
  have ⟨hx, hb, hml, hr, hnm, hown, hts, hlocks, hE⟩ := CX
  unfold wX4_isStale at h
  refine lv_aload_n hx hb dX4_isStale_0 rfl (lv_at hl 0 rfl) ?_
  obtain ⟨hk_1, h⟩ := h
  refine gf4_13 hx hb hts inX4_isStale_4 hown hE.1 hM hk_1 (hts (.fieldLink RX4 46 "WorkCoderModel" "state" "[I") (by decide +kernel)) dX4_isStale_1 (fun r_2 er_2 => ?_)
  replace h := h r_2 er_2
  clear er_2
  refine lv_iload_n hx hb dX4_isStale_4 rfl (lv_at hl 1 rfl) ?_
  obtain ⟨a_3, rfl, h⟩ := h
  obtain ⟨hk_4, h⟩ := h
  obtain ⟨hv_5, h⟩ := h
  refine mm_iald hx hb hE.1 hM hk_4 hv_5 dX4_isStale_5 ?_
  refine lv_iconst (v := 1) hx hb dX4_isStale_6 (by decide) ?_
  refine lv_icmp_ne (tgt := 38) hx hb dX4_isStale_7 (by decide) (fun hc => ?_) (fun hc => ?_)
  · replace h := h.1 hc
    refine lv_iconst (v := 0) hx hb dX4_isStale_38 (by decide) ?_
    exact W.zret (v := 0) (ty := .boolean) hx hb hr rfl (fun t_ ht hW => ⟨⟨_, _, rfl, h, mB_of ht hM⟩, hS.F ht⟩) hS.2.2 dX4_isStale_39
  · replace h := h.2 hc
    refine lv_aload_n hx hb dX4_isStale_10 rfl (lv_at hl 0 rfl) ?_
    refine gf4_15 hx hb hts inX4_isStale_4 hown hE.1 hM hk_1 (hts (.fieldLink RX4 52 "WorkCoderModel" "byWhat" "[I") (by decide +kernel)) dX4_isStale_11 (fun r_6 er_6 => ?_)
    replace h := h r_6 er_6
    clear er_6
    refine lv_iload_n hx hb dX4_isStale_14 rfl (lv_at hl 1 rfl) ?_
    obtain ⟨a_7, rfl, h⟩ := h
    obtain ⟨hk_8, h⟩ := h
    obtain ⟨hv_9, h⟩ := h
    refine mm_iald hx hb hE.1 hM hk_8 hv_9 dX4_isStale_15 ?_
    refine lv_if_ne (tgt := 38) hx hb dX4_isStale_16 (by decide) (fun hc => ?_) (fun hc => ?_)
    · replace h := h.1 hc
      refine lv_iconst (v := 0) hx hb dX4_isStale_38 (by decide) ?_
      exact W.zret (v := 0) (ty := .boolean) hx hb hr rfl (fun t_ ht hW => ⟨⟨_, _, rfl, h, mB_of ht hM⟩, hS.F ht⟩) hS.2.2 dX4_isStale_39
    · replace h := h.2 hc
      refine lv_aload_n hx hb dX4_isStale_19 rfl (lv_at hl 0 rfl) ?_
      refine lv_iload_n hx hb dX4_isStale_20 rfl (lv_at hl 1 rfl) ?_
      refine lv_iconst (v := (-1)) hx hb dX4_isStale_21 (by decide) ?_
      refine clVi (C := RX4) (b := t) (As := [.int x1, .int (-1)]) (rest := []) ⟨hx, hb, hml, hown, hts⟩ hM hE hS (ok_X4_byRules l D cs A t x1 (-1) _ _ h) (cwV 2 hts gX4_isStale_X4_byRules rfl rfl rfl (by decide +kernel) ⟨(Nat.le_of_ble_eq_true rfl), (Nat.le_of_ble_eq_true rfl)⟩) (rc4 hM hE.1 hk_1) rfl hl.1 rfl (Nat.le_of_ble_eq_true rfl) dX4_isStale_22 ⟨(Nat.le_of_ble_eq_true rfl), (Nat.le_of_ble_eq_true rfl)⟩ (fun x_11 σ_10 H locs h1 hM hS => ?_)
      replace h := h1
      clear h1
      refine lv_aload_n hx hb dX4_isStale_25 rfl (lv_at hl 0 rfl) ?_
      obtain ⟨hk_12, h⟩ := h
      refine gf4_14 hx hb hts inX4_isStale_4 hown hE.1 hM hk_12 (hts (.fieldLink RX4 49 "WorkCoderModel" "codeOf" "[I") (by decide +kernel)) dX4_isStale_26 (fun r_13 er_13 => ?_)
      replace h := h r_13 er_13
      clear er_13
      refine lv_iload_n hx hb dX4_isStale_29 rfl (lv_at hl 1 rfl) ?_
      obtain ⟨a_14, rfl, h⟩ := h
      obtain ⟨hk_15, h⟩ := h
      obtain ⟨hv_16, h⟩ := h
      refine mm_iald hx hb hE.1 hM hk_15 hv_16 dX4_isStale_30 ?_
      refine lv_icmp_eq (tgt := 38) hx hb dX4_isStale_31 (by decide) (fun hc => ?_) (fun hc => ?_)
      · replace h := h.1 hc
        refine lv_iconst (v := 0) hx hb dX4_isStale_38 (by decide) ?_
        exact W.zret (v := 0) (ty := .boolean) hx hb hr rfl (fun t_ ht hW => ⟨⟨_, _, rfl, h, mB_of ht hM⟩, hS.F ht⟩) hS.2.2 dX4_isStale_39
      · replace h := h.2 hc
        refine lv_iconst (v := 1) hx hb dX4_isStale_34 (by decide) ?_
        refine lv_goto (tgt := 39) hx hb dX4_isStale_35 (by decide) ?_
        exact W.zret (v := 1) (ty := .boolean) hx hb hr rfl (fun t_ ht hW => ⟨⟨_, _, rfl, h, mB_of ht hM⟩, hS.F ht⟩) hS.2.2 dX4_isStale_39
end S_X4_isStale
set_option maxHeartbeats 4000000 in
set_option maxRecDepth 100000 in
theorem ok_X4_isStale (l : Launch) (D : va_G) (cs : CS) (A : Nat → Prop) (t : Nat) (x1 : Int32) (σ : MM) (k : Int32 → MM → Prop) (h : wX4_isStale t x1 σ k) : Met l yX4_isStale wsX4_isStale rmX4_isStale (va_Pc [.ref t, .int x1] (mP D cs A σ)) (va_Qi k (mB D cs A) A) 0 0 A := by
  refine Met.ofW (cc := cX4_isStale) (maxL := 2) (ret := (some .boolean)) (by decide) rfl ?_
  intro p e s m args below meth c s₁ B hml hv
  obtain ⟨rfl, hM, hE⟩ := hv
  have CX : CXM p s m _ meth c cX4_isStale 2 (some .boolean) "isStale" RX4 wsX4_isStale D cs A := ⟨B.exec, B.bytes, hml, B.returns, (name_of_methodNamed B.named B.method).1, findClass_of_methodNamed B.named, atoms_spec (ws := wsX4_isStale) B.pre, B.notSynchronized, hE⟩
  have hl := lv_entry ([.ref t, .int x1]) (n := 2) (Nat.le_of_ble_eq_true rfl)
  rw [lg_entry_eq]
  exact oX4_isStale_0 CX x1 σ _ _ _ h hM va_S.rf hl
