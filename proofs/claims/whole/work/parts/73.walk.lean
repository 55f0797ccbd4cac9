/-! WorkCoderModel.recode()I -/
abbrev rmX4_recode : Room := { frames := 3, cells := 0, slots := 0, locals := 72 }
theorem inX4_recode_4 : ∀ w ∈ wsX40, w ∈ wsX4_recode := fun _ h => List.mem_cons_of_mem _ (List.mem_append_right _ (h))
section S_X4_recode
variable {p : Program} {l : Launch} {e : Env} {s : State} {m : MethodId} {args : Array Value} {below : List Frame} {meth : Method} {c : Code} {D : va_G} {cs : CS} {A : Nat → Prop}
set_option maxHeartbeats 4000000 in
set_option maxRecDepth 100000 in
theorem oX4_recode_4 {k : Int32 → MM → Prop} {t : Nat} (CX : CXM p s m args meth c cX4_recode 3 (some .int) "recode" RX4 wsX4_recode D cs A) : ∀ (n : Nat), ∀ (x1 : Int32) (x2 : Int32) (σ : MM) (H : Heap) (locs : List Loc) (ls : Array Slot), wX4_recode_4 k t  n x1 x2 σ → PH D cs A σ H → va_S A s.heap H locs → lv_has ls 3 [(0, .ref t), (1, .int x1), (2, .int x2)] → W p l e (headSpec wsX4_recode rmX4_recode).room s m args below meth c H locs 0 0 (MQ below (va_Qi k (mB D cs A) A) args s 0 0 A) (F0 m 4 ls []) := by
  intro n
  induction n with
  | zero => intro x1 x2 σ H locs ls h; exact h.elim
  | succ n ih =>
    intro x1 x2 σ H locs ls h hM hS hl
    have ⟨hx, hb, hml, hr, hnm, hown, hts, hlocks, hE⟩ := CX
    unfold wX4_recode_4 at h
    refine lv_iload_n hx hb dX4_recode_4 rfl (lv_at hl 2 rfl) ?_
    refine lv_iconst (v := 2) hx hb dX4_recode_5 (by decide) ?_
    refine lv_aload_n hx hb dX4_recode_6 rfl (lv_at hl 0 rfl) ?_
    obtain ⟨hk_1, h⟩ := h
    refine gf4_8 hx hb hts inX4_recode_4 hown hE.1 hM hk_1 (hts (.fieldLink RX4 116 "WorkCoderModel" "answers" "I") (by decide +kernel)) dX4_recode_7 ?_
    refine lv_imul hx hb dX4_recode_10 ?_
    refine lv_icmp_ge (tgt := 47) hx hb dX4_recode_11 (by decide) (fun hc => ?_) (fun hc => ?_)
    · replace h := h.1 hc
      refine lv_iload_n hx hb dX4_recode_47 rfl (lv_at hl 1 rfl) ?_
      exact W.iret (v := x1) hx hb hr (fun t_ ht hW => ⟨⟨_, _, rfl, h, mB_of ht hM⟩, hS.F ht⟩) hS.2.2 dX4_recode_48
    · replace h := h.2 hc
      refine lv_aload_n hx hb dX4_recode_14 rfl (lv_at hl 0 rfl) ?_
      refine lv_iload_n hx hb dX4_recode_15 rfl (lv_at hl 2 rfl) ?_
      refine clVi (C := RX4) (b := t) (As := [.int x2]) (rest := []) ⟨hx, hb, hml, hown, hts⟩ hM hE hS (ok_X4_isItem l D cs A t x2 _ _ h) (cwV 1 hts gX4_recode_X4_isItem rfl rfl rfl (by decide +kernel) ⟨(Nat.le_of_ble_eq_true rfl), (Nat.le_of_ble_eq_true rfl)⟩) (rc4 hM hE.1 hk_1) rfl hl.1 rfl (Nat.le_of_ble_eq_true rfl) dX4_recode_16 ⟨(Nat.le_of_ble_eq_true rfl), (Nat.le_of_ble_eq_true rfl)⟩ (fun x_3 σ_2 H locs h1 hM hS => ?_)
      replace h := h1
      clear h1
      refine lv_if_eq (tgt := 41) hx hb dX4_recode_19 (by decide) (fun hc => ?_) (fun hc => ?_)
      · replace h := h.1 hc
        obtain ⟨x_4, ex_4⟩ : ∃ y : Int32, y = x2 + 1 := ⟨_, rfl⟩
        replace h := h x_4 ex_4
        refine lv_iinc (v := x_4) (lv' := [(2, .int x_4), (0, .ref t), (1, .int x1)]) hx hb dX4_recode_41 hl (k := 2) rfl (by rw [ex_4]; rfl) (by decide) rfl (fun ls hl => ?_)
        refine lv_goto (tgt := 4) hx hb dX4_recode_44 (by decide) ?_
        exact ih _ _ _ _ _ _ h hM hS (lv_sub hl [1, 2, 0] rfl)
      · replace h := h.2 hc
        refine lv_aload_n hx hb dX4_recode_22 rfl (lv_at hl 0 rfl) ?_
        refine lv_iload_n hx hb dX4_recode_23 rfl (lv_at hl 2 rfl) ?_
        obtain ⟨hk_5, h⟩ := h
        refine clVi (C := RX4) (b := t) (As := [.int x2]) (rest := []) ⟨hx, hb, hml, hown, hts⟩ hM hE hS (ok_X4_isStale l D cs A t x2 _ _ h) (cwV 1 hts gX4_recode_X4_isStale rfl rfl rfl (by decide +kernel) ⟨(Nat.le_of_ble_eq_true rfl), (Nat.le_of_ble_eq_true rfl)⟩) (rc4 hM hE.1 hk_5) rfl hl.1 rfl (Nat.le_of_ble_eq_true rfl) dX4_recode_24 ⟨(Nat.le_of_ble_eq_true rfl), (Nat.le_of_ble_eq_true rfl)⟩ (fun x_7 σ_6 H locs h1 hM hS => ?_)
        replace h := h1
        clear h1
        refine lv_if_ne (tgt := 33) hx hb dX4_recode_27 (by decide) (fun hc => ?_) (fun hc => ?_)
        · replace h := h.1 hc
          refine lv_aload_n hx hb dX4_recode_33 rfl (lv_at hl 0 rfl) ?_
          refine lv_iload_n hx hb dX4_recode_34 rfl (lv_at hl 2 rfl) ?_
          obtain ⟨hk_8, h⟩ := h
          refine clVv (C := RX4) (b := t) (As := [.int x2]) (rest := []) ⟨hx, hb, hml, hown, hts⟩ hM hE hS (ok_X4_anew l D cs A t x2 _ _ h) (cwV 1 hts gX4_recode_X4_anew rfl rfl rfl (by decide +kernel) ⟨(Nat.le_of_ble_eq_true rfl), (Nat.le_of_ble_eq_true rfl)⟩) (rc4 hM hE.1 hk_8) rfl hl.1 rfl (Nat.le_of_ble_eq_true rfl) dX4_recode_35 ⟨(Nat.le_of_ble_eq_true rfl), (Nat.le_of_ble_eq_true rfl)⟩ (fun σ_9 H locs h1 hM hS => ?_)
          replace h := h1
          clear h1
          obtain ⟨x_11, ex_11⟩ : ∃ y : Int32, y = x1 + 1 := ⟨_, rfl⟩
          replace h := h x_11 ex_11
          refine lv_iinc (v := x_11) (lv' := [(1, .int x_11), (0, .ref t), (2, .int x2)]) hx hb dX4_recode_38 hl (k := 1) rfl (by rw [ex_11]; rfl) (by decide) rfl (fun ls hl => ?_)
          obtain ⟨x_12, ex_12⟩ : ∃ y : Int32, y = x2 + 1 := ⟨_, rfl⟩
          replace h := h x_12 ex_12
          refine lv_iinc (v := x_12) (lv' := [(2, .int x_12), (1, .int x_11), (0, .ref t)]) hx hb dX4_recode_41 hl (k := 2) rfl (by rw [ex_12]; rfl) (by decide) rfl (fun ls hl => ?_)
          refine lv_goto (tgt := 4) hx hb dX4_recode_44 (by decide) ?_
          exact ih _ _ _ _ _ _ h hM hS (lv_sub hl [2, 1, 0] rfl)
        · replace h := h.2 hc
          refine lv_goto (tgt := 41) hx hb dX4_recode_30 (by decide) ?_
          obtain ⟨x_13, ex_13⟩ : ∃ y : Int32, y = x2 + 1 := ⟨_, rfl⟩
          replace h := h x_13 ex_13
          refine lv_iinc (v := x_13) (lv' := [(2, .int x_13), (0, .ref t), (1, .int x1)]) hx hb dX4_recode_41 hl (k := 2) rfl (by rw [ex_13]; rfl) (by decide) rfl (fun ls hl => ?_)
          refine lv_goto (tgt := 4) hx hb dX4_recode_44 (by decide) ?_
          exact ih _ _ _ _ _ _ h hM hS (lv_sub hl [1, 2, 0] rfl)
set_option maxHeartbeats 4000000 in
set_option maxRecDepth 100000 in
theorem oX4_recode_0 {k : Int32 → MM → Prop} {t : Nat} (CX : CXM p s m args meth c cX4_recode 3 (some .int) "recode" RX4 wsX4_recode D cs A) : ∀ (σ : MM) (H : Heap) (locs : List Loc) (ls : Array Slot), wX4_recode t σ k → PH D cs A σ H → va_S A s.heap H locs → lv_has ls 3 [(0, .ref t)] → W p l e (headSpec wsX4_recode rmX4_recode).room s m args below meth c H locs 0 0 (MQ below (va_Qi k (mB D cs A) A) args s 0 0 A) (F0 m 0 ls []) := by
  intro  σ H locs ls h hM hS hl
  have ⟨hx, hb, hml, hr, hnm, hown, hts, hlocks, hE⟩ := CX
  unfold wX4_recode at h
  refine lv_iconst (v := 0) hx hb dX4_recode_0 (by decide) ?_
  refine lv_istore_n (i := 1) (lv' := [(1, .int 0), (0, .ref t)]) hx hb dX4_recode_1 rfl hl (by decide) rfl (fun ls hl => ?_)
  refine lv_iconst (v := 0) hx hb dX4_recode_2 (by decide) ?_
  refine lv_istore_n (i := 2) (lv' := [(2, .int 0), (1, .int 0), (0, .ref t)]) hx hb dX4_recode_3 rfl hl (by decide) rfl (fun ls hl => ?_)
  obtain ⟨n0, h⟩ := h
  exact oX4_recode_4 CX  n0 _ _ _ _ _ _ h hM hS (lv_sub hl [2, 1, 0] rfl)
end S_X4_recode
set_option maxHeartbeats 4000000 in
set_option maxRecDepth 100000 in
theorem ok_X4_recode (l : Launch) (D : va_G) (cs : CS) (A : Nat → Prop) (t : Nat) (σ : MM) (k : Int32 → MM → Prop) (h : wX4_recode t σ k) : Met l yX4_recode wsX4_recode rmX4_recode (va_Pc [.ref t] (mP D cs A σ)) (va_Qi k (mB D cs A) A) 0 0 A := by
  refine Met.ofW (cc := cX4_recode) (maxL := 3) (ret := (some .int)) (by decide) rfl ?_
  intro p e s m args below meth c s₁ B hml hv
  obtain ⟨rfl, hM, hE⟩ := hv
  have CX : CXM p s m _ meth c cX4_recode 3 (some .int) "recode" RX4 wsX4_recode D cs A := ⟨B.exec, B.bytes, hml, B.returns, (name_of_methodNamed B.named B.method).1, findClass_of_methodNamed B.named, atoms_spec (ws := wsX4_recode) B.pre, B.notSynchronized, hE⟩
  have hl := lv_entry ([.ref t]) (n := 3) (Nat.le_of_ble_eq_true rfl)
  rw [lg_entry_eq]
  exact oX4_recode_0 CX  σ _ _ _ h hM va_S.rf hl
/-! WorkCoderModel.second(III)I -/
abbrev rmX4_second : Room := { frames := 2, cells := 0, slots := 0, locals := 43 }
theorem inX4_second_4 : ∀ w ∈ wsX40, w ∈ wsX4_second := fun _ h => List.mem_cons_of_mem _ (List.mem_append_right _ (h))
section S_X4_second
variable {p : Program} {l : Launch} {e : Env} {s : State} {m : MethodId} {args : Array Value} {below : List Frame} {meth : Method} {c : Code} {D : va_G} {cs : CS} {A : Nat → Prop}
set_option maxHeartbeats 4000000 in
set_option maxRecDepth 100000 in
theorem oX4_second_0 {k : Int32 → MM → Prop} {t : Nat} (CX : CXM p s m args meth c cX4_second 4 (some .int) "second" RX4 wsX4_second D cs A) : ∀ (x1 : Int32) (x2 : Int32) (x3 : Int32) (σ : MM) (H : Heap) (locs : List Loc) (ls : Array Slot), wX4_second t x1 x2 x3 σ k → PH D cs A σ H → va_S A s.heap H locs → lv_has ls 4 [(0, .ref t), (1, .int x1), (2, .int x2), (3, .int x3)] → W p l e (headSpec wsX4_second rmX4_second).room s m args below meth c H locs 0 0 (MQ below (va_Qi k (mB D cs A) A) args s 0 0 A) (F0 m 0 ls []) := by
  intro x1 x2 x3 σ H locs ls h hM hS hl
  have ⟨hx, hb, hml, hr, hnm, hown, hts, hlocks, hE⟩ := CX
  unfold wX4_second at h
  refine lv_aload_n hx hb dX4_second_0 rfl (lv_at hl 0 rfl) ?_
  refine lv_iload_n hx hb dX4_second_1 rfl (lv_at hl 1 rfl) ?_
  obtain ⟨hk_1, h⟩ := h
  refine clVi (C := RX4) (b := t) (As := [.int x1]) (rest := []) ⟨hx, hb, hml, hown, hts⟩ hM hE hS (ok_X4_isItem l D cs A t x1 _ _ h) (cwV 1 hts gX4_second_X4_isItem rfl rfl rfl (by decide +kernel) ⟨(Nat.le_of_ble_eq_true rfl), (Nat.le_of_ble_eq_true rfl)⟩) (rc4 hM hE.1 hk_1) rfl hl.1 rfl (Nat.le_of_ble_eq_true rfl) dX4_second_2 ⟨(Nat.le_of_ble_eq_true rfl), (Nat.le_of_ble_eq_true rfl)⟩ (fun x_3 σ_2 H locs h1 hM hS => ?_)
  replace h := h1
  clear h1
  refine lv_if_eq (tgt := 26) hx hb dX4_second_5 (by decide) (fun hc => ?_) (fun hc => ?_)
  · replace h := h.1 hc
    refine lv_iconst (v := (-1)) hx hb dX4_second_26 (by decide) ?_
    exact W.iret (v := (-1)) hx hb hr (fun t_ ht hW => ⟨⟨_, _, rfl, h, mB_of ht hM⟩, hS.F ht⟩) hS.2.2 dX4_second_27
  · replace h := h.2 hc
    refine lv_iload_n hx hb dX4_second_8 rfl (lv_at hl 2 rfl) ?_
    refine lv_iconst (v := 0) hx hb dX4_second_9 (by decide) ?_
    refine lv_bipush (v := 9) hx hb dX4_second_10 (by decide) ?_
    refine clSi (As := [.int x2, .int 0, .int 9]) (rest := []) ⟨hx, hb, hml, hown, hts⟩ hM hE hS (ok_X4_in l D cs A x2 0 9 _ _ h) (va_cwS 3 hts gX4_second_X4_in rfl rfl rfl (by decide +kernel) ⟨(Nat.le_of_ble_eq_true rfl), (Nat.le_of_ble_eq_true rfl)⟩) rfl hl.1 rfl (Nat.le_of_ble_eq_true rfl) dX4_second_12 ⟨(Nat.le_of_ble_eq_true rfl), (Nat.le_of_ble_eq_true rfl)⟩ (fun x_5 σ_4 H locs h1 hM hS => ?_)
    replace h := h1
    clear h1
    refine lv_if_eq (tgt := 26) hx hb dX4_second_15 (by decide) (fun hc => ?_) (fun hc => ?_)
    · replace h := h.1 hc
      refine lv_iconst (v := (-1)) hx hb dX4_second_26 (by decide) ?_
      exact W.iret (v := (-1)) hx hb hr (fun t_ ht hW => ⟨⟨_, _, rfl, h, mB_of ht hM⟩, hS.F ht⟩) hS.2.2 dX4_second_27
    · replace h := h.2 hc
      refine lv_aload_n hx hb dX4_second_18 rfl (lv_at hl 0 rfl) ?_
      refine lv_iload_n hx hb dX4_second_19 rfl (lv_at hl 3 rfl) ?_
      obtain ⟨hk_6, h⟩ := h
      refine clVi (C := RX4) (b := t) (As := [.int x3]) (rest := []) ⟨hx, hb, hml, hown, hts⟩ hM hE hS (ok_X4_isCode l D cs A t x3 _ _ h) (cwV 1 hts gX4_second_X4_isCode rfl rfl rfl (by decide +kernel) ⟨(Nat.le_of_ble_eq_true rfl), (Nat.le_of_ble_eq_true rfl)⟩) (rc4 hM hE.1 hk_6) rfl hl.1 rfl (Nat.le_of_ble_eq_true rfl) dX4_second_20 ⟨(Nat.le_of_ble_eq_true rfl), (Nat.le_of_ble_eq_true rfl)⟩ (fun x_8 σ_7 H locs h1 hM hS => ?_)
      replace h := h1
      clear h1
      refine lv_if_ne (tgt := 28) hx hb dX4_second_23 (by decide) (fun hc => ?_) (fun hc => ?_)
      · replace h := h.1 hc
        refine lv_aload_n hx hb dX4_second_28 rfl (lv_at hl 0 rfl) ?_
        obtain ⟨hk_9, h⟩ := h
        refine gf4_13 hx hb hts inX4_second_4 hown hE.1 hM hk_9 (hts (.fieldLink RX4 46 "WorkCoderModel" "state" "[I") (by decide +kernel)) dX4_second_29 (fun r_10 er_10 => ?_)
        replace h := h r_10 er_10
        clear er_10
        refine lv_iload_n hx hb dX4_second_32 rfl (lv_at hl 1 rfl) ?_
        obtain ⟨a_11, rfl, h⟩ := h
        obtain ⟨hk_12, h⟩ := h
        obtain ⟨hv_13, h⟩ := h
        refine mm_iald hx hb hE.1 hM hk_12 hv_13 dX4_second_33 ?_
        refine lv_iconst (v := 1) hx hb dX4_second_34 (by decide) ?_
        refine lv_icmp_ne (tgt := 58) hx hb dX4_second_35 (by decide) (fun hc => ?_) (fun hc => ?_)
        · replace h := h.1 hc
          refine lv_bipush (v := (-2)) hx hb dX4_second_58 (by decide) ?_
          exact W.iret (v := (-2)) hx hb hr (fun t_ ht hW => ⟨⟨_, _, rfl, h, mB_of ht hM⟩, hS.F ht⟩) hS.2.2 dX4_second_60
        · replace h := h.2 hc
          refine lv_aload_n hx hb dX4_second_38 rfl (lv_at hl 0 rfl) ?_
          refine gf4_15 hx hb hts inX4_second_4 hown hE.1 hM hk_9 (hts (.fieldLink RX4 52 "WorkCoderModel" "byWhat" "[I") (by decide +kernel)) dX4_second_39 (fun r_14 er_14 => ?_)
          replace h := h r_14 er_14
          clear er_14
          refine lv_iload_n hx hb dX4_second_42 rfl (lv_at hl 1 rfl) ?_
          obtain ⟨a_15, rfl, h⟩ := h
          obtain ⟨hk_16, h⟩ := h
          obtain ⟨hv_17, h⟩ := h
          refine mm_iald hx hb hE.1 hM hk_16 hv_17 dX4_second_43 ?_
          refine lv_iconst (v := 2) hx hb dX4_second_44 (by decide) ?_
          refine lv_icmp_ne (tgt := 61) hx hb dX4_second_45 (by decide) (fun hc => ?_) (fun hc => ?_)
          · replace h := h.1 hc
            refine lv_aload_n hx hb dX4_second_61 rfl (lv_at hl 0 rfl) ?_
            refine gf4_17 hx hb hts inX4_second_4 hown hE.1 hM hk_9 (hts (.fieldLink RX4 58 "WorkCoderModel" "second" "[I") (by decide +kernel)) dX4_second_62 (fun r_18 er_18 => ?_)
            replace h := h r_18 er_18
            clear er_18
            refine lv_iload_n hx hb dX4_second_65 rfl (lv_at hl 1 rfl) ?_
            refine lv_iload_n hx hb dX4_second_66 rfl (lv_at hl 3 rfl) ?_
            obtain ⟨a_19, rfl, h⟩ := h
            obtain ⟨hk_20, h⟩ := h
            obtain ⟨hv_21, h⟩ := h
            refine mm_iast hx hb hE.1 hM hS hk_20 hv_21 dX4_second_67 (fun H locs hM hS => ?_)
            replace h := h _ rfl
            refine lv_iconst (v := 1) hx hb dX4_second_68 (by decide) ?_
            exact W.iret (v := 1) hx hb hr (fun t_ ht hW => ⟨⟨_, _, rfl, h, mB_of ht hM⟩, hS.F ht⟩) hS.2.2 dX4_second_69
          · replace h := h.2 hc
            refine lv_aload_n hx hb dX4_second_48 rfl (lv_at hl 0 rfl) ?_
            refine gf4_16 hx hb hts inX4_second_4 hown hE.1 hM hk_9 (hts (.fieldLink RX4 55 "WorkCoderModel" "byNumber" "[I") (by decide +kernel)) dX4_second_49 (fun r_23 er_23 => ?_)
            replace h := h r_23 er_23
            clear er_23
            refine lv_iload_n hx hb dX4_second_52 rfl (lv_at hl 1 rfl) ?_
            obtain ⟨a_24, rfl, h⟩ := h
            obtain ⟨hk_25, h⟩ := h
            obtain ⟨hv_26, h⟩ := h
            refine mm_iald hx hb hE.1 hM hk_25 hv_26 dX4_second_53 ?_
            refine lv_iload_n hx hb dX4_second_54 rfl (lv_at hl 2 rfl) ?_
            refine lv_icmp_ne (tgt := 61) hx hb dX4_second_55 (by decide) (fun hc => ?_) (fun hc => ?_)
            · replace h := h.1 hc
              refine lv_aload_n hx hb dX4_second_61 rfl (lv_at hl 0 rfl) ?_
              refine gf4_17 hx hb hts inX4_second_4 hown hE.1 hM hk_9 (hts (.fieldLink RX4 58 "WorkCoderModel" "second" "[I") (by decide +kernel)) dX4_second_62 (fun r_27 er_27 => ?_)
              replace h := h r_27 er_27
              clear er_27
              refine lv_iload_n hx hb dX4_second_65 rfl (lv_at hl 1 rfl) ?_
              refine lv_iload_n hx hb dX4_second_66 rfl (lv_at hl 3 rfl) ?_
              obtain ⟨a_28, rfl, h⟩ := h
              obtain ⟨hk_29, h⟩ := h
              obtain ⟨hv_30, h⟩ := h
              refine mm_iast hx hb hE.1 hM hS hk_29 hv_30 dX4_second_67 (fun H locs hM hS => ?_)
              replace h := h _ rfl
              refine lv_iconst (v := 1) hx hb dX4_second_68 (by decide) ?_
              exact W.iret (v := 1) hx hb hr (fun t_ ht hW => ⟨⟨_, _, rfl, h, mB_of ht hM⟩, hS.F ht⟩) hS.2.2 dX4_second_69
            · replace h := h.2 hc
              refine lv_bipush (v := (-2)) hx hb dX4_second_58 (by decide) ?_
              exact W.iret (v := (-2)) hx hb hr (fun t_ ht hW => ⟨⟨_, _, rfl, h, mB_of ht hM⟩, hS.F ht⟩) hS.2.2 dX4_second_60
      · replace h := h.2 hc
        refine lv_iconst (v := (-1)) hx hb dX4_second_26 (by decide) ?_
        exact W.iret (v := (-1)) hx hb hr (fun t_ ht hW => ⟨⟨_, _, rfl, h, mB_of ht hM⟩, hS.F ht⟩) hS.2.2 dX4_second_27
end S_X4_second
set_option maxHeartbeats 4000000 in
set_option maxRecDepth 100000 in
theorem ok_X4_second (l : Launch) (D : va_G) (cs : CS) (A : Nat → Prop) (t : Nat) (x1 : Int32) (x2 : Int32) (x3 : Int32) (σ : MM) (k : Int32 → MM → Prop) (h : wX4_second t x1 x2 x3 σ k) : Met l yX4_second wsX4_second rmX4_second (va_Pc [.ref t, .int x1, .int x2, .int x3] (mP D cs A σ)) (va_Qi k (mB D cs A) A) 0 0 A := by
  refine Met.ofW (cc := cX4_second) (maxL := 4) (ret := (some .int)) (by decide) rfl ?_
  intro p e s m args below meth c s₁ B hml hv
  obtain ⟨rfl, hM, hE⟩ := hv
  have CX : CXM p s m _ meth c cX4_second 4 (some .int) "second" RX4 wsX4_second D cs A := ⟨B.exec, B.bytes, hml, B.returns, (name_of_methodNamed B.named B.method).1, findClass_of_methodNamed B.named, atoms_spec (ws := wsX4_second) B.pre, B.notSynchronized, hE⟩
  have hl := lv_entry ([.ref t, .int x1, .int x2, .int x3]) (n := 4) (Nat.le_of_ble_eq_true rfl)
  rw [lg_entry_eq]
  exact oX4_second_0 CX x1 x2 x3 σ _ _ _ h hM va_S.rf hl
/-! WorkCoderModel.told(II)I -/
abbrev rmX4_told : Room := { frames := 3, cells := 0, slots := 0, locals := 72 }
theorem inX4_told_4 : ∀ w ∈ wsX40, w ∈ wsX4_told := fun _ h => List.mem_cons_of_mem _ (List.mem_append_right _ (h))
section S_X4_told
variable {p : Program} {l : Launch} {e : Env} {s : State} {m : MethodId} {args : Array Value} {below : List Frame} {meth : Method} {c : Code} {D : va_G} {cs : CS} {A : Nat → Prop}
set_option maxHeartbeats 4000000 in
set_option maxRecDepth 100000 in
theorem oX4_told_0 {k : Int32 → MM → Prop} {t : Nat} (CX : CXM p s m args meth c cX4_told 3 (some .int) "told" RX4 wsX4_told D cs A) : ∀ (x1 : Int32) (x2 : Int32) (σ : MM) (H : Heap) (locs : List Loc) (ls : Array Slot), wX4_told t x1 x2 σ k → PH D cs A σ H → va_S A s.heap H locs → lv_has ls 3 [(0, .ref t), (1, .int x1), (2, .int x2)] → W p l e (headSpec wsX4_told rmX4_told).room s m args below meth c H locs 0 0 (MQ below (va_Qi k (mB D cs A) A) args s 0 0 A) (F0 m 0 ls []) := by
  intro x1 x2 σ H locs ls h hM hS hl
  have ⟨hx, hb, hml, hr, hnm, hown, hts, hlocks, hE⟩ := CX
  unfold wX4_told at h
  refine lv_aload_n hx hb dX4_told_0 rfl (lv_at hl 0 rfl) ?_
  refine lv_iload_n hx hb dX4_told_1 rfl (lv_at hl 1 rfl) ?_
  obtain ⟨hk_1, h⟩ := h
  refine clVi (C := RX4) (b := t) (As := [.int x1]) (rest := []) ⟨hx, hb, hml, hown, hts⟩ hM hE hS (ok_X4_isItem l D cs A t x1 _ _ h) (cwV 1 hts gX4_told_X4_isItem rfl rfl rfl (by decide +kernel) ⟨(Nat.le_of_ble_eq_true rfl), (Nat.le_of_ble_eq_true rfl)⟩) (rc4 hM hE.1 hk_1) rfl hl.1 rfl (Nat.le_of_ble_eq_true rfl) dX4_told_2 ⟨(Nat.le_of_ble_eq_true rfl), (Nat.le_of_ble_eq_true rfl)⟩ (fun x_3 σ_2 H locs h1 hM hS => ?_)
  replace h := h1
  clear h1
  refine lv_if_ne (tgt := 10) hx hb dX4_told_5 (by decide) (fun hc => ?_) (fun hc => ?_)
  · replace h := h.1 hc
    refine lv_iload_n hx hb dX4_told_10 rfl (lv_at hl 2 rfl) ?_
    rcases sw_5 x2 with hc | hc | hc | hc | hc | hc | hc
    · replace h := h.1 hc
      refine lv_tableOut (tgt := 97) hx hb dX4_told_11 hc (by decide) ?_
      refine lv_iconst (v := (-1)) hx hb dX4_told_97 (by decide) ?_
      exact W.iret (v := (-1)) hx hb hr (fun t_ ht hW => ⟨⟨_, _, rfl, h, mB_of ht hM⟩, hS.F ht⟩) hS.2.2 dX4_told_98
    · replace h := h.2.1 hc
      refine lv_tableIn (tgt := 48) (off := 37) hx hb dX4_told_11 (by rw [hc]; decide) (by rw [hc]; decide) (by rw [hc]; rfl) (by decide) ?_
      refine lv_aload_n hx hb dX4_told_48 rfl (lv_at hl 0 rfl) ?_
      obtain ⟨hk_4, h⟩ := h
      refine gf4_13 hx hb hts inX4_told_4 hown hE.1 hM hk_4 (hts (.fieldLink RX4 46 "WorkCoderModel" "state" "[I") (by decide +kernel)) dX4_told_49 (fun r_5 er_5 => ?_)
      replace h := h r_5 er_5
      clear er_5
      refine lv_iload_n hx hb dX4_told_52 rfl (lv_at hl 1 rfl) ?_
      obtain ⟨a_6, rfl, h⟩ := h
      obtain ⟨hk_7, h⟩ := h
      obtain ⟨hv_8, h⟩ := h
      refine mm_iald hx hb hE.1 hM hk_7 hv_8 dX4_told_53 ?_
      exact W.iret (v := mI σ_2 a_6 (ix x1)) hx hb hr (fun t_ ht hW => ⟨⟨_, _, rfl, h, mB_of ht hM⟩, hS.F ht⟩) hS.2.2 dX4_told_54
    · replace h := h.2.2.1 hc
      refine lv_tableIn (tgt := 55) (off := 44) hx hb dX4_told_11 (by rw [hc]; decide) (by rw [hc]; decide) (by rw [hc]; rfl) (by decide) ?_
      refine lv_aload_n hx hb dX4_told_55 rfl (lv_at hl 0 rfl) ?_
      obtain ⟨hk_9, h⟩ := h
      refine gf4_14 hx hb hts inX4_told_4 hown hE.1 hM hk_9 (hts (.fieldLink RX4 49 "WorkCoderModel" "codeOf" "[I") (by decide +kernel)) dX4_told_56 (fun r_10 er_10 => ?_)
      replace h := h r_10 er_10
      clear er_10
      refine lv_iload_n hx hb dX4_told_59 rfl (lv_at hl 1 rfl) ?_
      obtain ⟨a_11, rfl, h⟩ := h
      obtain ⟨hk_12, h⟩ := h
      obtain ⟨hv_13, h⟩ := h
      refine mm_iald hx hb hE.1 hM hk_12 hv_13 dX4_told_60 ?_
      exact W.iret (v := mI σ_2 a_11 (ix x1)) hx hb hr (fun t_ ht hW => ⟨⟨_, _, rfl, h, mB_of ht hM⟩, hS.F ht⟩) hS.2.2 dX4_told_61
    · replace h := h.2.2.2.1 hc
      refine lv_tableIn (tgt := 62) (off := 51) hx hb dX4_told_11 (by rw [hc]; decide) (by rw [hc]; decide) (by rw [hc]; rfl) (by decide) ?_
      refine lv_aload_n hx hb dX4_told_62 rfl (lv_at hl 0 rfl) ?_
      obtain ⟨hk_14, h⟩ := h
      refine gf4_15 hx hb hts inX4_told_4 hown hE.1 hM hk_14 (hts (.fieldLink RX4 52 "WorkCoderModel" "byWhat" "[I") (by decide +kernel)) dX4_told_63 (fun r_15 er_15 => ?_)
      replace h := h r_15 er_15
      clear er_15
      refine lv_iload_n hx hb dX4_told_66 rfl (lv_at hl 1 rfl) ?_
      obtain ⟨a_16, rfl, h⟩ := h
      obtain ⟨hk_17, h⟩ := h
      obtain ⟨hv_18, h⟩ := h
      refine mm_iald hx hb hE.1 hM hk_17 hv_18 dX4_told_67 ?_
      exact W.iret (v := mI σ_2 a_16 (ix x1)) hx hb hr (fun t_ ht hW => ⟨⟨_, _, rfl, h, mB_of ht hM⟩, hS.F ht⟩) hS.2.2 dX4_told_68
    · replace h := h.2.2.2.2.1 hc
      refine lv_tableIn (tgt := 69) (off := 58) hx hb dX4_told_11 (by rw [hc]; decide) (by rw [hc]; decide) (by rw [hc]; rfl) (by decide) ?_
      refine lv_aload_n hx hb dX4_told_69 rfl (lv_at hl 0 rfl) ?_
      obtain ⟨hk_19, h⟩ := h
      refine gf4_16 hx hb hts inX4_told_4 hown hE.1 hM hk_19 (hts (.fieldLink RX4 55 "WorkCoderModel" "byNumber" "[I") (by decide +kernel)) dX4_told_70 (fun r_20 er_20 => ?_)
      replace h := h r_20 er_20
      clear er_20
      refine lv_iload_n hx hb dX4_told_73 rfl (lv_at hl 1 rfl) ?_
      obtain ⟨a_21, rfl, h⟩ := h
      obtain ⟨hk_22, h⟩ := h
      obtain ⟨hv_23, h⟩ := h
      refine mm_iald hx hb hE.1 hM hk_22 hv_23 dX4_told_74 ?_
      exact W.iret (v := mI σ_2 a_21 (ix x1)) hx hb hr (fun t_ ht hW => ⟨⟨_, _, rfl, h, mB_of ht hM⟩, hS.F ht⟩) hS.2.2 dX4_told_75
    · replace h := h.2.2.2.2.2.1 hc
      refine lv_tableIn (tgt := 76) (off := 65) hx hb dX4_told_11 (by rw [hc]; decide) (by rw [hc]; decide) (by rw [hc]; rfl) (by decide) ?_
      refine lv_aload_n hx hb dX4_told_76 rfl (lv_at hl 0 rfl) ?_
      obtain ⟨hk_24, h⟩ := h
      refine gf4_17 hx hb hts inX4_told_4 hown hE.1 hM hk_24 (hts (.fieldLink RX4 58 "WorkCoderModel" "second" "[I") (by decide +kernel)) dX4_told_77 (fun r_25 er_25 => ?_)
      replace h := h r_25 er_25
      clear er_25
      refine lv_iload_n hx hb dX4_told_80 rfl (lv_at hl 1 rfl) ?_
      obtain ⟨a_26, rfl, h⟩ := h
      obtain ⟨hk_27, h⟩ := h
      obtain ⟨hv_28, h⟩ := h
      refine mm_iald hx hb hE.1 hM hk_27 hv_28 dX4_told_81 ?_
      exact W.iret (v := mI σ_2 a_26 (ix x1)) hx hb hr (fun t_ ht hW => ⟨⟨_, _, rfl, h, mB_of ht hM⟩, hS.F ht⟩) hS.2.2 dX4_told_82
    · replace h := h.2.2.2.2.2.2 hc
      refine lv_tableIn (tgt := 83) (off := 72) hx hb dX4_told_11 (by rw [hc]; decide) (by rw [hc]; decide) (by rw [hc]; rfl) (by decide) ?_
      refine lv_aload_n hx hb dX4_told_83 rfl (lv_at hl 0 rfl) ?_
      refine lv_iload_n hx hb dX4_told_84 rfl (lv_at hl 1 rfl) ?_
      obtain ⟨hk_29, h⟩ := h
      refine clVi (C := RX4) (b := t) (As := [.int x1]) (rest := []) ⟨hx, hb, hml, hown, hts⟩ hM hE hS (ok_X4_isStale l D cs A t x1 _ _ h) (cwV 1 hts gX4_told_X4_isStale rfl rfl rfl (by decide +kernel) ⟨(Nat.le_of_ble_eq_true rfl), (Nat.le_of_ble_eq_true rfl)⟩) (rc4 hM hE.1 hk_29) rfl hl.1 rfl (Nat.le_of_ble_eq_true rfl) dX4_told_85 ⟨(Nat.le_of_ble_eq_true rfl), (Nat.le_of_ble_eq_true rfl)⟩ (fun x_31 σ_30 H locs h1 hM hS => ?_)
      replace h := h1
      clear h1
      refine lv_if_eq (tgt := 95) hx hb dX4_told_88 (by decide) (fun hc => ?_) (fun hc => ?_)
      · replace h := h.1 hc
        refine lv_iconst (v := 0) hx hb dX4_told_95 (by decide) ?_
        exact W.iret (v := 0) hx hb hr (fun t_ ht hW => ⟨⟨_, _, rfl, h, mB_of ht hM⟩, hS.F ht⟩) hS.2.2 dX4_told_96
      · replace h := h.2 hc
        refine lv_iconst (v := 1) hx hb dX4_told_91 (by decide) ?_
        refine lv_goto (tgt := 96) hx hb dX4_told_92 (by decide) ?_
        exact W.iret (v := 1) hx hb hr (fun t_ ht hW => ⟨⟨_, _, rfl, h, mB_of ht hM⟩, hS.F ht⟩) hS.2.2 dX4_told_96
  · replace h := h.2 hc
    refine lv_iconst (v := (-1)) hx hb dX4_told_8 (by decide) ?_
    exact W.iret (v := (-1)) hx hb hr (fun t_ ht hW => ⟨⟨_, _, rfl, h, mB_of ht hM⟩, hS.F ht⟩) hS.2.2 dX4_told_9
end S_X4_told
set_option maxHeartbeats 4000000 in
set_option maxRecDepth 100000 in
theorem ok_X4_told (l : Launch) (D : va_G) (cs : CS) (A : Nat → Prop) (t : Nat) (x1 : Int32) (x2 : Int32) (σ : MM) (k : Int32 → MM → Prop) (h : wX4_told t x1 x2 σ k) : Met l yX4_told wsX4_told rmX4_told (va_Pc [.ref t, .int x1, .int x2] (mP D cs A σ)) (va_Qi k (mB D cs A) A) 0 0 A := by
  refine Met.ofW (cc := cX4_told) (maxL := 3) (ret := (some .int)) (by decide) rfl ?_
  intro p e s m args below meth c s₁ B hml hv
  obtain ⟨rfl, hM, hE⟩ := hv
  have CX : CXM p s m _ meth c cX4_told 3 (some .int) "told" RX4 wsX4_told D cs A := ⟨B.exec, B.bytes, hml, B.returns, (name_of_methodNamed B.named B.method).1, findClass_of_methodNamed B.named, atoms_spec (ws := wsX4_told) B.pre, B.notSynchronized, hE⟩
  have hl := lv_entry ([.ref t, .int x1, .int x2]) (n := 3) (Nat.le_of_ble_eq_true rfl)
  rw [lg_entry_eq]
  exact oX4_told_0 CX x1 x2 σ _ _ _ h hM va_S.rf hl
/-! WorkCoderModel.coded(I)I -/
abbrev rmX4_coded : Room := { frames := 2, cells := 0, slots := 0, locals := 43 }
theorem inX4_coded_4 : ∀ w ∈ wsX40, w ∈ wsX4_coded := fun _ h => List.mem_cons_of_mem _ (List.mem_append_right _ (h))
section S_X4_coded
variable {p : Program} {l : Launch} {e : Env} {s : State} {m : MethodId} {args : Array Value} {below : List Frame} {meth : Method} {c : Code} {D : va_G} {cs : CS} {A : Nat → Prop}
set_option maxHeartbeats 4000000 in
set_option maxRecDepth 100000 in
theorem oX4_coded_14 {k : Int32 → MM → Prop} {t : Nat} (CX : CXM p s m args meth c cX4_coded 4 (some .int) "coded" RX4 wsX4_coded D cs A) : ∀ (n : Nat), ∀ (x1 : Int32) (x2 : Int32) (x3 : Int32) (σ : MM) (H : Heap) (locs : List Loc) (ls : Array Slot), wX4_coded_14 k t  n x1 x2 x3 σ → PH D cs A σ H → va_S A s.heap H locs → lv_has ls 4 [(0, .ref t), (1, .int x1), (2, .int x2), (3, .int x3)] → W p l e (headSpec wsX4_coded rmX4_coded).room s m args below meth c H locs 0 0 (MQ below (va_Qi k (mB D cs A) A) args s 0 0 A) (F0 m 14 ls []) := by
  intro n
  induction n with
  | zero => intro x1 x2 x3 σ H locs ls h; exact h.elim
  | succ n ih =>
    intro x1 x2 x3 σ H locs ls h hM hS hl
    have ⟨hx, hb, hml, hr, hnm, hown, hts, hlocks, hE⟩ := CX
    unfold wX4_coded_14 at h
    refine lv_iload_n hx hb dX4_coded_14 rfl (lv_at hl 3 rfl) ?_
    refine lv_iconst (v := 2) hx hb dX4_coded_15 (by decide) ?_
    refine lv_aload_n hx hb dX4_coded_16 rfl (lv_at hl 0 rfl) ?_
    obtain ⟨hk_1, h⟩ := h
    refine gf4_8 hx hb hts inX4_coded_4 hown hE.1 hM hk_1 (hts (.fieldLink RX4 116 "WorkCoderModel" "answers" "I") (by decide +kernel)) dX4_coded_17 ?_
    refine lv_imul hx hb dX4_coded_20 ?_
    refine lv_icmp_ge (tgt := 70) hx hb dX4_coded_21 (by decide) (fun hc => ?_) (fun hc => ?_)
    · replace h := h.1 hc
      refine lv_iload_n hx hb dX4_coded_70 rfl (lv_at hl 2 rfl) ?_
      exact W.iret (v := x2) hx hb hr (fun t_ ht hW => ⟨⟨_, _, rfl, h, mB_of ht hM⟩, hS.F ht⟩) hS.2.2 dX4_coded_71
    · replace h := h.2 hc
      refine lv_iload_n hx hb dX4_coded_24 rfl (lv_at hl 2 rfl) ?_
      refine lv_aload_n hx hb dX4_coded_25 rfl (lv_at hl 0 rfl) ?_
      refine lv_iload_n hx hb dX4_coded_26 rfl (lv_at hl 3 rfl) ?_
      refine clVi (C := RX4) (b := t) (As := [.int x3]) (rest := [.int x2]) ⟨hx, hb, hml, hown, hts⟩ hM hE hS (ok_X4_isItem l D cs A t x3 _ _ h) (cwV 1 hts gX4_coded_X4_isItem rfl rfl rfl (by decide +kernel) ⟨(Nat.le_of_ble_eq_true rfl), (Nat.le_of_ble_eq_true rfl)⟩) (rc4 hM hE.1 hk_1) rfl hl.1 rfl (Nat.le_of_ble_eq_true rfl) dX4_coded_27 ⟨(Nat.le_of_ble_eq_true rfl), (Nat.le_of_ble_eq_true rfl)⟩ (fun x_3 σ_2 H locs h1 hM hS => ?_)
      replace h := h1
      clear h1
      refine lv_if_eq (tgt := 61) hx hb dX4_coded_30 (by decide) (fun hc => ?_) (fun hc => ?_)
      · replace h := h.1 hc
        refine lv_iconst (v := 0) hx hb dX4_coded_61 (by decide) ?_
        refine lv_iadd hx hb dX4_coded_62 ?_
        refine lv_topi (fun x_4 ex_4 => ?_)
        replace h := h x_4 ex_4
        refine lv_istore_n (i := 2) (lv' := [(2, .int x_4), (0, .ref t), (1, .int x1), (3, .int x3)]) hx hb dX4_coded_63 rfl hl (by decide) rfl (fun ls hl => ?_)
        obtain ⟨x_5, ex_5⟩ : ∃ y : Int32, y = x3 + 1 := ⟨_, rfl⟩
        replace h := h x_5 ex_5
        refine lv_iinc (v := x_5) (lv' := [(3, .int x_5), (2, .int x_4), (0, .ref t), (1, .int x1)]) hx hb dX4_coded_64 hl (k := 3) rfl (by rw [ex_5]; rfl) (by decide) rfl (fun ls hl => ?_)
        refine lv_goto (tgt := 14) hx hb dX4_coded_67 (by decide) ?_
        exact ih _ _ _ _ _ _ _ h hM hS (lv_sub hl [2, 3, 1, 0] rfl)
      · replace h := h.2 hc
        refine lv_aload_n hx hb dX4_coded_33 rfl (lv_at hl 0 rfl) ?_
        obtain ⟨hk_6, h⟩ := h
        refine gf4_13 hx hb hts inX4_coded_4 hown hE.1 hM hk_6 (hts (.fieldLink RX4 46 "WorkCoderModel" "state" "[I") (by decide +kernel)) dX4_coded_34 (fun r_7 er_7 => ?_)
        replace h := h r_7 er_7
        clear er_7
        refine lv_iload_n hx hb dX4_coded_37 rfl (lv_at hl 3 rfl) ?_
        obtain ⟨a_8, rfl, h⟩ := h
        obtain ⟨hk_9, h⟩ := h
        obtain ⟨hv_10, h⟩ := h
        refine mm_iald hx hb hE.1 hM hk_9 hv_10 dX4_coded_38 ?_
        refine lv_iconst (v := 1) hx hb dX4_coded_39 (by decide) ?_
        refine lv_icmp_ne (tgt := 61) hx hb dX4_coded_40 (by decide) (fun hc => ?_) (fun hc => ?_)
        · replace h := h.1 hc
          refine lv_iconst (v := 0) hx hb dX4_coded_61 (by decide) ?_
          refine lv_iadd hx hb dX4_coded_62 ?_
          refine lv_topi (fun x_11 ex_11 => ?_)
          replace h := h x_11 ex_11
          refine lv_istore_n (i := 2) (lv' := [(2, .int x_11), (0, .ref t), (1, .int x1), (3, .int x3)]) hx hb dX4_coded_63 rfl hl (by decide) rfl (fun ls hl => ?_)
          obtain ⟨x_12, ex_12⟩ : ∃ y : Int32, y = x3 + 1 := ⟨_, rfl⟩
          replace h := h x_12 ex_12
          refine lv_iinc (v := x_12) (lv' := [(3, .int x_12), (2, .int x_11), (0, .ref t), (1, .int x1)]) hx hb dX4_coded_64 hl (k := 3) rfl (by rw [ex_12]; rfl) (by decide) rfl (fun ls hl => ?_)
          refine lv_goto (tgt := 14) hx hb dX4_coded_67 (by decide) ?_
          exact ih _ _ _ _ _ _ _ h hM hS (lv_sub hl [2, 3, 1, 0] rfl)
        · replace h := h.2 hc
          refine lv_aload_n hx hb dX4_coded_43 rfl (lv_at hl 0 rfl) ?_
          refine lv_aload_n hx hb dX4_coded_44 rfl (lv_at hl 0 rfl) ?_
          refine gf4_14 hx hb hts inX4_coded_4 hown hE.1 hM hk_6 (hts (.fieldLink RX4 49 "WorkCoderModel" "codeOf" "[I") (by decide +kernel)) dX4_coded_45 (fun r_13 er_13 => ?_)
          replace h := h r_13 er_13
          clear er_13
          refine lv_iload_n hx hb dX4_coded_48 rfl (lv_at hl 3 rfl) ?_
          obtain ⟨a_14, rfl, h⟩ := h
          obtain ⟨hk_15, h⟩ := h
          obtain ⟨hv_16, h⟩ := h
          refine mm_iald hx hb hE.1 hM hk_15 hv_16 dX4_coded_49 ?_
          refine lv_iload_n hx hb dX4_coded_50 rfl (lv_at hl 1 rfl) ?_
          refine clVi (C := RX4) (b := t) (As := [.int (mI σ_2 a_14 (ix x3)), .int x1]) (rest := [.int x2]) ⟨hx, hb, hml, hown, hts⟩ hM hE hS (ok_X4_isBelow l D cs A t (mI σ_2 a_14 (ix x3)) x1 _ _ h) (cwV 2 hts gX4_coded_X4_isBelow rfl rfl rfl (by decide +kernel) ⟨(Nat.le_of_ble_eq_true rfl), (Nat.le_of_ble_eq_true rfl)⟩) (rc4 hM hE.1 hk_6) rfl hl.1 rfl (Nat.le_of_ble_eq_true rfl) dX4_coded_51 ⟨(Nat.le_of_ble_eq_true rfl), (Nat.le_of_ble_eq_true rfl)⟩ (fun x_18 σ_17 H locs h1 hM hS => ?_)
          replace h := h1
          clear h1
          refine lv_if_eq (tgt := 61) hx hb dX4_coded_54 (by decide) (fun hc => ?_) (fun hc => ?_)
          · replace h := h.1 hc
            refine lv_iconst (v := 0) hx hb dX4_coded_61 (by decide) ?_
            refine lv_iadd hx hb dX4_coded_62 ?_
            refine lv_topi (fun x_19 ex_19 => ?_)
            replace h := h x_19 ex_19
            refine lv_istore_n (i := 2) (lv' := [(2, .int x_19), (0, .ref t), (1, .int x1), (3, .int x3)]) hx hb dX4_coded_63 rfl hl (by decide) rfl (fun ls hl => ?_)
            obtain ⟨x_20, ex_20⟩ : ∃ y : Int32, y = x3 + 1 := ⟨_, rfl⟩
            replace h := h x_20 ex_20
            refine lv_iinc (v := x_20) (lv' := [(3, .int x_20), (2, .int x_19), (0, .ref t), (1, .int x1)]) hx hb dX4_coded_64 hl (k := 3) rfl (by rw [ex_20]; rfl) (by decide) rfl (fun ls hl => ?_)
            refine lv_goto (tgt := 14) hx hb dX4_coded_67 (by decide) ?_
            exact ih _ _ _ _ _ _ _ h hM hS (lv_sub hl [2, 3, 1, 0] rfl)
          · replace h := h.2 hc
            refine lv_iconst (v := 1) hx hb dX4_coded_57 (by decide) ?_
            refine lv_goto (tgt := 62) hx hb dX4_coded_58 (by decide) ?_
            refine lv_iadd hx hb dX4_coded_62 ?_
            refine lv_topi (fun x_21 ex_21 => ?_)
            replace h := h x_21 ex_21
            refine lv_istore_n (i := 2) (lv' := [(2, .int x_21), (0, .ref t), (1, .int x1), (3, .int x3)]) hx hb dX4_coded_63 rfl hl (by decide) rfl (fun ls hl => ?_)
            obtain ⟨x_22, ex_22⟩ : ∃ y : Int32, y = x3 + 1 := ⟨_, rfl⟩
            replace h := h x_22 ex_22
            refine lv_iinc (v := x_22) (lv' := [(3, .int x_22), (2, .int x_21), (0, .ref t), (1, .int x1)]) hx hb dX4_coded_64 hl (k := 3) rfl (by rw [ex_22]; rfl) (by decide) rfl (fun ls hl => ?_)
            refine lv_goto (tgt := 14) hx hb dX4_coded_67 (by decide) ?_
            exact ih _ _ _ _ _ _ _ h hM hS (lv_sub hl [2, 3, 1, 0] rfl)
set_option maxHeartbeats 4000000 in
set_option maxRecDepth 100000 in
theorem oX4_coded_0 {k : Int32 → MM → Prop} {t : Nat} (CX : CXM p s m args meth c cX4_coded 4 (some .int) "coded" RX4 wsX4_coded D cs A) : ∀ (x1 : Int32) (σ : MM) (H : Heap) (locs : List Loc) (ls : Array Slot), wX4_coded t x1 σ k → PH D cs A σ H → va_S A s.heap H locs → lv_has ls 4 [(0, .ref t), (1, .int x1)] → W p l e (headSpec wsX4_coded rmX4_coded).room s m args below meth c H locs 0 0 (MQ below (va_Qi k (mB D cs A) A) args s 0 0 A) (F0 m 0 ls []) := by
  intro x1 σ H locs ls h hM hS hl
  have ⟨hx, hb, hml, hr, hnm, hown, hts, hlocks, hE⟩ := CX
  unfold wX4_coded at h
  refine lv_aload_n hx hb dX4_coded_0 rfl (lv_at hl 0 rfl) ?_
  refine lv_iload_n hx hb dX4_coded_1 rfl (lv_at hl 1 rfl) ?_
  obtain ⟨hk_1, h⟩ := h
  refine clVi (C := RX4) (b := t) (As := [.int x1]) (rest := []) ⟨hx, hb, hml, hown, hts⟩ hM hE hS (ok_X4_isCode l D cs A t x1 _ _ h) (cwV 1 hts gX4_coded_X4_isCode rfl rfl rfl (by decide +kernel) ⟨(Nat.le_of_ble_eq_true rfl), (Nat.le_of_ble_eq_true rfl)⟩) (rc4 hM hE.1 hk_1) rfl hl.1 rfl (Nat.le_of_ble_eq_true rfl) dX4_coded_2 ⟨(Nat.le_of_ble_eq_true rfl), (Nat.le_of_ble_eq_true rfl)⟩ (fun x_3 σ_2 H locs h1 hM hS => ?_)
  replace h := h1
  clear h1
  refine lv_if_ne (tgt := 10) hx hb dX4_coded_5 (by decide) (fun hc => ?_) (fun hc => ?_)
  · replace h := h.1 hc
    refine lv_iconst (v := 0) hx hb dX4_coded_10 (by decide) ?_
    refine lv_istore_n (i := 2) (lv' := [(2, .int 0), (0, .ref t), (1, .int x1)]) hx hb dX4_coded_11 rfl hl (by decide) rfl (fun ls hl => ?_)
    refine lv_iconst (v := 0) hx hb dX4_coded_12 (by decide) ?_
    refine lv_istore_n (i := 3) (lv' := [(3, .int 0), (2, .int 0), (0, .ref t), (1, .int x1)]) hx hb dX4_coded_13 rfl hl (by decide) rfl (fun ls hl => ?_)
    obtain ⟨n0, h⟩ := h
    exact oX4_coded_14 CX  n0 _ _ _ _ _ _ _ h hM hS (lv_sub hl [2, 3, 1, 0] rfl)
  · replace h := h.2 hc
    refine lv_iconst (v := (-1)) hx hb dX4_coded_8 (by decide) ?_
    exact W.iret (v := (-1)) hx hb hr (fun t_ ht hW => ⟨⟨_, _, rfl, h, mB_of ht hM⟩, hS.F ht⟩) hS.2.2 dX4_coded_9
end S_X4_coded
set_option maxHeartbeats 4000000 in
set_option maxRecDepth 100000 in
theorem ok_X4_coded (l : Launch) (D : va_G) (cs : CS) (A : Nat → Prop) (t : Nat) (x1 : Int32) (σ : MM) (k : Int32 → MM → Prop) (h : wX4_coded t x1 σ k) : Met l yX4_coded wsX4_coded rmX4_coded (va_Pc [.ref t, .int x1] (mP D cs A σ)) (va_Qi k (mB D cs A) A) 0 0 A := by
  refine Met.ofW (cc := cX4_coded) (maxL := 4) (ret := (some .int)) (by decide) rfl ?_
  intro p e s m args below meth c s₁ B hml hv
  obtain ⟨rfl, hM, hE⟩ := hv
  have CX : CXM p s m _ meth c cX4_coded 4 (some .int) "coded" RX4 wsX4_coded D cs A := ⟨B.exec, B.bytes, hml, B.returns, (name_of_methodNamed B.named B.method).1, findClass_of_methodNamed B.named, atoms_spec (ws := wsX4_coded) B.pre, B.notSynchronized, hE⟩
  have hl := lv_entry ([.ref t, .int x1]) (n := 4) (Nat.le_of_ble_eq_true rfl)
  rw [lg_entry_eq]
  exact oX4_coded_0 CX x1 σ _ _ _ h hM va_S.rf hl
/-! WorkCoderModel.total(II)I -/
abbrev rmX4_total : Room := { frames := 2, cells := 0, slots := 0, locals := 43 }
theorem inX4_total_4 : ∀ w ∈ wsX40, w ∈ wsX4_total := fun _ h => List.mem_cons_of_mem _ (List.mem_append_right _ (h))
section S_X4_total
variable {p : Program} {l : Launch} {e : Env} {s : State} {m : MethodId} {args : Array Value} {below : List Frame} {meth : Method} {c : Code} {D : va_G} {cs : CS} {A : Nat → Prop}
set_option maxHeartbeats 4000000 in
set_option maxRecDepth 100000 in
theorem oX4_total_138 {k : Int32 → MM → Prop} {t : Nat} {g24 : Int32 → Int32 → Int32 → Int32 → MM → Prop} {g82 : Int32 → Int32 → Int32 → Int32 → Int32 → Int32 → Int32 → MM → Prop} (CX : CXM p s m args meth c cX4_total 9 (some .int) "total" RX4 wsX4_total D cs A) (hg24 : ∀ (x1 : Int32) (x2 : Int32) (x3 : Int32) (x4 : Int32) (σ : MM) (H : Heap) (locs : List Loc) (ls : Array Slot), g24 x1 x2 x3 x4 σ → PH D cs A σ H → va_S A s.heap H locs → lv_has ls 9 [(0, .ref t), (1, .int x1), (2, .int x2), (3, .int x3), (4, .int x4)] → W p l e (headSpec wsX4_total rmX4_total).room s m args below meth c H locs 0 0 (MQ below (va_Qi k (mB D cs A) A) args s 0 0 A) (F0 m 24 ls [])) (hg82 : ∀ (x1 : Int32) (x2 : Int32) (x3 : Int32) (x4 : Int32) (x5 : Int32) (x6 : Int32) (x7 : Int32) (σ : MM) (H : Heap) (locs : List Loc) (ls : Array Slot), g82 x1 x2 x3 x4 x5 x6 x7 σ → PH D cs A σ H → va_S A s.heap H locs → lv_has ls 9 [(0, .ref t), (1, .int x1), (2, .int x2), (3, .int x3), (4, .int x4), (5, .int x5), (6, .int x6), (7, .int x7)] → W p l e (headSpec wsX4_total rmX4_total).room s m args below meth c H locs 0 0 (MQ below (va_Qi k (mB D cs A) A) args s 0 0 A) (F0 m 82 ls [])) : ∀ (x1 : Int32) (x2 : Int32) (x3 : Int32) (x4 : Int32) (x6 : Int32) (x7 : Int32) (x8 : Int32) (z0 : Int32) (σ : MM) (H : Heap) (locs : List Loc) (ls : Array Slot), wX4_total_138 k t g24 g82 x1 x2 x3 x4 x6 x7 x8 z0 σ → PH D cs A σ H → va_S A s.heap H locs → lv_has ls 9 [(0, .ref t), (1, .int x1), (2, .int x2), (3, .int x3), (4, .int x4), (6, .int x6), (7, .int x7), (8, .int x8)] → W p l e (headSpec wsX4_total rmX4_total).room s m args below meth c H locs 0 0 (MQ below (va_Qi k (mB D cs A) A) args s 0 0 A) (F0 m 138 ls [.int z0]) := by
  intro x1 x2 x3 x4 x6 x7 x8 z0 σ H locs ls h hM hS hl
  have ⟨hx, hb, hml, hr, hnm, hown, hts, hlocks, hE⟩ := CX
  unfold wX4_total_138 at h
  refine lv_istore (i := 5) (lv' := [(5, .int z0), (0, .ref t), (1, .int x1), (2, .int x2), (3, .int x3), (4, .int x4), (6, .int x6), (7, .int x7), (8, .int x8)]) hx hb dX4_total_138 hl (by decide) rfl (fun ls hl => ?_)
  refine lv_iload hx hb dX4_total_140 (lv_at hl 6 rfl) ?_
  refine lv_if_ne (tgt := 150) hx hb dX4_total_142 (by decide) (fun hc => ?_) (fun hc => ?_)
  · replace h := h.1 hc
    refine lv_iconst (v := 1) hx hb dX4_total_150 (by decide) ?_
    refine lv_goto (tgt := 155) hx hb dX4_total_151 (by decide) ?_
    refine lv_istore (i := 6) (lv' := [(6, .int 1), (5, .int z0), (0, .ref t), (1, .int x1), (2, .int x2), (3, .int x3), (4, .int x4), (7, .int x7), (8, .int x8)]) hx hb dX4_total_155 hl (by decide) rfl (fun ls hl => ?_)
    obtain ⟨x_1, ex_1⟩ : ∃ y : Int32, y = x7 + 1 := ⟨_, rfl⟩
    replace h := h x_1 ex_1
    refine lv_iinc (v := x_1) (lv' := [(7, .int x_1), (6, .int 1), (5, .int z0), (0, .ref t), (1, .int x1), (2, .int x2), (3, .int x3), (4, .int x4), (8, .int x8)]) hx hb dX4_total_157 hl (k := 7) rfl (by rw [ex_1]; rfl) (by decide) rfl (fun ls hl => ?_)
    refine lv_goto (tgt := 82) hx hb dX4_total_160 (by decide) ?_
    exact hg82 _ _ _ _ _ _ _ _ _ _ _ h hM hS (lv_sub hl [3, 4, 5, 6, 7, 2, 1, 0] rfl)
  · replace h := h.2 hc
    refine lv_iload hx hb dX4_total_145 (lv_at hl 8 rfl) ?_
    refine lv_if_eq (tgt := 154) hx hb dX4_total_147 (by decide) (fun hc => ?_) (fun hc => ?_)
    · replace h := h.1 hc
      refine lv_iconst (v := 0) hx hb dX4_total_154 (by decide) ?_
      refine lv_istore (i := 6) (lv' := [(6, .int 0), (5, .int z0), (0, .ref t), (1, .int x1), (2, .int x2), (3, .int x3), (4, .int x4), (7, .int x7), (8, .int x8)]) hx hb dX4_total_155 hl (by decide) rfl (fun ls hl => ?_)
      obtain ⟨x_2, ex_2⟩ : ∃ y : Int32, y = x7 + 1 := ⟨_, rfl⟩
      replace h := h x_2 ex_2
      refine lv_iinc (v := x_2) (lv' := [(7, .int x_2), (6, .int 0), (5, .int z0), (0, .ref t), (1, .int x1), (2, .int x2), (3, .int x3), (4, .int x4), (8, .int x8)]) hx hb dX4_total_157 hl (k := 7) rfl (by rw [ex_2]; rfl) (by decide) rfl (fun ls hl => ?_)
      refine lv_goto (tgt := 82) hx hb dX4_total_160 (by decide) ?_
      exact hg82 _ _ _ _ _ _ _ _ _ _ _ h hM hS (lv_sub hl [3, 4, 5, 6, 7, 2, 1, 0] rfl)
    · replace h := h.2 hc
      refine lv_iconst (v := 1) hx hb dX4_total_150 (by decide) ?_
      refine lv_goto (tgt := 155) hx hb dX4_total_151 (by decide) ?_
      refine lv_istore (i := 6) (lv' := [(6, .int 1), (5, .int z0), (0, .ref t), (1, .int x1), (2, .int x2), (3, .int x3), (4, .int x4), (7, .int x7), (8, .int x8)]) hx hb dX4_total_155 hl (by decide) rfl (fun ls hl => ?_)
      obtain ⟨x_3, ex_3⟩ : ∃ y : Int32, y = x7 + 1 := ⟨_, rfl⟩
      replace h := h x_3 ex_3
      refine lv_iinc (v := x_3) (lv' := [(7, .int x_3), (6, .int 1), (5, .int z0), (0, .ref t), (1, .int x1), (2, .int x2), (3, .int x3), (4, .int x4), (8, .int x8)]) hx hb dX4_total_157 hl (k := 7) rfl (by rw [ex_3]; rfl) (by decide) rfl (fun ls hl => ?_)
      refine lv_goto (tgt := 82) hx hb dX4_total_160 (by decide) ?_
      exact hg82 _ _ _ _ _ _ _ _ _ _ _ h hM hS (lv_sub hl [3, 4, 5, 6, 7, 2, 1, 0] rfl)
set_option maxHeartbeats 4000000 in
set_option maxRecDepth 100000 in
theorem oX4_total_82 {k : Int32 → MM → Prop} {t : Nat} {g24 : Int32 → Int32 → Int32 → Int32 → MM → Prop} (CX : CXM p s m args meth c cX4_total 9 (some .int) "total" RX4 wsX4_total D cs A) (hg24 : ∀ (x1 : Int32) (x2 : Int32) (x3 : Int32) (x4 : Int32) (σ : MM) (H : Heap) (locs : List Loc) (ls : Array Slot), g24 x1 x2 x3 x4 σ → PH D cs A σ H → va_S A s.heap H locs → lv_has ls 9 [(0, .ref t), (1, .int x1), (2, .int x2), (3, .int x3), (4, .int x4)] → W p l e (headSpec wsX4_total rmX4_total).room s m args below meth c H locs 0 0 (MQ below (va_Qi k (mB D cs A) A) args s 0 0 A) (F0 m 24 ls [])) : ∀ (n : Nat), ∀ (x1 : Int32) (x2 : Int32) (x3 : Int32) (x4 : Int32) (x5 : Int32) (x6 : Int32) (x7 : Int32) (σ : MM) (H : Heap) (locs : List Loc) (ls : Array Slot), wX4_total_82 k t g24 n x1 x2 x3 x4 x5 x6 x7 σ → PH D cs A σ H → va_S A s.heap H locs → lv_has ls 9 [(0, .ref t), (1, .int x1), (2, .int x2), (3, .int x3), (4, .int x4), (5, .int x5), (6, .int x6), (7, .int x7)] → W p l e (headSpec wsX4_total rmX4_total).room s m args below meth c H locs 0 0 (MQ below (va_Qi k (mB D cs A) A) args s 0 0 A) (F0 m 82 ls []) := by
  intro n
  induction n with
  | zero => intro x1 x2 x3 x4 x5 x6 x7 σ H locs ls h; exact h.elim
  | succ n ih =>
    intro x1 x2 x3 x4 x5 x6 x7 σ H locs ls h hM hS hl
    have ⟨hx, hb, hml, hr, hnm, hown, hts, hlocks, hE⟩ := CX
    unfold wX4_total_82 at h
    refine lv_iload hx hb dX4_total_82 (lv_at hl 7 rfl) ?_
    refine lv_aload_n hx hb dX4_total_84 rfl (lv_at hl 0 rfl) ?_
    obtain ⟨hk_1, h⟩ := h
    refine gf4_5 hx hb hts inX4_total_4 hown hE.1 hM hk_1 (hts (.fieldLink RX4 101 "WorkCoderModel" "others" "I") (by decide +kernel)) dX4_total_85 ?_
    refine lv_icmp_ge (tgt := 163) hx hb dX4_total_88 (by decide) (fun hc => ?_) (fun hc => ?_)
    · replace h := h.1 hc
      refine lv_iload_n hx hb dX4_total_163 rfl (lv_at hl 3 rfl) ?_
      refine lv_iload_n hx hb dX4_total_164 rfl (lv_at hl 2 rfl) ?_
      refine lv_if_ne (tgt := 176) hx hb dX4_total_165 (by decide) (fun hc => ?_) (fun hc => ?_)
      · replace h := h.1 hc
        refine lv_iload hx hb dX4_total_176 (lv_at hl 6 rfl) ?_
        refine lv_if_eq (tgt := 185) hx hb dX4_total_178 (by decide) (fun hc => ?_) (fun hc => ?_)
        · replace h := h.1 hc
          refine lv_iconst (v := 0) hx hb dX4_total_185 (by decide) ?_
          refine lv_iadd hx hb dX4_total_186 ?_
          refine lv_topi (fun x_2 ex_2 => ?_)
          replace h := h x_2 ex_2
          refine lv_istore_n (i := 3) (lv' := [(3, .int x_2), (0, .ref t), (1, .int x1), (2, .int x2), (4, .int x4), (5, .int x5), (6, .int x6), (7, .int x7)]) hx hb dX4_total_187 rfl hl (by decide) rfl (fun ls hl => ?_)
          obtain ⟨x_3, ex_3⟩ : ∃ y : Int32, y = x4 + 1 := ⟨_, rfl⟩
          replace h := h x_3 ex_3
          refine lv_iinc (v := x_3) (lv' := [(4, .int x_3), (3, .int x_2), (0, .ref t), (1, .int x1), (2, .int x2), (5, .int x5), (6, .int x6), (7, .int x7)]) hx hb dX4_total_188 hl (k := 4) rfl (by rw [ex_3]; rfl) (by decide) rfl (fun ls hl => ?_)
          refine lv_goto (tgt := 24) hx hb dX4_total_191 (by decide) ?_
          exact hg24 _ _ _ _ _ _ _ _ h hM hS (lv_sub hl [2, 3, 4, 1, 0] rfl)
        · replace h := h.2 hc
          refine lv_iconst (v := 1) hx hb dX4_total_181 (by decide) ?_
          refine lv_goto (tgt := 186) hx hb dX4_total_182 (by decide) ?_
          refine lv_iadd hx hb dX4_total_186 ?_
          refine lv_topi (fun x_4 ex_4 => ?_)
          replace h := h x_4 ex_4
          refine lv_istore_n (i := 3) (lv' := [(3, .int x_4), (0, .ref t), (1, .int x1), (2, .int x2), (4, .int x4), (5, .int x5), (6, .int x6), (7, .int x7)]) hx hb dX4_total_187 rfl hl (by decide) rfl (fun ls hl => ?_)
          obtain ⟨x_5, ex_5⟩ : ∃ y : Int32, y = x4 + 1 := ⟨_, rfl⟩
          replace h := h x_5 ex_5
          refine lv_iinc (v := x_5) (lv' := [(4, .int x_5), (3, .int x_4), (0, .ref t), (1, .int x1), (2, .int x2), (5, .int x5), (6, .int x6), (7, .int x7)]) hx hb dX4_total_188 hl (k := 4) rfl (by rw [ex_5]; rfl) (by decide) rfl (fun ls hl => ?_)
          refine lv_goto (tgt := 24) hx hb dX4_total_191 (by decide) ?_
          exact hg24 _ _ _ _ _ _ _ _ h hM hS (lv_sub hl [2, 3, 4, 1, 0] rfl)
      · replace h := h.2 hc
        refine lv_iload hx hb dX4_total_168 (lv_at hl 5 rfl) ?_
        refine lv_if_eq (tgt := 185) hx hb dX4_total_170 (by decide) (fun hc => ?_) (fun hc => ?_)
        · replace h := h.1 hc
          refine lv_iconst (v := 0) hx hb dX4_total_185 (by decide) ?_
          refine lv_iadd hx hb dX4_total_186 ?_
          refine lv_topi (fun x_6 ex_6 => ?_)
          replace h := h x_6 ex_6
          refine lv_istore_n (i := 3) (lv' := [(3, .int x_6), (0, .ref t), (1, .int x1), (2, .int x2), (4, .int x4), (5, .int x5), (6, .int x6), (7, .int x7)]) hx hb dX4_total_187 rfl hl (by decide) rfl (fun ls hl => ?_)
          obtain ⟨x_7, ex_7⟩ : ∃ y : Int32, y = x4 + 1 := ⟨_, rfl⟩
          replace h := h x_7 ex_7
          refine lv_iinc (v := x_7) (lv' := [(4, .int x_7), (3, .int x_6), (0, .ref t), (1, .int x1), (2, .int x2), (5, .int x5), (6, .int x6), (7, .int x7)]) hx hb dX4_total_188 hl (k := 4) rfl (by rw [ex_7]; rfl) (by decide) rfl (fun ls hl => ?_)
          refine lv_goto (tgt := 24) hx hb dX4_total_191 (by decide) ?_
          exact hg24 _ _ _ _ _ _ _ _ h hM hS (lv_sub hl [2, 3, 4, 1, 0] rfl)
        · replace h := h.2 hc
          refine lv_goto (tgt := 181) hx hb dX4_total_173 (by decide) ?_
          refine lv_iconst (v := 1) hx hb dX4_total_181 (by decide) ?_
          refine lv_goto (tgt := 186) hx hb dX4_total_182 (by decide) ?_
          refine lv_iadd hx hb dX4_total_186 ?_
          refine lv_topi (fun x_8 ex_8 => ?_)
          replace h := h x_8 ex_8
          refine lv_istore_n (i := 3) (lv' := [(3, .int x_8), (0, .ref t), (1, .int x1), (2, .int x2), (4, .int x4), (5, .int x5), (6, .int x6), (7, .int x7)]) hx hb dX4_total_187 rfl hl (by decide) rfl (fun ls hl => ?_)
          obtain ⟨x_9, ex_9⟩ : ∃ y : Int32, y = x4 + 1 := ⟨_, rfl⟩
          replace h := h x_9 ex_9
          refine lv_iinc (v := x_9) (lv' := [(4, .int x_9), (3, .int x_8), (0, .ref t), (1, .int x1), (2, .int x2), (5, .int x5), (6, .int x6), (7, .int x7)]) hx hb dX4_total_188 hl (k := 4) rfl (by rw [ex_9]; rfl) (by decide) rfl (fun ls hl => ?_)
          refine lv_goto (tgt := 24) hx hb dX4_total_191 (by decide) ?_
          exact hg24 _ _ _ _ _ _ _ _ h hM hS (lv_sub hl [2, 3, 4, 1, 0] rfl)
    · replace h := h.2 hc
      refine lv_aload_n hx hb dX4_total_91 rfl (lv_at hl 0 rfl) ?_
      refine gf4_7 hx hb hts inX4_total_4 hown hE.1 hM hk_1 (hts (.fieldLink RX4 31 "WorkCoderModel" "carries" "[I") (by decide +kernel)) dX4_total_92 (fun r_10 er_10 => ?_)
      replace h := h r_10 er_10
      clear er_10
      refine lv_aload_n hx hb dX4_total_95 rfl (lv_at hl 0 rfl) ?_
      refine gf4_14 hx hb hts inX4_total_4 hown hE.1 hM hk_1 (hts (.fieldLink RX4 49 "WorkCoderModel" "codeOf" "[I") (by decide +kernel)) dX4_total_96 (fun r_11 er_11 => ?_)
      replace h := h r_11 er_11
      clear er_11
      refine lv_iload hx hb dX4_total_99 (lv_at hl 4 rfl) ?_
      obtain ⟨a_12, rfl, h⟩ := h
      obtain ⟨hk_13, h⟩ := h
      obtain ⟨hv_14, h⟩ := h
      refine mm_iald hx hb hE.1 hM hk_13 hv_14 dX4_total_101 ?_
      obtain ⟨a_15, rfl, h⟩ := h
      obtain ⟨hk_16, h⟩ := h
      obtain ⟨hv_17, h⟩ := h
      refine mm_iald hx hb hE.1 hM hk_16 hv_17 dX4_total_102 ?_
      refine lv_iload hx hb dX4_total_103 (lv_at hl 7 rfl) ?_
      refine lv_ishr hx hb dX4_total_105 ?_
      refine lv_iconst (v := 1) hx hb dX4_total_106 (by decide) ?_
      refine lv_iand hx hb dX4_total_107 ?_
      refine lv_if_ne (tgt := 114) hx hb dX4_total_108 (by decide) (fun hc => ?_) (fun hc => ?_)
      · replace h := h.1 hc
        refine lv_aload_n hx hb dX4_total_114 rfl (lv_at hl 0 rfl) ?_
        refine lv_iload hx hb dX4_total_115 (lv_at hl 7 rfl) ?_
        refine lv_iload_n hx hb dX4_total_117 rfl (lv_at hl 1 rfl) ?_
        refine clVi (C := RX4) (b := t) (As := [.int x7, .int x1]) (rest := []) ⟨hx, hb, hml, hown, hts⟩ hM hE hS (ok_X4_isOtherBelow l D cs A t x7 x1 _ _ h) (cwV 2 hts gX4_total_X4_isOtherBelow rfl rfl rfl (by decide +kernel) ⟨(Nat.le_of_ble_eq_true rfl), (Nat.le_of_ble_eq_true rfl)⟩) (rc4 hM hE.1 hk_1) rfl hl.1 rfl (Nat.le_of_ble_eq_true rfl) dX4_total_118 ⟨(Nat.le_of_ble_eq_true rfl), (Nat.le_of_ble_eq_true rfl)⟩ (fun x_19 σ_18 H locs h1 hM hS => ?_)
        replace h := h1
        clear h1
        refine lv_istore (i := 8) (lv' := [(8, .int x_19), (0, .ref t), (1, .int x1), (2, .int x2), (3, .int x3), (4, .int x4), (5, .int x5), (6, .int x6), (7, .int x7)]) hx hb dX4_total_121 hl (by decide) rfl (fun ls hl => ?_)
        refine lv_iload hx hb dX4_total_123 (lv_at hl 6 rfl) ?_
        refine lv_if_eq (tgt := 137) hx hb dX4_total_125 (by decide) (fun hc => ?_) (fun hc => ?_)
        · replace h := h.1 hc
          refine lv_iconst (v := 0) hx hb dX4_total_137 (by decide) ?_
          exact oX4_total_138 CX hg24 ih _ _ _ _ _ _ _ _ _ _ _ _ h hM hS (lv_sub hl [1, 2, 3, 4, 5, 7, 8, 0] rfl)
        · replace h := h.2 hc
          refine lv_iload hx hb dX4_total_128 (lv_at hl 0 rfl) ?_
          refine lv_if_eq (tgt := 137) hx hb dX4_total_130 (by decide) (fun hc => ?_) (fun hc => ?_)
          · replace h := h.1 hc
            refine lv_iconst (v := 0) hx hb dX4_total_137 (by decide) ?_
            exact oX4_total_138 CX hg24 ih _ _ _ _ _ _ _ _ _ _ _ _ h hM hS (lv_sub hl [1, 2, 3, 4, 5, 7, 8, 0] rfl)
          · replace h := h.2 hc
            refine lv_iconst (v := 1) hx hb dX4_total_133 (by decide) ?_
            refine lv_goto (tgt := 138) hx hb dX4_total_134 (by decide) ?_
            exact oX4_total_138 CX hg24 ih _ _ _ _ _ _ _ _ _ _ _ _ h hM hS (lv_sub hl [1, 2, 3, 4, 5, 7, 8, 0] rfl)
      · replace h := h.2 hc
        refine lv_goto (tgt := 157) hx hb dX4_total_111 (by decide) ?_
        obtain ⟨x_20, ex_20⟩ : ∃ y : Int32, y = x7 + 1 := ⟨_, rfl⟩
        replace h := h x_20 ex_20
        refine lv_iinc (v := x_20) (lv' := [(7, .int x_20), (0, .ref t), (1, .int x1), (2, .int x2), (3, .int x3), (4, .int x4), (5, .int x5), (6, .int x6)]) hx hb dX4_total_157 hl (k := 7) rfl (by rw [ex_20]; rfl) (by decide) rfl (fun ls hl => ?_)
        refine lv_goto (tgt := 82) hx hb dX4_total_160 (by decide) ?_
        exact ih _ _ _ _ _ _ _ _ _ _ _ h hM hS (lv_sub hl [1, 2, 3, 4, 5, 6, 7, 0] rfl)
set_option maxHeartbeats 4000000 in
set_option maxRecDepth 100000 in
theorem oX4_total_24 {k : Int32 → MM → Prop} {t : Nat} (CX : CXM p s m args meth c cX4_total 9 (some .int) "total" RX4 wsX4_total D cs A) : ∀ (n : Nat), ∀ (x1 : Int32) (x2 : Int32) (x3 : Int32) (x4 : Int32) (σ : MM) (H : Heap) (locs : List Loc) (ls : Array Slot), wX4_total_24 k t  n x1 x2 x3 x4 σ → PH D cs A σ H → va_S A s.heap H locs → lv_has ls 9 [(0, .ref t), (1, .int x1), (2, .int x2), (3, .int x3), (4, .int x4)] → W p l e (headSpec wsX4_total rmX4_total).room s m args below meth c H locs 0 0 (MQ below (va_Qi k (mB D cs A) A) args s 0 0 A) (F0 m 24 ls []) := by
  intro n
  induction n with
  | zero => intro x1 x2 x3 x4 σ H locs ls h; exact h.elim
  | succ n ih =>
    intro x1 x2 x3 x4 σ H locs ls h hM hS hl
    have ⟨hx, hb, hml, hr, hnm, hown, hts, hlocks, hE⟩ := CX
    unfold wX4_total_24 at h
    refine lv_iload hx hb dX4_total_24 (lv_at hl 4 rfl) ?_
    refine lv_iconst (v := 2) hx hb dX4_total_26 (by decide) ?_
    refine lv_aload_n hx hb dX4_total_27 rfl (lv_at hl 0 rfl) ?_
    obtain ⟨hk_1, h⟩ := h
    refine gf4_8 hx hb hts inX4_total_4 hown hE.1 hM hk_1 (hts (.fieldLink RX4 116 "WorkCoderModel" "answers" "I") (by decide +kernel)) dX4_total_28 ?_
    refine lv_imul hx hb dX4_total_31 ?_
    refine lv_icmp_ge (tgt := 194) hx hb dX4_total_32 (by decide) (fun hc => ?_) (fun hc => ?_)
    · replace h := h.1 hc
      refine lv_iload_n hx hb dX4_total_194 rfl (lv_at hl 3 rfl) ?_
      exact W.iret (v := x3) hx hb hr (fun t_ ht hW => ⟨⟨_, _, rfl, h, mB_of ht hM⟩, hS.F ht⟩) hS.2.2 dX4_total_195
    · replace h := h.2 hc
      refine lv_aload_n hx hb dX4_total_35 rfl (lv_at hl 0 rfl) ?_
      refine lv_iload hx hb dX4_total_36 (lv_at hl 4 rfl) ?_
      refine clVi (C := RX4) (b := t) (As := [.int x4]) (rest := []) ⟨hx, hb, hml, hown, hts⟩ hM hE hS (ok_X4_isItem l D cs A t x4 _ _ h) (cwV 1 hts gX4_total_X4_isItem rfl rfl rfl (by decide +kernel) ⟨(Nat.le_of_ble_eq_true rfl), (Nat.le_of_ble_eq_true rfl)⟩) (rc4 hM hE.1 hk_1) rfl hl.1 rfl (Nat.le_of_ble_eq_true rfl) dX4_total_38 ⟨(Nat.le_of_ble_eq_true rfl), (Nat.le_of_ble_eq_true rfl)⟩ (fun x_3 σ_2 H locs h1 hM hS => ?_)
      replace h := h1
      clear h1
      refine lv_if_eq (tgt := 188) hx hb dX4_total_41 (by decide) (fun hc => ?_) (fun hc => ?_)
      · replace h := h.1 hc
        obtain ⟨x_4, ex_4⟩ : ∃ y : Int32, y = x4 + 1 := ⟨_, rfl⟩
        replace h := h x_4 ex_4
        refine lv_iinc (v := x_4) (lv' := [(4, .int x_4), (0, .ref t), (1, .int x1), (2, .int x2), (3, .int x3)]) hx hb dX4_total_188 hl (k := 4) rfl (by rw [ex_4]; rfl) (by decide) rfl (fun ls hl => ?_)
        refine lv_goto (tgt := 24) hx hb dX4_total_191 (by decide) ?_
        exact ih _ _ _ _ _ _ _ _ h hM hS (lv_sub hl [1, 2, 3, 4, 0] rfl)
      · replace h := h.2 hc
        refine lv_aload_n hx hb dX4_total_44 rfl (lv_at hl 0 rfl) ?_
        obtain ⟨hk_5, h⟩ := h
        refine gf4_13 hx hb hts inX4_total_4 hown hE.1 hM hk_5 (hts (.fieldLink RX4 46 "WorkCoderModel" "state" "[I") (by decide +kernel)) dX4_total_45 (fun r_6 er_6 => ?_)
        replace h := h r_6 er_6
        clear er_6
        refine lv_iload hx hb dX4_total_48 (lv_at hl 4 rfl) ?_
        obtain ⟨a_7, rfl, h⟩ := h
        obtain ⟨hk_8, h⟩ := h
        obtain ⟨hv_9, h⟩ := h
        refine mm_iald hx hb hE.1 hM hk_8 hv_9 dX4_total_50 ?_
        refine lv_iconst (v := 1) hx hb dX4_total_51 (by decide) ?_
        refine lv_icmp_ne (tgt := 188) hx hb dX4_total_52 (by decide) (fun hc => ?_) (fun hc => ?_)
        · replace h := h.1 hc
          obtain ⟨x_10, ex_10⟩ : ∃ y : Int32, y = x4 + 1 := ⟨_, rfl⟩
          replace h := h x_10 ex_10
          refine lv_iinc (v := x_10) (lv' := [(4, .int x_10), (0, .ref t), (1, .int x1), (2, .int x2), (3, .int x3)]) hx hb dX4_total_188 hl (k := 4) rfl (by rw [ex_10]; rfl) (by decide) rfl (fun ls hl => ?_)
          refine lv_goto (tgt := 24) hx hb dX4_total_191 (by decide) ?_
          exact ih _ _ _ _ _ _ _ _ h hM hS (lv_sub hl [1, 2, 3, 4, 0] rfl)
        · replace h := h.2 hc
          refine lv_aload_n hx hb dX4_total_55 rfl (lv_at hl 0 rfl) ?_
          refine gf4_7 hx hb hts inX4_total_4 hown hE.1 hM hk_5 (hts (.fieldLink RX4 31 "WorkCoderModel" "carries" "[I") (by decide +kernel)) dX4_total_56 (fun r_11 er_11 => ?_)
          replace h := h r_11 er_11
          clear er_11
          refine lv_aload_n hx hb dX4_total_59 rfl (lv_at hl 0 rfl) ?_
          refine gf4_14 hx hb hts inX4_total_4 hown hE.1 hM hk_5 (hts (.fieldLink RX4 49 "WorkCoderModel" "codeOf" "[I") (by decide +kernel)) dX4_total_60 (fun r_12 er_12 => ?_)
          replace h := h r_12 er_12
          clear er_12
          refine lv_iload hx hb dX4_total_63 (lv_at hl 4 rfl) ?_
          obtain ⟨a_13, rfl, h⟩ := h
          obtain ⟨hk_14, h⟩ := h
          obtain ⟨hv_15, h⟩ := h
          refine mm_iald hx hb hE.1 hM hk_14 hv_15 dX4_total_65 ?_
          obtain ⟨a_16, rfl, h⟩ := h
          obtain ⟨hk_17, h⟩ := h
          obtain ⟨hv_18, h⟩ := h
          refine mm_iald hx hb hE.1 hM hk_17 hv_18 dX4_total_66 ?_
          refine lv_if_ne (tgt := 73) hx hb dX4_total_67 (by decide) (fun hc => ?_) (fun hc => ?_)
          · replace h := h.1 hc
            refine lv_iconst (v := 1) hx hb dX4_total_73 (by decide) ?_
            refine lv_istore (i := 5) (lv' := [(5, .int 1), (0, .ref t), (1, .int x1), (2, .int x2), (3, .int x3), (4, .int x4)]) hx hb dX4_total_74 hl (by decide) rfl (fun ls hl => ?_)
            refine lv_iconst (v := 0) hx hb dX4_total_76 (by decide) ?_
            refine lv_istore (i := 6) (lv' := [(6, .int 0), (5, .int 1), (0, .ref t), (1, .int x1), (2, .int x2), (3, .int x3), (4, .int x4)]) hx hb dX4_total_77 hl (by decide) rfl (fun ls hl => ?_)
            refine lv_iconst (v := 0) hx hb dX4_total_79 (by decide) ?_
            refine lv_istore (i := 7) (lv' := [(7, .int 0), (6, .int 0), (5, .int 1), (0, .ref t), (1, .int x1), (2, .int x2), (3, .int x3), (4, .int x4)]) hx hb dX4_total_80 hl (by decide) rfl (fun ls hl => ?_)
            obtain ⟨n0, h⟩ := h
            exact oX4_total_82 CX ih n0 _ _ _ _ _ _ _ _ _ _ _ h hM hS (lv_sub hl [3, 4, 5, 6, 7, 2, 1, 0] rfl)
          · replace h := h.2 hc
            refine lv_goto (tgt := 188) hx hb dX4_total_70 (by decide) ?_
            obtain ⟨x_19, ex_19⟩ : ∃ y : Int32, y = x4 + 1 := ⟨_, rfl⟩
            replace h := h x_19 ex_19
            refine lv_iinc (v := x_19) (lv' := [(4, .int x_19), (0, .ref t), (1, .int x1), (2, .int x2), (3, .int x3)]) hx hb dX4_total_188 hl (k := 4) rfl (by rw [ex_19]; rfl) (by decide) rfl (fun ls hl => ?_)
            refine lv_goto (tgt := 24) hx hb dX4_total_191 (by decide) ?_
            exact ih _ _ _ _ _ _ _ _ h hM hS (lv_sub hl [1, 2, 3, 4, 0] rfl)
set_option maxHeartbeats 4000000 in
set_option maxRecDepth 100000 in
theorem oX4_total_0 {k : Int32 → MM → Prop} {t : Nat} (CX : CXM p s m args meth c cX4_total 9 (some .int) "total" RX4 wsX4_total D cs A) : ∀ (x1 : Int32) (x2 : Int32) (σ : MM) (H : Heap) (locs : List Loc) (ls : Array Slot), wX4_total t x1 x2 σ k → PH D cs A σ H → va_S A s.heap H locs → lv_has ls 9 [(0, .ref t), (1, .int x1), (2, .int x2)] → W p l e (headSpec wsX4_total rmX4_total).room s m args below meth c H locs 0 0 (MQ below (va_Qi k (mB D cs A) A) args s 0 0 A) (F0 m 0 ls []) := by
  intro x1 x2 σ H locs ls h hM hS hl
  have ⟨hx, hb, hml, hr, hnm, hown, hts, hlocks, hE⟩ := CX
  unfold wX4_total at h
  refine lv_aload_n hx hb dX4_total_0 rfl (lv_at hl 0 rfl) ?_
  refine lv_iload_n hx hb dX4_total_1 rfl (lv_at hl 1 rfl) ?_
  obtain ⟨hk_1, h⟩ := h
  refine clVi (C := RX4) (b := t) (As := [.int x1]) (rest := []) ⟨hx, hb, hml, hown, hts⟩ hM hE hS (ok_X4_isOther l D cs A t x1 _ _ h) (cwV 1 hts gX4_total_X4_isOther rfl rfl rfl (by decide +kernel) ⟨(Nat.le_of_ble_eq_true rfl), (Nat.le_of_ble_eq_true rfl)⟩) (rc4 hM hE.1 hk_1) rfl hl.1 rfl (Nat.le_of_ble_eq_true rfl) dX4_total_2 ⟨(Nat.le_of_ble_eq_true rfl), (Nat.le_of_ble_eq_true rfl)⟩ (fun x_3 σ_2 H locs h1 hM hS => ?_)
  replace h := h1
  clear h1
  refine lv_if_eq (tgt := 17) hx hb dX4_total_5 (by decide) (fun hc => ?_) (fun hc => ?_)
  · replace h := h.1 hc
    refine lv_iconst (v := (-1)) hx hb dX4_total_17 (by decide) ?_
    exact W.iret (v := (-1)) hx hb hr (fun t_ ht hW => ⟨⟨_, _, rfl, h, mB_of ht hM⟩, hS.F ht⟩) hS.2.2 dX4_total_18
  · replace h := h.2 hc
    refine lv_iload_n hx hb dX4_total_8 rfl (lv_at hl 2 rfl) ?_
    refine lv_iconst (v := 0) hx hb dX4_total_9 (by decide) ?_
    refine lv_iconst (v := 1) hx hb dX4_total_10 (by decide) ?_
    refine clSi (As := [.int x2, .int 0, .int 1]) (rest := []) ⟨hx, hb, hml, hown, hts⟩ hM hE hS (ok_X4_in l D cs A x2 0 1 _ _ h) (va_cwS 3 hts gX4_total_X4_in rfl rfl rfl (by decide +kernel) ⟨(Nat.le_of_ble_eq_true rfl), (Nat.le_of_ble_eq_true rfl)⟩) rfl hl.1 rfl (Nat.le_of_ble_eq_true rfl) dX4_total_11 ⟨(Nat.le_of_ble_eq_true rfl), (Nat.le_of_ble_eq_true rfl)⟩ (fun x_5 σ_4 H locs h1 hM hS => ?_)
    replace h := h1
    clear h1
    refine lv_if_ne (tgt := 19) hx hb dX4_total_14 (by decide) (fun hc => ?_) (fun hc => ?_)
    · replace h := h.1 hc
      refine lv_iconst (v := 0) hx hb dX4_total_19 (by decide) ?_
      refine lv_istore_n (i := 3) (lv' := [(3, .int 0), (0, .ref t), (1, .int x1), (2, .int x2)]) hx hb dX4_total_20 rfl hl (by decide) rfl (fun ls hl => ?_)
      refine lv_iconst (v := 0) hx hb dX4_total_21 (by decide) ?_
      refine lv_istore (i := 4) (lv' := [(4, .int 0), (3, .int 0), (0, .ref t), (1, .int x1), (2, .int x2)]) hx hb dX4_total_22 hl (by decide) rfl (fun ls hl => ?_)
      obtain ⟨n0, h⟩ := h
      exact oX4_total_24 CX  n0 _ _ _ _ _ _ _ _ h hM hS (lv_sub hl [2, 3, 4, 1, 0] rfl)
    · replace h := h.2 hc
      refine lv_iconst (v := (-1)) hx hb dX4_total_17 (by decide) ?_
      exact W.iret (v := (-1)) hx hb hr (fun t_ ht hW => ⟨⟨_, _, rfl, h, mB_of ht hM⟩, hS.F ht⟩) hS.2.2 dX4_total_18
end S_X4_total
set_option maxHeartbeats 4000000 in
set_option maxRecDepth 100000 in
theorem ok_X4_total (l : Launch) (D : va_G) (cs : CS) (A : Nat → Prop) (t : Nat) (x1 : Int32) (x2 : Int32) (σ : MM) (k : Int32 → MM → Prop) (h : wX4_total t x1 x2 σ k) : Met l yX4_total wsX4_total rmX4_total (va_Pc [.ref t, .int x1, .int x2] (mP D cs A σ)) (va_Qi k (mB D cs A) A) 0 0 A := by
  refine Met.ofW (cc := cX4_total) (maxL := 9) (ret := (some .int)) (by decide) rfl ?_
  intro p e s m args below meth c s₁ B hml hv
  obtain ⟨rfl, hM, hE⟩ := hv
  have CX : CXM p s m _ meth c cX4_total 9 (some .int) "total" RX4 wsX4_total D cs A := ⟨B.exec, B.bytes, hml, B.returns, (name_of_methodNamed B.named B.method).1, findClass_of_methodNamed B.named, atoms_spec (ws := wsX4_total) B.pre, B.notSynchronized, hE⟩
  have hl := lv_entry ([.ref t, .int x1, .int x2]) (n := 9) (Nat.le_of_ble_eq_true rfl)
  rw [lg_entry_eq]
  exact oX4_total_0 CX x1 x2 σ _ _ _ h hM va_S.rf hl
/-! WorkCoderModel.agree(I)J -/
abbrev rmX4_agree : Room := { frames := 2, cells := 0, slots := 0, locals := 43 }
theorem inX4_agree_4 : ∀ w ∈ wsX40, w ∈ wsX4_agree := fun _ h => List.mem_cons_of_mem _ (List.mem_append_right _ (h))
section S_X4_agree
variable {p : Program} {l : Launch} {e : Env} {s : State} {m : MethodId} {args : Array Value} {below : List Frame} {meth : Method} {c : Code} {D : va_G} {cs : CS} {A : Nat → Prop}
set_option maxHeartbeats 4000000 in
set_option maxRecDepth 100000 in
theorem oX4_agree_101 {k : Int64 → MM → Prop} {t : Nat} {g14 : Int32 → Int64 → Int64 → Int64 → Int64 → Int32 → MM → Prop} (CX : CXM p s m args meth c cX4_agree 12 (some .long) "agree" RX4 wsX4_agree D cs A) (hg14 : ∀ (x1 : Int32) (y2 : Int64) (y4 : Int64) (y6 : Int64) (y8 : Int64) (x10 : Int32) (σ : MM) (H : Heap) (locs : List Loc) (ls : Array Slot), g14 x1 y2 y4 y6 y8 x10 σ → PH D cs A σ H → va_S A s.heap H locs → lv_has ls 12 [(0, .ref t), (1, .int x1), (2, .long y2), (4, .long y4), (6, .long y6), (8, .long y8), (10, .int x10)] → W p l e (headSpec wsX4_agree rmX4_agree).room s m args below meth c H locs 0 0 (MQ below (va_Ql k (mB D cs A) A) args s 0 0 A) (F0 m 14 ls [])) : ∀ (n : Nat), ∀ (x1 : Int32) (y2 : Int64) (y4 : Int64) (y6 : Int64) (y8 : Int64) (x10 : Int32) (x11 : Int32) (σ : MM) (H : Heap) (locs : List Loc) (ls : Array Slot), wX4_agree_101 k t g14 n x1 y2 y4 y6 y8 x10 x11 σ → PH D cs A σ H → va_S A s.heap H locs → lv_has ls 12 [(0, .ref t), (1, .int x1), (2, .long y2), (4, .long y4), (6, .long y6), (8, .long y8), (10, .int x10), (11, .int x11)] → W p l e (headSpec wsX4_agree rmX4_agree).room s m args below meth c H locs 0 0 (MQ below (va_Ql k (mB D cs A) A) args s 0 0 A) (F0 m 101 ls []) := by
  intro n
  induction n with
  | zero => intro x1 y2 y4 y6 y8 x10 x11 σ H locs ls h; exact h.elim
  | succ n ih =>
    intro x1 y2 y4 y6 y8 x10 x11 σ H locs ls h hM hS hl
    have ⟨hx, hb, hml, hr, hnm, hown, hts, hlocks, hE⟩ := CX
    unfold wX4_agree_101 at h
    refine lv_iload hx hb dX4_agree_101 (lv_at hl 7 rfl) ?_
    refine lv_iconst (v := 2) hx hb dX4_agree_103 (by decide) ?_
    refine lv_aload_n hx hb dX4_agree_104 rfl (lv_at hl 0 rfl) ?_
    obtain ⟨hk_1, h⟩ := h
    refine gf4_8 hx hb hts inX4_agree_4 hown hE.1 hM hk_1 (hts (.fieldLink RX4 116 "WorkCoderModel" "answers" "I") (by decide +kernel)) dX4_agree_105 ?_
    refine lv_imul hx hb dX4_agree_108 ?_
    refine lv_icmp_ge (tgt := 154) hx hb dX4_agree_109 (by decide) (fun hc => ?_) (fun hc => ?_)
    · replace h := h.1 hc
      obtain ⟨x_2, ex_2⟩ : ∃ y : Int32, y = x10 + 1 := ⟨_, rfl⟩
      replace h := h x_2 ex_2
      refine lv_iinc (v := x_2) (lv' := [(10, .int x_2), (0, .ref t), (1, .int x1), (2, .long y2), (4, .long y4), (6, .long y6), (8, .long y8), (11, .int x11)]) hx hb dX4_agree_154 hl (k := 6) rfl (by rw [ex_2]; rfl) (by decide) rfl (fun ls hl => ?_)
      refine lv_goto (tgt := 14) hx hb dX4_agree_157 (by decide) ?_
      exact hg14 _ _ _ _ _ _ _ _ _ _ h hM hS (lv_sub hl [1, 2, 3, 4, 5, 6, 0] rfl)
    · replace h := h.2 hc
      refine lv_lload hx hb dX4_agree_112 (lv_at hl 4 rfl) ?_
      refine lv_aload_n hx hb dX4_agree_114 rfl (lv_at hl 0 rfl) ?_
      refine lv_iload hx hb dX4_agree_115 (lv_at hl 7 rfl) ?_
      refine clVi (C := RX4) (b := t) (As := [.int x11]) (rest := [.long y6]) ⟨hx, hb, hml, hown, hts⟩ hM hE hS (ok_X4_isItem l D cs A t x11 _ _ h) (cwV 1 hts gX4_agree_X4_isItem rfl rfl rfl (by decide +kernel) ⟨(Nat.le_of_ble_eq_true rfl), (Nat.le_of_ble_eq_true rfl)⟩) (rc4 hM hE.1 hk_1) rfl hl.1 rfl (Nat.le_of_ble_eq_true rfl) dX4_agree_117 ⟨(Nat.le_of_ble_eq_true rfl), (Nat.le_of_ble_eq_true rfl)⟩ (fun x_4 σ_3 H locs h1 hM hS => ?_)
      replace h := h1
      clear h1
      refine lv_if_eq (tgt := 144) hx hb dX4_agree_120 (by decide) (fun hc => ?_) (fun hc => ?_)
      · replace h := h.1 hc
        refine lv_lconst (v := 0) hx hb dX4_agree_144 (by decide) ?_
        refine lv_ladd hx hb dX4_agree_145 ?_
        refine lv_topl (fun y_5 ey_5 => ?_)
        replace h := h y_5 ey_5
        refine lv_lstore (i := 6) (lv' := [(6, .long y_5), (0, .ref t), (1, .int x1), (2, .long y2), (4, .long y4), (8, .long y8), (10, .int x10), (11, .int x11)]) hx hb dX4_agree_146 hl (by decide) rfl (fun ls hl => ?_)
        obtain ⟨x_6, ex_6⟩ : ∃ y : Int32, y = x11 + 1 := ⟨_, rfl⟩
        replace h := h x_6 ex_6
        refine lv_iinc (v := x_6) (lv' := [(11, .int x_6), (6, .long y_5), (0, .ref t), (1, .int x1), (2, .long y2), (4, .long y4), (8, .long y8), (10, .int x10)]) hx hb dX4_agree_148 hl (k := 7) rfl (by rw [ex_6]; rfl) (by decide) rfl (fun ls hl => ?_)
        refine lv_goto (tgt := 101) hx hb dX4_agree_151 (by decide) ?_
        exact ih _ _ _ _ _ _ _ _ _ _ _ h hM hS (lv_sub hl [2, 3, 4, 5, 1, 6, 7, 0] rfl)
      · replace h := h.2 hc
        refine lv_aload_n hx hb dX4_agree_123 rfl (lv_at hl 0 rfl) ?_
        obtain ⟨hk_7, h⟩ := h
        refine gf4_17 hx hb hts inX4_agree_4 hown hE.1 hM hk_7 (hts (.fieldLink RX4 58 "WorkCoderModel" "second" "[I") (by decide +kernel)) dX4_agree_124 (fun r_8 er_8 => ?_)
        replace h := h r_8 er_8
        clear er_8
        refine lv_iload hx hb dX4_agree_127 (lv_at hl 7 rfl) ?_
        obtain ⟨a_9, rfl, h⟩ := h
        obtain ⟨hk_10, h⟩ := h
        obtain ⟨hv_11, h⟩ := h
        refine mm_iald hx hb hE.1 hM hk_10 hv_11 dX4_agree_129 ?_
        refine lv_aload_n hx hb dX4_agree_130 rfl (lv_at hl 0 rfl) ?_
        refine gf4_14 hx hb hts inX4_agree_4 hown hE.1 hM hk_7 (hts (.fieldLink RX4 49 "WorkCoderModel" "codeOf" "[I") (by decide +kernel)) dX4_agree_131 (fun r_12 er_12 => ?_)
        replace h := h r_12 er_12
        clear er_12
        refine lv_iload hx hb dX4_agree_134 (lv_at hl 6 rfl) ?_
        obtain ⟨a_13, rfl, h⟩ := h
        obtain ⟨hk_14, h⟩ := h
        obtain ⟨hv_15, h⟩ := h
        refine mm_iald hx hb hE.1 hM hk_14 hv_15 dX4_agree_136 ?_
        refine lv_icmp_ne (tgt := 144) hx hb dX4_agree_137 (by decide) (fun hc => ?_) (fun hc => ?_)
        · replace h := h.1 hc
          refine lv_lconst (v := 0) hx hb dX4_agree_144 (by decide) ?_
          refine lv_ladd hx hb dX4_agree_145 ?_
          refine lv_topl (fun y_16 ey_16 => ?_)
          replace h := h y_16 ey_16
          refine lv_lstore (i := 6) (lv' := [(6, .long y_16), (0, .ref t), (1, .int x1), (2, .long y2), (4, .long y4), (8, .long y8), (10, .int x10), (11, .int x11)]) hx hb dX4_agree_146 hl (by decide) rfl (fun ls hl => ?_)
          obtain ⟨x_17, ex_17⟩ : ∃ y : Int32, y = x11 + 1 := ⟨_, rfl⟩
          replace h := h x_17 ex_17
          refine lv_iinc (v := x_17) (lv' := [(11, .int x_17), (6, .long y_16), (0, .ref t), (1, .int x1), (2, .long y2), (4, .long y4), (8, .long y8), (10, .int x10)]) hx hb dX4_agree_148 hl (k := 7) rfl (by rw [ex_17]; rfl) (by decide) rfl (fun ls hl => ?_)
          refine lv_goto (tgt := 101) hx hb dX4_agree_151 (by decide) ?_
          exact ih _ _ _ _ _ _ _ _ _ _ _ h hM hS (lv_sub hl [2, 3, 4, 5, 1, 6, 7, 0] rfl)
        · replace h := h.2 hc
          refine lv_lconst (v := 1) hx hb dX4_agree_140 (by decide) ?_
          refine lv_goto (tgt := 145) hx hb dX4_agree_141 (by decide) ?_
          refine lv_ladd hx hb dX4_agree_145 ?_
          refine lv_topl (fun y_18 ey_18 => ?_)
          replace h := h y_18 ey_18
          refine lv_lstore (i := 6) (lv' := [(6, .long y_18), (0, .ref t), (1, .int x1), (2, .long y2), (4, .long y4), (8, .long y8), (10, .int x10), (11, .int x11)]) hx hb dX4_agree_146 hl (by decide) rfl (fun ls hl => ?_)
          obtain ⟨x_19, ex_19⟩ : ∃ y : Int32, y = x11 + 1 := ⟨_, rfl⟩
          replace h := h x_19 ex_19
          refine lv_iinc (v := x_19) (lv' := [(11, .int x_19), (6, .long y_18), (0, .ref t), (1, .int x1), (2, .long y2), (4, .long y4), (8, .long y8), (10, .int x10)]) hx hb dX4_agree_148 hl (k := 7) rfl (by rw [ex_19]; rfl) (by decide) rfl (fun ls hl => ?_)
          refine lv_goto (tgt := 101) hx hb dX4_agree_151 (by decide) ?_
          exact ih _ _ _ _ _ _ _ _ _ _ _ h hM hS (lv_sub hl [2, 3, 4, 5, 1, 6, 7, 0] rfl)
set_option maxHeartbeats 4000000 in
set_option maxRecDepth 100000 in
theorem oX4_agree_14 {k : Int64 → MM → Prop} {t : Nat} (CX : CXM p s m args meth c cX4_agree 12 (some .long) "agree" RX4 wsX4_agree D cs A) : ∀ (n : Nat), ∀ (x1 : Int32) (y2 : Int64) (y4 : Int64) (y6 : Int64) (y8 : Int64) (x10 : Int32) (σ : MM) (H : Heap) (locs : List Loc) (ls : Array Slot), wX4_agree_14 k t  n x1 y2 y4 y6 y8 x10 σ → PH D cs A σ H → va_S A s.heap H locs → lv_has ls 12 [(0, .ref t), (1, .int x1), (2, .long y2), (4, .long y4), (6, .long y6), (8, .long y8), (10, .int x10)] → W p l e (headSpec wsX4_agree rmX4_agree).room s m args below meth c H locs 0 0 (MQ below (va_Ql k (mB D cs A) A) args s 0 0 A) (F0 m 14 ls []) := by
  intro n
  induction n with
  | zero => intro x1 y2 y4 y6 y8 x10 σ H locs ls h; exact h.elim
  | succ n ih =>
    intro x1 y2 y4 y6 y8 x10 σ H locs ls h hM hS hl
    have ⟨hx, hb, hml, hr, hnm, hown, hts, hlocks, hE⟩ := CX
    unfold wX4_agree_14 at h
    refine lv_iload hx hb dX4_agree_14 (lv_at hl 6 rfl) ?_
    refine lv_iconst (v := 2) hx hb dX4_agree_16 (by decide) ?_
    refine lv_aload_n hx hb dX4_agree_17 rfl (lv_at hl 0 rfl) ?_
    obtain ⟨hk_1, h⟩ := h
    refine gf4_8 hx hb hts inX4_agree_4 hown hE.1 hM hk_1 (hts (.fieldLink RX4 116 "WorkCoderModel" "answers" "I") (by decide +kernel)) dX4_agree_18 ?_
    refine lv_imul hx hb dX4_agree_21 ?_
    refine lv_icmp_ge (tgt := 160) hx hb dX4_agree_22 (by decide) (fun hc => ?_) (fun hc => ?_)
    · replace h := h.1 hc
      refine lv_iload_n hx hb dX4_agree_160 rfl (lv_at hl 1 rfl) ?_
      rcases sw_5 x1 with hc | hc | hc | hc | hc | hc | hc
      · replace h := h.1 hc
        refine lv_tableOut (tgt := 245) hx hb dX4_agree_161 hc (by decide) ?_
        refine lv_ldc2 (v := (-1000000000)) hx hb hown (hts (.constantLong RX4 193 (-1000000000)) (by decide +kernel)) dX4_agree_245 ?_
        exact W.lret (v := (-1000000000)) hx hb hr (fun t_ ht hW => ⟨⟨_, _, rfl, h, mB_of ht hM⟩, hS.F ht⟩) hS.2.2 dX4_agree_248
      · replace h := h.2.1 hc
        refine lv_tableIn (tgt := 200) (off := 39) hx hb dX4_agree_161 (by rw [hc]; decide) (by rw [hc]; decide) (by rw [hc]; rfl) (by decide) ?_
        refine lv_lload_n hx hb dX4_agree_200 rfl (lv_at hl 2 rfl) ?_
        exact W.lret (v := y2) hx hb hr (fun t_ ht hW => ⟨⟨_, _, rfl, h, mB_of ht hM⟩, hS.F ht⟩) hS.2.2 dX4_agree_201
      · replace h := h.2.2.1 hc
        refine lv_tableIn (tgt := 202) (off := 41) hx hb dX4_agree_161 (by rw [hc]; decide) (by rw [hc]; decide) (by rw [hc]; rfl) (by decide) ?_
        refine lv_lload hx hb dX4_agree_202 (lv_at hl 3 rfl) ?_
        exact W.lret (v := y4) hx hb hr (fun t_ ht hW => ⟨⟨_, _, rfl, h, mB_of ht hM⟩, hS.F ht⟩) hS.2.2 dX4_agree_204
      · replace h := h.2.2.2.1 hc
        refine lv_tableIn (tgt := 205) (off := 44) hx hb dX4_agree_161 (by rw [hc]; decide) (by rw [hc]; decide) (by rw [hc]; rfl) (by decide) ?_
        refine lv_lload_n hx hb dX4_agree_205 rfl (lv_at hl 2 rfl) ?_
        refine lv_lload hx hb dX4_agree_206 (lv_at hl 3 rfl) ?_
        refine lv_lmul hx hb dX4_agree_208 ?_
        refine lv_lload hx hb dX4_agree_209 (lv_at hl 4 rfl) ?_
        refine lv_lsub hx hb dX4_agree_211 ?_
        exact W.lret (v := (y2 * y4) - y6) hx hb hr (fun t_ ht hW => ⟨⟨_, _, rfl, h, mB_of ht hM⟩, hS.F ht⟩) hS.2.2 dX4_agree_212
      · replace h := h.2.2.2.2.1 hc
        refine lv_tableIn (tgt := 213) (off := 52) hx hb dX4_agree_161 (by rw [hc]; decide) (by rw [hc]; decide) (by rw [hc]; rfl) (by decide) ?_
        refine lv_lload_n hx hb dX4_agree_213 rfl (lv_at hl 2 rfl) ?_
        refine lv_lload_n hx hb dX4_agree_214 rfl (lv_at hl 2 rfl) ?_
        refine lv_lmul hx hb dX4_agree_215 ?_
        refine lv_lload hx hb dX4_agree_216 (lv_at hl 4 rfl) ?_
        refine lv_lsub hx hb dX4_agree_218 ?_
        exact W.lret (v := (y2 * y2) - y6) hx hb hr (fun t_ ht hW => ⟨⟨_, _, rfl, h, mB_of ht hM⟩, hS.F ht⟩) hS.2.2 dX4_agree_219
      · replace h := h.2.2.2.2.2.1 hc
        refine lv_tableIn (tgt := 220) (off := 59) hx hb dX4_agree_161 (by rw [hc]; decide) (by rw [hc]; decide) (by rw [hc]; rfl) (by decide) ?_
        refine lv_aload_n hx hb dX4_agree_220 rfl (lv_at hl 0 rfl) ?_
        refine gf4_2 hx hb hts inX4_agree_4 hown hE.1 hM hk_1 (hts (.fieldLink RX4 98 "WorkCoderModel" "codes" "I") (by decide +kernel)) dX4_agree_221 ?_
        refine lv_iconst (v := 1) hx hb dX4_agree_224 (by decide) ?_
        refine lv_icmp_le (tgt := 233) hx hb dX4_agree_225 (by decide) (fun hc => ?_) (fun hc => ?_)
        · replace h := h.1 hc
          refine lv_lload hx hb dX4_agree_233 (lv_at hl 3 rfl) ?_
          refine lv_lload hx hb dX4_agree_235 (lv_at hl 5 rfl) ?_
          refine lv_ladd hx hb dX4_agree_237 ?_
          exact W.lret (v := y4 + y8) hx hb hr (fun t_ ht hW => ⟨⟨_, _, rfl, h, mB_of ht hM⟩, hS.F ht⟩) hS.2.2 dX4_agree_238
        · replace h := h.2 hc
          refine lv_lload hx hb dX4_agree_228 (lv_at hl 3 rfl) ?_
          refine lv_goto (tgt := 238) hx hb dX4_agree_230 (by decide) ?_
          exact W.lret (v := y4) hx hb hr (fun t_ ht hW => ⟨⟨_, _, rfl, h, mB_of ht hM⟩, hS.F ht⟩) hS.2.2 dX4_agree_238
      · replace h := h.2.2.2.2.2.2 hc
        refine lv_tableIn (tgt := 239) (off := 78) hx hb dX4_agree_161 (by rw [hc]; decide) (by rw [hc]; decide) (by rw [hc]; rfl) (by decide) ?_
        refine lv_lload hx hb dX4_agree_239 (lv_at hl 3 rfl) ?_
        refine lv_lload hx hb dX4_agree_241 (lv_at hl 5 rfl) ?_
        refine lv_ladd hx hb dX4_agree_243 ?_
        exact W.lret (v := y4 + y8) hx hb hr (fun t_ ht hW => ⟨⟨_, _, rfl, h, mB_of ht hM⟩, hS.F ht⟩) hS.2.2 dX4_agree_244
    · replace h := h.2 hc
      refine lv_aload_n hx hb dX4_agree_25 rfl (lv_at hl 0 rfl) ?_
      refine lv_iload hx hb dX4_agree_26 (lv_at hl 6 rfl) ?_
      refine clVi (C := RX4) (b := t) (As := [.int x10]) (rest := []) ⟨hx, hb, hml, hown, hts⟩ hM hE hS (ok_X4_isItem l D cs A t x10 _ _ h) (cwV 1 hts gX4_agree_X4_isItem rfl rfl rfl (by decide +kernel) ⟨(Nat.le_of_ble_eq_true rfl), (Nat.le_of_ble_eq_true rfl)⟩) (rc4 hM hE.1 hk_1) rfl hl.1 rfl (Nat.le_of_ble_eq_true rfl) dX4_agree_28 ⟨(Nat.le_of_ble_eq_true rfl), (Nat.le_of_ble_eq_true rfl)⟩ (fun x_3 σ_2 H locs h1 hM hS => ?_)
      replace h := h1
      clear h1
      refine lv_if_eq (tgt := 154) hx hb dX4_agree_31 (by decide) (fun hc => ?_) (fun hc => ?_)
      · replace h := h.1 hc
        obtain ⟨x_4, ex_4⟩ : ∃ y : Int32, y = x10 + 1 := ⟨_, rfl⟩
        replace h := h x_4 ex_4
        refine lv_iinc (v := x_4) (lv' := [(10, .int x_4), (0, .ref t), (1, .int x1), (2, .long y2), (4, .long y4), (6, .long y6), (8, .long y8)]) hx hb dX4_agree_154 hl (k := 6) rfl (by rw [ex_4]; rfl) (by decide) rfl (fun ls hl => ?_)
        refine lv_goto (tgt := 14) hx hb dX4_agree_157 (by decide) ?_
        exact ih _ _ _ _ _ _ _ _ _ _ h hM hS (lv_sub hl [1, 2, 3, 4, 5, 6, 0] rfl)
      · replace h := h.2 hc
        refine lv_aload_n hx hb dX4_agree_34 rfl (lv_at hl 0 rfl) ?_
        obtain ⟨hk_5, h⟩ := h
        refine gf4_13 hx hb hts inX4_agree_4 hown hE.1 hM hk_5 (hts (.fieldLink RX4 46 "WorkCoderModel" "state" "[I") (by decide +kernel)) dX4_agree_35 (fun r_6 er_6 => ?_)
        replace h := h r_6 er_6
        clear er_6
        refine lv_iload hx hb dX4_agree_38 (lv_at hl 6 rfl) ?_
        obtain ⟨a_7, rfl, h⟩ := h
        obtain ⟨hk_8, h⟩ := h
        obtain ⟨hv_9, h⟩ := h
        refine mm_iald hx hb hE.1 hM hk_8 hv_9 dX4_agree_40 ?_
        refine lv_iconst (v := 1) hx hb dX4_agree_41 (by decide) ?_
        refine lv_icmp_eq (tgt := 48) hx hb dX4_agree_42 (by decide) (fun hc => ?_) (fun hc => ?_)
        · replace h := h.1 hc
          refine lv_aload_n hx hb dX4_agree_48 rfl (lv_at hl 0 rfl) ?_
          refine gf4_17 hx hb hts inX4_agree_4 hown hE.1 hM hk_5 (hts (.fieldLink RX4 58 "WorkCoderModel" "second" "[I") (by decide +kernel)) dX4_agree_49 (fun r_10 er_10 => ?_)
          replace h := h r_10 er_10
          clear er_10
          refine lv_iload hx hb dX4_agree_52 (lv_at hl 6 rfl) ?_
          obtain ⟨a_11, rfl, h⟩ := h
          obtain ⟨hk_12, h⟩ := h
          obtain ⟨hv_13, h⟩ := h
          refine mm_iald hx hb hE.1 hM hk_12 hv_13 dX4_agree_54 ?_
          refine lv_if_ge (tgt := 67) hx hb dX4_agree_55 (by decide) (fun hc => ?_) (fun hc => ?_)
          · replace h := h.1 hc
            refine lv_lload_n hx hb dX4_agree_67 rfl (lv_at hl 2 rfl) ?_
            refine lv_lconst (v := 1) hx hb dX4_agree_68 (by decide) ?_
            refine lv_ladd hx hb dX4_agree_69 ?_
            refine lv_topl (fun y_14 ey_14 => ?_)
            replace h := h y_14 ey_14
            refine lv_lstore_n (i := 2) (lv' := [(2, .long y_14), (0, .ref t), (1, .int x1), (4, .long y4), (6, .long y6), (8, .long y8), (10, .int x10)]) hx hb dX4_agree_70 rfl hl (by decide) rfl (fun ls hl => ?_)
            refine lv_lload hx hb dX4_agree_71 (lv_at hl 3 rfl) ?_
            refine lv_aload_n hx hb dX4_agree_73 rfl (lv_at hl 1 rfl) ?_
            refine gf4_17 hx hb hts inX4_agree_4 hown hE.1 hM hk_5 (hts (.fieldLink RX4 58 "WorkCoderModel" "second" "[I") (by decide +kernel)) dX4_agree_74 (fun r_15 er_15 => ?_)
            replace h := h r_15 er_15
            clear er_15
            refine lv_iload hx hb dX4_agree_77 (lv_at hl 6 rfl) ?_
            obtain ⟨a_16, rfl, h⟩ := h
            obtain ⟨hk_17, h⟩ := h
            obtain ⟨hv_18, h⟩ := h
            refine mm_iald hx hb hE.1 hM hk_17 hv_18 dX4_agree_79 ?_
            refine lv_aload_n hx hb dX4_agree_80 rfl (lv_at hl 1 rfl) ?_
            refine gf4_14 hx hb hts inX4_agree_4 hown hE.1 hM hk_5 (hts (.fieldLink RX4 49 "WorkCoderModel" "codeOf" "[I") (by decide +kernel)) dX4_agree_81 (fun r_19 er_19 => ?_)
            replace h := h r_19 er_19
            clear er_19
            refine lv_iload hx hb dX4_agree_84 (lv_at hl 6 rfl) ?_
            obtain ⟨a_20, rfl, h⟩ := h
            obtain ⟨hk_21, h⟩ := h
            obtain ⟨hv_22, h⟩ := h
            refine mm_iald hx hb hE.1 hM hk_21 hv_22 dX4_agree_86 ?_
            refine lv_icmp_ne (tgt := 94) hx hb dX4_agree_87 (by decide) (fun hc => ?_) (fun hc => ?_)
            · replace h := h.1 hc
              refine lv_lconst (v := 0) hx hb dX4_agree_94 (by decide) ?_
              refine lv_ladd hx hb dX4_agree_95 ?_
              refine lv_topl (fun y_23 ey_23 => ?_)
              replace h := h y_23 ey_23
              refine lv_lstore (i := 4) (lv' := [(4, .long y_23), (2, .long y_14), (0, .ref t), (1, .int x1), (6, .long y6), (8, .long y8), (10, .int x10)]) hx hb dX4_agree_96 hl (by decide) rfl (fun ls hl => ?_)
              refine lv_iconst (v := 0) hx hb dX4_agree_98 (by decide) ?_
              refine lv_istore (i := 11) (lv' := [(11, .int 0), (4, .long y_23), (2, .long y_14), (0, .ref t), (1, .int x1), (6, .long y6), (8, .long y8), (10, .int x10)]) hx hb dX4_agree_99 hl (by decide) rfl (fun ls hl => ?_)
              obtain ⟨n0, h⟩ := h
              exact oX4_agree_101 CX ih n0 _ _ _ _ _ _ _ _ _ _ _ h hM hS (lv_sub hl [3, 4, 2, 1, 5, 6, 7, 0] rfl)
            · replace h := h.2 hc
              refine lv_lconst (v := 1) hx hb dX4_agree_90 (by decide) ?_
              refine lv_goto (tgt := 95) hx hb dX4_agree_91 (by decide) ?_
              refine lv_ladd hx hb dX4_agree_95 ?_
              refine lv_topl (fun y_24 ey_24 => ?_)
              replace h := h y_24 ey_24
              refine lv_lstore (i := 4) (lv' := [(4, .long y_24), (2, .long y_14), (0, .ref t), (1, .int x1), (6, .long y6), (8, .long y8), (10, .int x10)]) hx hb dX4_agree_96 hl (by decide) rfl (fun ls hl => ?_)
              refine lv_iconst (v := 0) hx hb dX4_agree_98 (by decide) ?_
              refine lv_istore (i := 11) (lv' := [(11, .int 0), (4, .long y_24), (2, .long y_14), (0, .ref t), (1, .int x1), (6, .long y6), (8, .long y8), (10, .int x10)]) hx hb dX4_agree_99 hl (by decide) rfl (fun ls hl => ?_)
              obtain ⟨n0, h⟩ := h
              exact oX4_agree_101 CX ih n0 _ _ _ _ _ _ _ _ _ _ _ h hM hS (lv_sub hl [3, 4, 2, 1, 5, 6, 7, 0] rfl)
          · replace h := h.2 hc
            refine lv_lload hx hb dX4_agree_58 (lv_at hl 5 rfl) ?_
            refine lv_lconst (v := 1) hx hb dX4_agree_60 (by decide) ?_
            refine lv_ladd hx hb dX4_agree_61 ?_
            refine lv_topl (fun y_25 ey_25 => ?_)
            replace h := h y_25 ey_25
            refine lv_lstore (i := 8) (lv' := [(8, .long y_25), (0, .ref t), (1, .int x1), (2, .long y2), (4, .long y4), (6, .long y6), (10, .int x10)]) hx hb dX4_agree_62 hl (by decide) rfl (fun ls hl => ?_)
            refine lv_goto (tgt := 154) hx hb dX4_agree_64 (by decide) ?_
            obtain ⟨x_26, ex_26⟩ : ∃ y : Int32, y = x10 + 1 := ⟨_, rfl⟩
            replace h := h x_26 ex_26
            refine lv_iinc (v := x_26) (lv' := [(10, .int x_26), (8, .long y_25), (0, .ref t), (1, .int x1), (2, .long y2), (4, .long y4), (6, .long y6)]) hx hb dX4_agree_154 hl (k := 6) rfl (by rw [ex_26]; rfl) (by decide) rfl (fun ls hl => ?_)
            refine lv_goto (tgt := 14) hx hb dX4_agree_157 (by decide) ?_
            exact ih _ _ _ _ _ _ _ _ _ _ h hM hS (lv_sub hl [2, 3, 4, 5, 6, 1, 0] rfl)
        · replace h := h.2 hc
          refine lv_goto (tgt := 154) hx hb dX4_agree_45 (by decide) ?_
          obtain ⟨x_27, ex_27⟩ : ∃ y : Int32, y = x10 + 1 := ⟨_, rfl⟩
          replace h := h x_27 ex_27
          refine lv_iinc (v := x_27) (lv' := [(10, .int x_27), (0, .ref t), (1, .int x1), (2, .long y2), (4, .long y4), (6, .long y6), (8, .long y8)]) hx hb dX4_agree_154 hl (k := 6) rfl (by rw [ex_27]; rfl) (by decide) rfl (fun ls hl => ?_)
          refine lv_goto (tgt := 14) hx hb dX4_agree_157 (by decide) ?_
          exact ih _ _ _ _ _ _ _ _ _ _ h hM hS (lv_sub hl [1, 2, 3, 4, 5, 6, 0] rfl)
set_option maxHeartbeats 4000000 in
set_option maxRecDepth 100000 in
theorem oX4_agree_0 {k : Int64 → MM → Prop} {t : Nat} (CX : CXM p s m args meth c cX4_agree 12 (some .long) "agree" RX4 wsX4_agree D cs A) : ∀ (x1 : Int32) (σ : MM) (H : Heap) (locs : List Loc) (ls : Array Slot), wX4_agree t x1 σ k → PH D cs A σ H → va_S A s.heap H locs → lv_has ls 12 [(0, .ref t), (1, .int x1)] → W p l e (headSpec wsX4_agree rmX4_agree).room s m args below meth c H locs 0 0 (MQ below (va_Ql k (mB D cs A) A) args s 0 0 A) (F0 m 0 ls []) := by
  intro x1 σ H locs ls h hM hS hl
  have ⟨hx, hb, hml, hr, hnm, hown, hts, hlocks, hE⟩ := CX
  unfold wX4_agree at h
  refine lv_lconst (v := 0) hx hb dX4_agree_0 (by decide) ?_
  refine lv_lstore_n (i := 2) (lv' := [(2, .long 0), (0, .ref t), (1, .int x1)]) hx hb dX4_agree_1 rfl hl (by decide) rfl (fun ls hl => ?_)
  refine lv_lconst (v := 0) hx hb dX4_agree_2 (by decide) ?_
  refine lv_lstore (i := 4) (lv' := [(4, .long 0), (2, .long 0), (0, .ref t), (1, .int x1)]) hx hb dX4_agree_3 hl (by decide) rfl (fun ls hl => ?_)
  refine lv_lconst (v := 0) hx hb dX4_agree_5 (by decide) ?_
  refine lv_lstore (i := 6) (lv' := [(6, .long 0), (4, .long 0), (2, .long 0), (0, .ref t), (1, .int x1)]) hx hb dX4_agree_6 hl (by decide) rfl (fun ls hl => ?_)
  refine lv_lconst (v := 0) hx hb dX4_agree_8 (by decide) ?_
  refine lv_lstore (i := 8) (lv' := [(8, .long 0), (6, .long 0), (4, .long 0), (2, .long 0), (0, .ref t), (1, .int x1)]) hx hb dX4_agree_9 hl (by decide) rfl (fun ls hl => ?_)
  refine lv_iconst (v := 0) hx hb dX4_agree_11 (by decide) ?_
  refine lv_istore (i := 10) (lv' := [(10, .int 0), (8, .long 0), (6, .long 0), (4, .long 0), (2, .long 0), (0, .ref t), (1, .int x1)]) hx hb dX4_agree_12 hl (by decide) rfl (fun ls hl => ?_)
  obtain ⟨n0, h⟩ := h
  exact oX4_agree_14 CX  n0 _ _ _ _ _ _ _ _ _ _ h hM hS (lv_sub hl [5, 6, 4, 3, 2, 1, 0] rfl)
end S_X4_agree
set_option maxHeartbeats 4000000 in
set_option maxRecDepth 100000 in
theorem ok_X4_agree (l : Launch) (D : va_G) (cs : CS) (A : Nat → Prop) (t : Nat) (x1 : Int32) (σ : MM) (k : Int64 → MM → Prop) (h : wX4_agree t x1 σ k) : Met l yX4_agree wsX4_agree rmX4_agree (va_Pc [.ref t, .int x1] (mP D cs A σ)) (va_Ql k (mB D cs A) A) 0 0 A := by
  refine Met.ofW (cc := cX4_agree) (maxL := 12) (ret := (some .long)) (by decide) rfl ?_
  intro p e s m args below meth c s₁ B hml hv
  obtain ⟨rfl, hM, hE⟩ := hv
  have CX : CXM p s m _ meth c cX4_agree 12 (some .long) "agree" RX4 wsX4_agree D cs A := ⟨B.exec, B.bytes, hml, B.returns, (name_of_methodNamed B.named B.method).1, findClass_of_methodNamed B.named, atoms_spec (ws := wsX4_agree) B.pre, B.notSynchronized, hE⟩
  have hl := lv_entry ([.ref t, .int x1]) (n := 12) (Nat.le_of_ble_eq_true rfl)
  rw [lg_entry_eq]
  exact oX4_agree_0 CX x1 σ _ _ _ h hM va_S.rf hl
/-! WorkCoderModel.count(I)I -/
abbrev rmX4_count : Room := { frames := 3, cells := 0, slots := 0, locals := 72 }
theorem inX4_count_4 : ∀ w ∈ wsX40, w ∈ wsX4_count := fun _ h => List.mem_cons_of_mem _ (List.mem_append_right _ (h))
section S_X4_count
variable {p : Program} {l : Launch} {e : Env} {s : State} {m : MethodId} {args : Array Value} {below : List Frame} {meth : Method} {c : Code} {D : va_G} {cs : CS} {A : Nat → Prop}
set_option maxHeartbeats 4000000 in
set_option maxRecDepth 100000 in
theorem oX4_count_68 {k : Int32 → MM → Prop} {t : Nat} (CX : CXM p s m args meth c cX4_count 5 (some .int) "count" RX4 wsX4_count D cs A) : ∀ (n : Nat), ∀ (x2 : Int32) (x3 : Int32) (σ : MM) (H : Heap) (locs : List Loc) (ls : Array Slot), wX4_count_68 k t  n x2 x3 σ → PH D cs A σ H → va_S A s.heap H locs → lv_has ls 5 [(0, .ref t), (2, .int x2), (3, .int x3)] → W p l e (headSpec wsX4_count rmX4_count).room s m args below meth c H locs 0 0 (MQ below (va_Qi k (mB D cs A) A) args s 0 0 A) (F0 m 68 ls []) := by
  intro n
  induction n with
  | zero => intro x2 x3 σ H locs ls h; exact h.elim
  | succ n ih =>
    intro x2 x3 σ H locs ls h hM hS hl
    have ⟨hx, hb, hml, hr, hnm, hown, hts, hlocks, hE⟩ := CX
    unfold wX4_count_68 at h
    refine lv_iload_n hx hb dX4_count_68 rfl (lv_at hl 2 rfl) ?_
    refine lv_iconst (v := 2) hx hb dX4_count_69 (by decide) ?_
    refine lv_aload_n hx hb dX4_count_70 rfl (lv_at hl 0 rfl) ?_
    obtain ⟨hk_1, h⟩ := h
    refine gf4_8 hx hb hts inX4_count_4 hown hE.1 hM hk_1 (hts (.fieldLink RX4 116 "WorkCoderModel" "answers" "I") (by decide +kernel)) dX4_count_71 ?_
    refine lv_imul hx hb dX4_count_74 ?_
    refine lv_icmp_ge (tgt := 100) hx hb dX4_count_75 (by decide) (fun hc => ?_) (fun hc => ?_)
    · replace h := h.1 hc
      refine lv_iload_n hx hb dX4_count_100 rfl (lv_at hl 1 rfl) ?_
      exact W.iret (v := x2) hx hb hr (fun t_ ht hW => ⟨⟨_, _, rfl, h, mB_of ht hM⟩, hS.F ht⟩) hS.2.2 dX4_count_101
    · replace h := h.2 hc
      refine lv_iload_n hx hb dX4_count_78 rfl (lv_at hl 1 rfl) ?_
      refine lv_aload_n hx hb dX4_count_79 rfl (lv_at hl 0 rfl) ?_
      refine lv_iload_n hx hb dX4_count_80 rfl (lv_at hl 2 rfl) ?_
      refine clVi (C := RX4) (b := t) (As := [.int x3]) (rest := [.int x2]) ⟨hx, hb, hml, hown, hts⟩ hM hE hS (ok_X4_isItem l D cs A t x3 _ _ h) (cwV 1 hts gX4_count_X4_isItem rfl rfl rfl (by decide +kernel) ⟨(Nat.le_of_ble_eq_true rfl), (Nat.le_of_ble_eq_true rfl)⟩) (rc4 hM hE.1 hk_1) rfl hl.1 rfl (Nat.le_of_ble_eq_true rfl) dX4_count_81 ⟨(Nat.le_of_ble_eq_true rfl), (Nat.le_of_ble_eq_true rfl)⟩ (fun x_3 σ_2 H locs h1 hM hS => ?_)
      replace h := h1
      clear h1
      refine lv_if_eq (tgt := 91) hx hb dX4_count_84 (by decide) (fun hc => ?_) (fun hc => ?_)
      · replace h := h.1 hc
        refine lv_iconst (v := 0) hx hb dX4_count_91 (by decide) ?_
        refine lv_iadd hx hb dX4_count_92 ?_
        refine lv_topi (fun x_4 ex_4 => ?_)
        replace h := h x_4 ex_4
        refine lv_istore_n (i := 2) (lv' := [(2, .int x_4), (0, .ref t), (3, .int x3)]) hx hb dX4_count_93 rfl hl (by decide) rfl (fun ls hl => ?_)
        obtain ⟨x_5, ex_5⟩ : ∃ y : Int32, y = x3 + 1 := ⟨_, rfl⟩
        replace h := h x_5 ex_5
        refine lv_iinc (v := x_5) (lv' := [(3, .int x_5), (2, .int x_4), (0, .ref t)]) hx hb dX4_count_94 hl (k := 2) rfl (by rw [ex_5]; rfl) (by decide) rfl (fun ls hl => ?_)
        refine lv_goto (tgt := 68) hx hb dX4_count_97 (by decide) ?_
        exact ih _ _ _ _ _ _ h hM hS (lv_sub hl [2, 1, 0] rfl)
      · replace h := h.2 hc
        refine lv_iconst (v := 1) hx hb dX4_count_87 (by decide) ?_
        refine lv_goto (tgt := 92) hx hb dX4_count_88 (by decide) ?_
        refine lv_iadd hx hb dX4_count_92 ?_
        refine lv_topi (fun x_6 ex_6 => ?_)
        replace h := h x_6 ex_6
        refine lv_istore_n (i := 2) (lv' := [(2, .int x_6), (0, .ref t), (3, .int x3)]) hx hb dX4_count_93 rfl hl (by decide) rfl (fun ls hl => ?_)
        obtain ⟨x_7, ex_7⟩ : ∃ y : Int32, y = x3 + 1 := ⟨_, rfl⟩
        replace h := h x_7 ex_7
        refine lv_iinc (v := x_7) (lv' := [(3, .int x_7), (2, .int x_6), (0, .ref t)]) hx hb dX4_count_94 hl (k := 2) rfl (by rw [ex_7]; rfl) (by decide) rfl (fun ls hl => ?_)
        refine lv_goto (tgt := 68) hx hb dX4_count_97 (by decide) ?_
        exact ih _ _ _ _ _ _ h hM hS (lv_sub hl [2, 1, 0] rfl)
set_option maxHeartbeats 4000000 in
set_option maxRecDepth 100000 in
theorem oX4_count_109 {k : Int32 → MM → Prop} {t : Nat} (CX : CXM p s m args meth c cX4_count 5 (some .int) "count" RX4 wsX4_count D cs A) : ∀ (n : Nat), ∀ (x1 : Int32) (x2 : Int32) (x3 : Int32) (σ : MM) (H : Heap) (locs : List Loc) (ls : Array Slot), wX4_count_109 k t  n x1 x2 x3 σ → PH D cs A σ H → va_S A s.heap H locs → lv_has ls 5 [(0, .ref t), (1, .int x1), (2, .int x2), (3, .int x3)] → W p l e (headSpec wsX4_count rmX4_count).room s m args below meth c H locs 0 0 (MQ below (va_Qi k (mB D cs A) A) args s 0 0 A) (F0 m 109 ls []) := by
  intro n
  induction n with
  | zero => intro x1 x2 x3 σ H locs ls h; exact h.elim
  | succ n ih =>
    intro x1 x2 x3 σ H locs ls h hM hS hl
    have ⟨hx, hb, hml, hr, hnm, hown, hts, hlocks, hE⟩ := CX
    unfold wX4_count_109 at h
    refine lv_iload_n hx hb dX4_count_109 rfl (lv_at hl 3 rfl) ?_
    refine lv_iconst (v := 2) hx hb dX4_count_110 (by decide) ?_
    refine lv_aload_n hx hb dX4_count_111 rfl (lv_at hl 0 rfl) ?_
    obtain ⟨hk_1, h⟩ := h
    refine gf4_8 hx hb hts inX4_count_4 hown hE.1 hM hk_1 (hts (.fieldLink RX4 116 "WorkCoderModel" "answers" "I") (by decide +kernel)) dX4_count_112 ?_
    refine lv_imul hx hb dX4_count_115 ?_
    refine lv_icmp_ge (tgt := 153) hx hb dX4_count_116 (by decide) (fun hc => ?_) (fun hc => ?_)
    · replace h := h.1 hc
      refine lv_iload_n hx hb dX4_count_153 rfl (lv_at hl 2 rfl) ?_
      exact W.iret (v := x2) hx hb hr (fun t_ ht hW => ⟨⟨_, _, rfl, h, mB_of ht hM⟩, hS.F ht⟩) hS.2.2 dX4_count_154
    · replace h := h.2 hc
      refine lv_iload_n hx hb dX4_count_119 rfl (lv_at hl 2 rfl) ?_
      refine lv_aload_n hx hb dX4_count_120 rfl (lv_at hl 0 rfl) ?_
      refine lv_iload_n hx hb dX4_count_121 rfl (lv_at hl 3 rfl) ?_
      refine clVi (C := RX4) (b := t) (As := [.int x3]) (rest := [.int x2]) ⟨hx, hb, hml, hown, hts⟩ hM hE hS (ok_X4_isItem l D cs A t x3 _ _ h) (cwV 1 hts gX4_count_X4_isItem rfl rfl rfl (by decide +kernel) ⟨(Nat.le_of_ble_eq_true rfl), (Nat.le_of_ble_eq_true rfl)⟩) (rc4 hM hE.1 hk_1) rfl hl.1 rfl (Nat.le_of_ble_eq_true rfl) dX4_count_122 ⟨(Nat.le_of_ble_eq_true rfl), (Nat.le_of_ble_eq_true rfl)⟩ (fun x_3 σ_2 H locs h1 hM hS => ?_)
      replace h := h1
      clear h1
      refine lv_if_eq (tgt := 144) hx hb dX4_count_125 (by decide) (fun hc => ?_) (fun hc => ?_)
      · replace h := h.1 hc
        refine lv_iconst (v := 0) hx hb dX4_count_144 (by decide) ?_
        refine lv_iadd hx hb dX4_count_145 ?_
        refine lv_topi (fun x_4 ex_4 => ?_)
        replace h := h x_4 ex_4
        refine lv_istore_n (i := 2) (lv' := [(2, .int x_4), (0, .ref t), (1, .int x1), (3, .int x3)]) hx hb dX4_count_146 rfl hl (by decide) rfl (fun ls hl => ?_)
        obtain ⟨x_5, ex_5⟩ : ∃ y : Int32, y = x3 + 1 := ⟨_, rfl⟩
        replace h := h x_5 ex_5
        refine lv_iinc (v := x_5) (lv' := [(3, .int x_5), (2, .int x_4), (0, .ref t), (1, .int x1)]) hx hb dX4_count_147 hl (k := 3) rfl (by rw [ex_5]; rfl) (by decide) rfl (fun ls hl => ?_)
        refine lv_goto (tgt := 109) hx hb dX4_count_150 (by decide) ?_
        exact ih _ _ _ _ _ _ _ h hM hS (lv_sub hl [2, 3, 1, 0] rfl)
      · replace h := h.2 hc
        refine lv_aload_n hx hb dX4_count_128 rfl (lv_at hl 0 rfl) ?_
        obtain ⟨hk_6, h⟩ := h
        refine gf4_13 hx hb hts inX4_count_4 hown hE.1 hM hk_6 (hts (.fieldLink RX4 46 "WorkCoderModel" "state" "[I") (by decide +kernel)) dX4_count_129 (fun r_7 er_7 => ?_)
        replace h := h r_7 er_7
        clear er_7
        refine lv_iload_n hx hb dX4_count_132 rfl (lv_at hl 3 rfl) ?_
        obtain ⟨a_8, rfl, h⟩ := h
        obtain ⟨hk_9, h⟩ := h
        obtain ⟨hv_10, h⟩ := h
        refine mm_iald hx hb hE.1 hM hk_9 hv_10 dX4_count_133 ?_
        refine lv_iload_n hx hb dX4_count_134 rfl (lv_at hl 1 rfl) ?_
        refine lv_iconst (v := 4) hx hb dX4_count_135 (by decide) ?_
        refine lv_isub hx hb dX4_count_136 ?_
        refine lv_icmp_ne (tgt := 144) hx hb dX4_count_137 (by decide) (fun hc => ?_) (fun hc => ?_)
        · replace h := h.1 hc
          refine lv_iconst (v := 0) hx hb dX4_count_144 (by decide) ?_
          refine lv_iadd hx hb dX4_count_145 ?_
          refine lv_topi (fun x_11 ex_11 => ?_)
          replace h := h x_11 ex_11
          refine lv_istore_n (i := 2) (lv' := [(2, .int x_11), (0, .ref t), (1, .int x1), (3, .int x3)]) hx hb dX4_count_146 rfl hl (by decide) rfl (fun ls hl => ?_)
          obtain ⟨x_12, ex_12⟩ : ∃ y : Int32, y = x3 + 1 := ⟨_, rfl⟩
          replace h := h x_12 ex_12
          refine lv_iinc (v := x_12) (lv' := [(3, .int x_12), (2, .int x_11), (0, .ref t), (1, .int x1)]) hx hb dX4_count_147 hl (k := 3) rfl (by rw [ex_12]; rfl) (by decide) rfl (fun ls hl => ?_)
          refine lv_goto (tgt := 109) hx hb dX4_count_150 (by decide) ?_
          exact ih _ _ _ _ _ _ _ h hM hS (lv_sub hl [2, 3, 1, 0] rfl)
        · replace h := h.2 hc
          refine lv_iconst (v := 1) hx hb dX4_count_140 (by decide) ?_
          refine lv_goto (tgt := 145) hx hb dX4_count_141 (by decide) ?_
          refine lv_iadd hx hb dX4_count_145 ?_
          refine lv_topi (fun x_13 ex_13 => ?_)
          replace h := h x_13 ex_13
          refine lv_istore_n (i := 2) (lv' := [(2, .int x_13), (0, .ref t), (1, .int x1), (3, .int x3)]) hx hb dX4_count_146 rfl hl (by decide) rfl (fun ls hl => ?_)
          obtain ⟨x_14, ex_14⟩ : ∃ y : Int32, y = x3 + 1 := ⟨_, rfl⟩
          replace h := h x_14 ex_14
          refine lv_iinc (v := x_14) (lv' := [(3, .int x_14), (2, .int x_13), (0, .ref t), (1, .int x1)]) hx hb dX4_count_147 hl (k := 3) rfl (by rw [ex_14]; rfl) (by decide) rfl (fun ls hl => ?_)
          refine lv_goto (tgt := 109) hx hb dX4_count_150 (by decide) ?_
          exact ih _ _ _ _ _ _ _ h hM hS (lv_sub hl [2, 3, 1, 0] rfl)
set_option maxHeartbeats 4000000 in
set_option maxRecDepth 100000 in
theorem oX4_count_170 {k : Int32 → MM → Prop} {t : Nat} {g157 : Int32 → Int32 → MM → Prop} (CX : CXM p s m args meth c cX4_count 5 (some .int) "count" RX4 wsX4_count D cs A) (hg157 : ∀ (x2 : Int32) (x3 : Int32) (σ : MM) (H : Heap) (locs : List Loc) (ls : Array Slot), g157 x2 x3 σ → PH D cs A σ H → va_S A s.heap H locs → lv_has ls 5 [(0, .ref t), (2, .int x2), (3, .int x3)] → W p l e (headSpec wsX4_count rmX4_count).room s m args below meth c H locs 0 0 (MQ below (va_Qi k (mB D cs A) A) args s 0 0 A) (F0 m 157 ls [])) : ∀ (n : Nat), ∀ (x2 : Int32) (x3 : Int32) (x4 : Int32) (σ : MM) (H : Heap) (locs : List Loc) (ls : Array Slot), wX4_count_170 k t g157 n x2 x3 x4 σ → PH D cs A σ H → va_S A s.heap H locs → lv_has ls 5 [(0, .ref t), (2, .int x2), (3, .int x3), (4, .int x4)] → W p l e (headSpec wsX4_count rmX4_count).room s m args below meth c H locs 0 0 (MQ below (va_Qi k (mB D cs A) A) args s 0 0 A) (F0 m 170 ls []) := by
  intro n
  induction n with
  | zero => intro x2 x3 x4 σ H locs ls h; exact h.elim
  | succ n ih =>
    intro x2 x3 x4 σ H locs ls h hM hS hl
    have ⟨hx, hb, hml, hr, hnm, hown, hts, hlocks, hE⟩ := CX
    unfold wX4_count_170 at h
    refine lv_iload hx hb dX4_count_170 (lv_at hl 3 rfl) ?_
    refine lv_aload_n hx hb dX4_count_172 rfl (lv_at hl 0 rfl) ?_
    obtain ⟨hk_1, h⟩ := h
    refine gf4_18 hx hb hts inX4_count_4 hown hE.1 hM hk_1 (hts (.fieldLink RX4 142 "WorkCoderModel" "rules" "I") (by decide +kernel)) dX4_count_173 ?_
    refine lv_icmp_ge (tgt := 203) hx hb dX4_count_176 (by decide) (fun hc => ?_) (fun hc => ?_)
    · replace h := h.1 hc
      obtain ⟨x_2, ex_2⟩ : ∃ y : Int32, y = x3 + 1 := ⟨_, rfl⟩
      replace h := h x_2 ex_2
      refine lv_iinc (v := x_2) (lv' := [(3, .int x_2), (0, .ref t), (2, .int x2), (4, .int x4)]) hx hb dX4_count_203 hl (k := 2) rfl (by rw [ex_2]; rfl) (by decide) rfl (fun ls hl => ?_)
      refine lv_goto (tgt := 157) hx hb dX4_count_206 (by decide) ?_
      exact hg157 _ _ _ _ _ _ h hM hS (lv_sub hl [1, 2, 0] rfl)
    · replace h := h.2 hc
      refine lv_iload_n hx hb dX4_count_179 rfl (lv_at hl 1 rfl) ?_
      refine lv_aload_n hx hb dX4_count_180 rfl (lv_at hl 0 rfl) ?_
      refine lv_iload_n hx hb dX4_count_181 rfl (lv_at hl 2 rfl) ?_
      refine lv_iload hx hb dX4_count_182 (lv_at hl 3 rfl) ?_
      refine clVi (C := RX4) (b := t) (As := [.int x3, .int x4]) (rest := [.int x2]) ⟨hx, hb, hml, hown, hts⟩ hM hE hS (ok_X4_quarrels l D cs A t x3 x4 _ _ h) (cwV 2 hts gX4_count_X4_quarrels rfl rfl rfl (by decide +kernel) ⟨(Nat.le_of_ble_eq_true rfl), (Nat.le_of_ble_eq_true rfl)⟩) (rc4 hM hE.1 hk_1) rfl hl.1 rfl (Nat.le_of_ble_eq_true rfl) dX4_count_184 ⟨(Nat.le_of_ble_eq_true rfl), (Nat.le_of_ble_eq_true rfl)⟩ (fun x_4 σ_3 H locs h1 hM hS => ?_)
      replace h := h1
      clear h1
      refine lv_if_eq (tgt := 194) hx hb dX4_count_187 (by decide) (fun hc => ?_) (fun hc => ?_)
      · replace h := h.1 hc
        refine lv_iconst (v := 0) hx hb dX4_count_194 (by decide) ?_
        refine lv_iadd hx hb dX4_count_195 ?_
        refine lv_topi (fun x_5 ex_5 => ?_)
        replace h := h x_5 ex_5
        refine lv_istore_n (i := 2) (lv' := [(2, .int x_5), (0, .ref t), (3, .int x3), (4, .int x4)]) hx hb dX4_count_196 rfl hl (by decide) rfl (fun ls hl => ?_)
        obtain ⟨x_6, ex_6⟩ : ∃ y : Int32, y = x4 + 1 := ⟨_, rfl⟩
        replace h := h x_6 ex_6
        refine lv_iinc (v := x_6) (lv' := [(4, .int x_6), (2, .int x_5), (0, .ref t), (3, .int x3)]) hx hb dX4_count_197 hl (k := 3) rfl (by rw [ex_6]; rfl) (by decide) rfl (fun ls hl => ?_)
        refine lv_goto (tgt := 170) hx hb dX4_count_200 (by decide) ?_
        exact ih _ _ _ _ _ _ _ h hM hS (lv_sub hl [2, 1, 3, 0] rfl)
      · replace h := h.2 hc
        refine lv_iconst (v := 1) hx hb dX4_count_190 (by decide) ?_
        refine lv_goto (tgt := 195) hx hb dX4_count_191 (by decide) ?_
        refine lv_iadd hx hb dX4_count_195 ?_
        refine lv_topi (fun x_7 ex_7 => ?_)
        replace h := h x_7 ex_7
        refine lv_istore_n (i := 2) (lv' := [(2, .int x_7), (0, .ref t), (3, .int x3), (4, .int x4)]) hx hb dX4_count_196 rfl hl (by decide) rfl (fun ls hl => ?_)
        obtain ⟨x_8, ex_8⟩ : ∃ y : Int32, y = x4 + 1 := ⟨_, rfl⟩
        replace h := h x_8 ex_8
        refine lv_iinc (v := x_8) (lv' := [(4, .int x_8), (2, .int x_7), (0, .ref t), (3, .int x3)]) hx hb dX4_count_197 hl (k := 3) rfl (by rw [ex_8]; rfl) (by decide) rfl (fun ls hl => ?_)
        refine lv_goto (tgt := 170) hx hb dX4_count_200 (by decide) ?_
        exact ih _ _ _ _ _ _ _ h hM hS (lv_sub hl [2, 1, 3, 0] rfl)
set_option maxHeartbeats 4000000 in
set_option maxRecDepth 100000 in
theorem oX4_count_157 {k : Int32 → MM → Prop} {t : Nat} (CX : CXM p s m args meth c cX4_count 5 (some .int) "count" RX4 wsX4_count D cs A) : ∀ (n : Nat), ∀ (x2 : Int32) (x3 : Int32) (σ : MM) (H : Heap) (locs : List Loc) (ls : Array Slot), wX4_count_157 k t  n x2 x3 σ → PH D cs A σ H → va_S A s.heap H locs → lv_has ls 5 [(0, .ref t), (2, .int x2), (3, .int x3)] → W p l e (headSpec wsX4_count rmX4_count).room s m args below meth c H locs 0 0 (MQ below (va_Qi k (mB D cs A) A) args s 0 0 A) (F0 m 157 ls []) := by
  intro n
  induction n with
  | zero => intro x2 x3 σ H locs ls h; exact h.elim
  | succ n ih =>
    intro x2 x3 σ H locs ls h hM hS hl
    have ⟨hx, hb, hml, hr, hnm, hown, hts, hlocks, hE⟩ := CX
    unfold wX4_count_157 at h
    refine lv_iload_n hx hb dX4_count_157 rfl (lv_at hl 2 rfl) ?_
    refine lv_aload_n hx hb dX4_count_158 rfl (lv_at hl 0 rfl) ?_
    obtain ⟨hk_1, h⟩ := h
    refine gf4_18 hx hb hts inX4_count_4 hown hE.1 hM hk_1 (hts (.fieldLink RX4 142 "WorkCoderModel" "rules" "I") (by decide +kernel)) dX4_count_159 ?_
    refine lv_icmp_ge (tgt := 209) hx hb dX4_count_162 (by decide) (fun hc => ?_) (fun hc => ?_)
    · replace h := h.1 hc
      refine lv_iload_n hx hb dX4_count_209 rfl (lv_at hl 1 rfl) ?_
      exact W.iret (v := x2) hx hb hr (fun t_ ht hW => ⟨⟨_, _, rfl, h, mB_of ht hM⟩, hS.F ht⟩) hS.2.2 dX4_count_210
    · replace h := h.2 hc
      refine lv_iload_n hx hb dX4_count_165 rfl (lv_at hl 2 rfl) ?_
      refine lv_iconst (v := 1) hx hb dX4_count_166 (by decide) ?_
      refine lv_iadd hx hb dX4_count_167 ?_
      refine lv_topi (fun x_2 ex_2 => ?_)
      replace h := h x_2 ex_2
      refine lv_istore (i := 4) (lv' := [(4, .int x_2), (0, .ref t), (2, .int x2), (3, .int x3)]) hx hb dX4_count_168 hl (by decide) rfl (fun ls hl => ?_)
      obtain ⟨n0, h⟩ := h
      exact oX4_count_170 CX ih n0 _ _ _ _ _ _ _ h hM hS (lv_sub hl [1, 2, 3, 0] rfl)
set_option maxHeartbeats 4000000 in
set_option maxRecDepth 100000 in
theorem oX4_count_213 {k : Int32 → MM → Prop} {t : Nat} (CX : CXM p s m args meth c cX4_count 5 (some .int) "count" RX4 wsX4_count D cs A) : ∀ (n : Nat), ∀ (x2 : Int32) (x3 : Int32) (σ : MM) (H : Heap) (locs : List Loc) (ls : Array Slot), wX4_count_213 k t  n x2 x3 σ → PH D cs A σ H → va_S A s.heap H locs → lv_has ls 5 [(0, .ref t), (2, .int x2), (3, .int x3)] → W p l e (headSpec wsX4_count rmX4_count).room s m args below meth c H locs 0 0 (MQ below (va_Qi k (mB D cs A) A) args s 0 0 A) (F0 m 213 ls []) := by
  intro n
  induction n with
  | zero => intro x2 x3 σ H locs ls h; exact h.elim
  | succ n ih =>
    intro x2 x3 σ H locs ls h hM hS hl
    have ⟨hx, hb, hml, hr, hnm, hown, hts, hlocks, hE⟩ := CX
    unfold wX4_count_213 at h
    refine lv_iload_n hx hb dX4_count_213 rfl (lv_at hl 2 rfl) ?_
    refine lv_iconst (v := 2) hx hb dX4_count_214 (by decide) ?_
    refine lv_aload_n hx hb dX4_count_215 rfl (lv_at hl 0 rfl) ?_
    obtain ⟨hk_1, h⟩ := h
    refine gf4_8 hx hb hts inX4_count_4 hown hE.1 hM hk_1 (hts (.fieldLink RX4 116 "WorkCoderModel" "answers" "I") (by decide +kernel)) dX4_count_216 ?_
    refine lv_imul hx hb dX4_count_219 ?_
    refine lv_icmp_ge (tgt := 253) hx hb dX4_count_220 (by decide) (fun hc => ?_) (fun hc => ?_)
    · replace h := h.1 hc
      refine lv_iload_n hx hb dX4_count_253 rfl (lv_at hl 1 rfl) ?_
      exact W.iret (v := x2) hx hb hr (fun t_ ht hW => ⟨⟨_, _, rfl, h, mB_of ht hM⟩, hS.F ht⟩) hS.2.2 dX4_count_254
    · replace h := h.2 hc
      refine lv_iload_n hx hb dX4_count_223 rfl (lv_at hl 1 rfl) ?_
      refine lv_aload_n hx hb dX4_count_224 rfl (lv_at hl 0 rfl) ?_
      refine lv_iload_n hx hb dX4_count_225 rfl (lv_at hl 2 rfl) ?_
      refine clVi (C := RX4) (b := t) (As := [.int x3]) (rest := [.int x2]) ⟨hx, hb, hml, hown, hts⟩ hM hE hS (ok_X4_isItem l D cs A t x3 _ _ h) (cwV 1 hts gX4_count_X4_isItem rfl rfl rfl (by decide +kernel) ⟨(Nat.le_of_ble_eq_true rfl), (Nat.le_of_ble_eq_true rfl)⟩) (rc4 hM hE.1 hk_1) rfl hl.1 rfl (Nat.le_of_ble_eq_true rfl) dX4_count_226 ⟨(Nat.le_of_ble_eq_true rfl), (Nat.le_of_ble_eq_true rfl)⟩ (fun x_3 σ_2 H locs h1 hM hS => ?_)
      replace h := h1
      clear h1
      refine lv_if_eq (tgt := 244) hx hb dX4_count_229 (by decide) (fun hc => ?_) (fun hc => ?_)
      · replace h := h.1 hc
        refine lv_iconst (v := 0) hx hb dX4_count_244 (by decide) ?_
        refine lv_iadd hx hb dX4_count_245 ?_
        refine lv_topi (fun x_4 ex_4 => ?_)
        replace h := h x_4 ex_4
        refine lv_istore_n (i := 2) (lv' := [(2, .int x_4), (0, .ref t), (3, .int x3)]) hx hb dX4_count_246 rfl hl (by decide) rfl (fun ls hl => ?_)
        obtain ⟨x_5, ex_5⟩ : ∃ y : Int32, y = x3 + 1 := ⟨_, rfl⟩
        replace h := h x_5 ex_5
        refine lv_iinc (v := x_5) (lv' := [(3, .int x_5), (2, .int x_4), (0, .ref t)]) hx hb dX4_count_247 hl (k := 2) rfl (by rw [ex_5]; rfl) (by decide) rfl (fun ls hl => ?_)
        refine lv_goto (tgt := 213) hx hb dX4_count_250 (by decide) ?_
        exact ih _ _ _ _ _ _ h hM hS (lv_sub hl [2, 1, 0] rfl)
      · replace h := h.2 hc
        refine lv_aload_n hx hb dX4_count_232 rfl (lv_at hl 0 rfl) ?_
        refine lv_iload_n hx hb dX4_count_233 rfl (lv_at hl 2 rfl) ?_
        obtain ⟨hk_6, h⟩ := h
        refine clVi (C := RX4) (b := t) (As := [.int x3]) (rest := [.int x2]) ⟨hx, hb, hml, hown, hts⟩ hM hE hS (ok_X4_isStale l D cs A t x3 _ _ h) (cwV 1 hts gX4_count_X4_isStale rfl rfl rfl (by decide +kernel) ⟨(Nat.le_of_ble_eq_true rfl), (Nat.le_of_ble_eq_true rfl)⟩) (rc4 hM hE.1 hk_6) rfl hl.1 rfl (Nat.le_of_ble_eq_true rfl) dX4_count_234 ⟨(Nat.le_of_ble_eq_true rfl), (Nat.le_of_ble_eq_true rfl)⟩ (fun x_8 σ_7 H locs h1 hM hS => ?_)
        replace h := h1
        clear h1
        refine lv_if_eq (tgt := 244) hx hb dX4_count_237 (by decide) (fun hc => ?_) (fun hc => ?_)
        · replace h := h.1 hc
          refine lv_iconst (v := 0) hx hb dX4_count_244 (by decide) ?_
          refine lv_iadd hx hb dX4_count_245 ?_
          refine lv_topi (fun x_9 ex_9 => ?_)
          replace h := h x_9 ex_9
          refine lv_istore_n (i := 2) (lv' := [(2, .int x_9), (0, .ref t), (3, .int x3)]) hx hb dX4_count_246 rfl hl (by decide) rfl (fun ls hl => ?_)
          obtain ⟨x_10, ex_10⟩ : ∃ y : Int32, y = x3 + 1 := ⟨_, rfl⟩
          replace h := h x_10 ex_10
          refine lv_iinc (v := x_10) (lv' := [(3, .int x_10), (2, .int x_9), (0, .ref t)]) hx hb dX4_count_247 hl (k := 2) rfl (by rw [ex_10]; rfl) (by decide) rfl (fun ls hl => ?_)
          refine lv_goto (tgt := 213) hx hb dX4_count_250 (by decide) ?_
          exact ih _ _ _ _ _ _ h hM hS (lv_sub hl [2, 1, 0] rfl)
        · replace h := h.2 hc
          refine lv_iconst (v := 1) hx hb dX4_count_240 (by decide) ?_
          refine lv_goto (tgt := 245) hx hb dX4_count_241 (by decide) ?_
          refine lv_iadd hx hb dX4_count_245 ?_
          refine lv_topi (fun x_11 ex_11 => ?_)
          replace h := h x_11 ex_11
          refine lv_istore_n (i := 2) (lv' := [(2, .int x_11), (0, .ref t), (3, .int x3)]) hx hb dX4_count_246 rfl hl (by decide) rfl (fun ls hl => ?_)
          obtain ⟨x_12, ex_12⟩ : ∃ y : Int32, y = x3 + 1 := ⟨_, rfl⟩
          replace h := h x_12 ex_12
          refine lv_iinc (v := x_12) (lv' := [(3, .int x_12), (2, .int x_11), (0, .ref t)]) hx hb dX4_count_247 hl (k := 2) rfl (by rw [ex_12]; rfl) (by decide) rfl (fun ls hl => ?_)
          refine lv_goto (tgt := 213) hx hb dX4_count_250 (by decide) ?_
          exact ih _ _ _ _ _ _ h hM hS (lv_sub hl [2, 1, 0] rfl)
set_option maxHeartbeats 4000000 in
set_option maxRecDepth 100000 in
theorem oX4_count_0 {k : Int32 → MM → Prop} {t : Nat} (CX : CXM p s m args meth c cX4_count 5 (some .int) "count" RX4 wsX4_count D cs A) : ∀ (x1 : Int32) (σ : MM) (H : Heap) (locs : List Loc) (ls : Array Slot), wX4_count t x1 σ k → PH D cs A σ H → va_S A s.heap H locs → lv_has ls 5 [(0, .ref t), (1, .int x1)] → W p l e (headSpec wsX4_count rmX4_count).room s m args below meth c H locs 0 0 (MQ below (va_Qi k (mB D cs A) A) args s 0 0 A) (F0 m 0 ls []) := by
  intro x1 σ H locs ls h hM hS hl
  have ⟨hx, hb, hml, hr, hnm, hown, hts, hlocks, hE⟩ := CX
  unfold wX4_count at h
  refine lv_iconst (v := 0) hx hb dX4_count_0 (by decide) ?_
  refine lv_istore_n (i := 2) (lv' := [(2, .int 0), (0, .ref t), (1, .int x1)]) hx hb dX4_count_1 rfl hl (by decide) rfl (fun ls hl => ?_)
  refine lv_iload_n hx hb dX4_count_2 rfl (lv_at hl 2 rfl) ?_
  rcases sw_9 x1 with hc | hc | hc | hc | hc | hc | hc | hc | hc | hc | hc
  · replace h := h.1 hc
    refine lv_tableOut (tgt := 260) hx hb dX4_count_3 hc (by decide) ?_
    refine lv_iconst (v := (-1)) hx hb dX4_count_260 (by decide) ?_
    exact W.iret (v := (-1)) hx hb hr (fun t_ ht hW => ⟨⟨_, _, rfl, h, mB_of ht hM⟩, hS.F ht⟩) hS.2.2 dX4_count_261
  · replace h := h.2.1 hc
    refine lv_tableIn (tgt := 56) (off := 53) hx hb dX4_count_3 (by rw [hc]; decide) (by rw [hc]; decide) (by rw [hc]; rfl) (by decide) ?_
    refine lv_aload_n hx hb dX4_count_56 rfl (lv_at hl 1 rfl) ?_
    obtain ⟨hk_1, h⟩ := h
    refine gf4_2 hx hb hts inX4_count_4 hown hE.1 hM hk_1 (hts (.fieldLink RX4 98 "WorkCoderModel" "codes" "I") (by decide +kernel)) dX4_count_57 ?_
    exact W.iret (v := mI σ t 2) hx hb hr (fun t_ ht hW => ⟨⟨_, _, rfl, h, mB_of ht hM⟩, hS.F ht⟩) hS.2.2 dX4_count_60
  · replace h := h.2.2.1 hc
    refine lv_tableIn (tgt := 61) (off := 58) hx hb dX4_count_3 (by rw [hc]; decide) (by rw [hc]; decide) (by rw [hc]; rfl) (by decide) ?_
    refine lv_aload_n hx hb dX4_count_61 rfl (lv_at hl 1 rfl) ?_
    obtain ⟨hk_2, h⟩ := h
    refine gf4_8 hx hb hts inX4_count_4 hown hE.1 hM hk_2 (hts (.fieldLink RX4 116 "WorkCoderModel" "answers" "I") (by decide +kernel)) dX4_count_62 ?_
    exact W.iret (v := mI σ t 8) hx hb hr (fun t_ ht hW => ⟨⟨_, _, rfl, h, mB_of ht hM⟩, hS.F ht⟩) hS.2.2 dX4_count_65
  · replace h := h.2.2.2.1 hc
    refine lv_tableIn (tgt := 66) (off := 63) hx hb dX4_count_3 (by rw [hc]; decide) (by rw [hc]; decide) (by rw [hc]; rfl) (by decide) ?_
    refine lv_iconst (v := 0) hx hb dX4_count_66 (by decide) ?_
    refine lv_istore_n (i := 3) (lv' := [(3, .int 0), (2, .int 0), (0, .ref t), (1, .int x1)]) hx hb dX4_count_67 rfl hl (by decide) rfl (fun ls hl => ?_)
    obtain ⟨n0, h⟩ := h
    exact oX4_count_68 CX  n0 _ _ _ _ _ _ h hM hS (lv_sub hl [2, 1, 0] rfl)
  · replace h := h.2.2.2.2.1 hc
    refine lv_tableIn (tgt := 102) (off := 99) hx hb dX4_count_3 (by rw [hc]; decide) (by rw [hc]; decide) (by rw [hc]; rfl) (by decide) ?_
    refine lv_aload_n hx hb dX4_count_102 rfl (lv_at hl 1 rfl) ?_
    obtain ⟨hk_3, h⟩ := h
    refine gf4_18 hx hb hts inX4_count_4 hown hE.1 hM hk_3 (hts (.fieldLink RX4 142 "WorkCoderModel" "rules" "I") (by decide +kernel)) dX4_count_103 ?_
    exact W.iret (v := mI σ t 18) hx hb hr (fun t_ ht hW => ⟨⟨_, _, rfl, h, mB_of ht hM⟩, hS.F ht⟩) hS.2.2 dX4_count_106
  · replace h := h.2.2.2.2.2.1 hc
    refine lv_tableIn (tgt := 107) (off := 104) hx hb dX4_count_3 (by rw [hc]; decide) (by rw [hc]; decide) (by rw [hc]; rfl) (by decide) ?_
    refine lv_iconst (v := 0) hx hb dX4_count_107 (by decide) ?_
    refine lv_istore_n (i := 3) (lv' := [(3, .int 0), (2, .int 0), (0, .ref t), (1, .int x1)]) hx hb dX4_count_108 rfl hl (by decide) rfl (fun ls hl => ?_)
    obtain ⟨n0, h⟩ := h
    exact oX4_count_109 CX  n0 _ _ _ _ _ _ _ h hM hS (lv_sub hl [2, 3, 1, 0] rfl)
  · replace h := h.2.2.2.2.2.2.1 hc
    refine lv_tableIn (tgt := 107) (off := 104) hx hb dX4_count_3 (by rw [hc]; decide) (by rw [hc]; decide) (by rw [hc]; rfl) (by decide) ?_
    refine lv_iconst (v := 0) hx hb dX4_count_107 (by decide) ?_
    refine lv_istore_n (i := 3) (lv' := [(3, .int 0), (2, .int 0), (0, .ref t), (1, .int x1)]) hx hb dX4_count_108 rfl hl (by decide) rfl (fun ls hl => ?_)
    obtain ⟨n0, h⟩ := h
    exact oX4_count_109 CX  n0 _ _ _ _ _ _ _ h hM hS (lv_sub hl [2, 3, 1, 0] rfl)
  · replace h := h.2.2.2.2.2.2.2.1 hc
    refine lv_tableIn (tgt := 107) (off := 104) hx hb dX4_count_3 (by rw [hc]; decide) (by rw [hc]; decide) (by rw [hc]; rfl) (by decide) ?_
    refine lv_iconst (v := 0) hx hb dX4_count_107 (by decide) ?_
    refine lv_istore_n (i := 3) (lv' := [(3, .int 0), (2, .int 0), (0, .ref t), (1, .int x1)]) hx hb dX4_count_108 rfl hl (by decide) rfl (fun ls hl => ?_)
    obtain ⟨n0, h⟩ := h
    exact oX4_count_109 CX  n0 _ _ _ _ _ _ _ h hM hS (lv_sub hl [2, 3, 1, 0] rfl)
  · replace h := h.2.2.2.2.2.2.2.2.1 hc
    refine lv_tableIn (tgt := 155) (off := 152) hx hb dX4_count_3 (by rw [hc]; decide) (by rw [hc]; decide) (by rw [hc]; rfl) (by decide) ?_
    refine lv_iconst (v := 0) hx hb dX4_count_155 (by decide) ?_
    refine lv_istore_n (i := 3) (lv' := [(3, .int 0), (2, .int 0), (0, .ref t), (1, .int x1)]) hx hb dX4_count_156 rfl hl (by decide) rfl (fun ls hl => ?_)
    obtain ⟨n0, h⟩ := h
    exact oX4_count_157 CX  n0 _ _ _ _ _ _ h hM hS (lv_sub hl [2, 1, 0] rfl)
  · replace h := h.2.2.2.2.2.2.2.2.2.1 hc
    refine lv_tableIn (tgt := 211) (off := 208) hx hb dX4_count_3 (by rw [hc]; decide) (by rw [hc]; decide) (by rw [hc]; rfl) (by decide) ?_
    refine lv_iconst (v := 0) hx hb dX4_count_211 (by decide) ?_
    refine lv_istore_n (i := 3) (lv' := [(3, .int 0), (2, .int 0), (0, .ref t), (1, .int x1)]) hx hb dX4_count_212 rfl hl (by decide) rfl (fun ls hl => ?_)
    obtain ⟨n0, h⟩ := h
    exact oX4_count_213 CX  n0 _ _ _ _ _ _ h hM hS (lv_sub hl [2, 1, 0] rfl)
  · replace h := h.2.2.2.2.2.2.2.2.2.2 hc
    refine lv_tableIn (tgt := 255) (off := 252) hx hb dX4_count_3 (by rw [hc]; decide) (by rw [hc]; decide) (by rw [hc]; rfl) (by decide) ?_
    refine lv_aload_n hx hb dX4_count_255 rfl (lv_at hl 1 rfl) ?_
    obtain ⟨hk_4, h⟩ := h
    refine gf4_5 hx hb hts inX4_count_4 hown hE.1 hM hk_4 (hts (.fieldLink RX4 101 "WorkCoderModel" "others" "I") (by decide +kernel)) dX4_count_256 ?_
    exact W.iret (v := mI σ t 5) hx hb hr (fun t_ ht hW => ⟨⟨_, _, rfl, h, mB_of ht hM⟩, hS.F ht⟩) hS.2.2 dX4_count_259
end S_X4_count
set_option maxHeartbeats 4000000 in
set_option maxRecDepth 100000 in
theorem ok_X4_count (l : Launch) (D : va_G) (cs : CS) (A : Nat → Prop) (t : Nat) (x1 : Int32) (σ : MM) (k : Int32 → MM → Prop) (h : wX4_count t x1 σ k) : Met l yX4_count wsX4_count rmX4_count (va_Pc [.ref t, .int x1] (mP D cs A σ)) (va_Qi k (mB D cs A) A) 0 0 A := by
  refine Met.ofW (cc := cX4_count) (maxL := 5) (ret := (some .int)) (by decide) rfl ?_
  intro p e s m args below meth c s₁ B hml hv
  obtain ⟨rfl, hM, hE⟩ := hv
  have CX : CXM p s m _ meth c cX4_count 5 (some .int) "count" RX4 wsX4_count D cs A := ⟨B.exec, B.bytes, hml, B.returns, (name_of_methodNamed B.named B.method).1, findClass_of_methodNamed B.named, atoms_spec (ws := wsX4_count) B.pre, B.notSynchronized, hE⟩
  have hl := lv_entry ([.ref t, .int x1]) (n := 5) (Nat.le_of_ble_eq_true rfl)
  rw [lg_entry_eq]
  exact oX4_count_0 CX x1 σ _ _ _ h hM va_S.rf hl
