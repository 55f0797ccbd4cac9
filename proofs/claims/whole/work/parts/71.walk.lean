/-! WorkCoderModel.put(II)I -/
abbrev rmX4_put : Room := { frames := 2, cells := 0, slots := 0, locals := 43 }
theorem inX4_put_4 : ∀ w ∈ wsX40, w ∈ wsX4_put := fun _ h => List.mem_cons_of_mem _ (List.mem_append_right _ (h))
section S_X4_put
variable {p : Program} {l : Launch} {e : Env} {s : State} {m : MethodId} {args : Array Value} {below : List Frame} {meth : Method} {c : Code} {D : va_G} {cs : CS} {A : Nat → Prop}
set_option maxHeartbeats 4000000 in
set_option maxRecDepth 100000 in
theorem oX4_put_0 {k : Int32 → MM → Prop} {t : Nat} (CX : CXM p s m args meth c cX4_put 3 (some .int) "put" RX4 wsX4_put D cs A) : ∀ (x1 : Int32) (x2 : Int32) (σ : MM) (H : Heap) (locs : List Loc) (ls : Array Slot), wX4_put t x1 x2 σ k → PH D cs A σ H → va_S A s.heap H locs → lv_has ls 3 [(0, .ref t), (1, .int x1), (2, .int x2)] → W p l e (headSpec wsX4_put rmX4_put).room s m args below meth c H locs 0 0 (MQ below (va_Qi k (mB D cs A) A) args s 0 0 A) (F0 m 0 ls []) := by
  intro x1 x2 σ H locs ls h hM hS hl
  have ⟨hx, hb, hml, hr, hnm, hown, hts, hlocks, hE⟩ := CX
  unfold wX4_put at h
  refine lv_aload_n hx hb dX4_put_0 rfl (lv_at hl 0 rfl) ?_
  refine lv_iload_n hx hb dX4_put_1 rfl (lv_at hl 1 rfl) ?_
  obtain ⟨hk_1, h⟩ := h
  refine clVi (C := RX4) (b := t) (As := [.int x1]) (rest := []) ⟨hx, hb, hml, hown, hts⟩ hM hE hS (ok_X4_isItem l D cs A t x1 _ _ h) (cwV 1 hts gX4_put_X4_isItem rfl rfl rfl (by decide +kernel) ⟨(Nat.le_of_ble_eq_true rfl), (Nat.le_of_ble_eq_true rfl)⟩) (rc4 hM hE.1 hk_1) rfl hl.1 rfl (Nat.le_of_ble_eq_true rfl) dX4_put_2 ⟨(Nat.le_of_ble_eq_true rfl), (Nat.le_of_ble_eq_true rfl)⟩ (fun x_3 σ_2 H locs h1 hM hS => ?_)
  replace h := h1
  clear h1
  refine lv_if_eq (tgt := 15) hx hb dX4_put_5 (by decide) (fun hc => ?_) (fun hc => ?_)
  · replace h := h.1 hc
    refine lv_iconst (v := (-1)) hx hb dX4_put_15 (by decide) ?_
    exact W.iret (v := (-1)) hx hb hr (fun t_ ht hW => ⟨⟨_, _, rfl, h, mB_of ht hM⟩, hS.F ht⟩) hS.2.2 dX4_put_16
  · replace h := h.2 hc
    refine lv_iload_n hx hb dX4_put_8 rfl (lv_at hl 2 rfl) ?_
    refine clSi (As := [.int x2]) (rest := []) ⟨hx, hb, hml, hown, hts⟩ hM hE hS (ok_X4_isWord l D cs A x2 _ _ h) (va_cwS 1 hts gX4_put_X4_isWord rfl rfl rfl (by decide +kernel) ⟨(Nat.le_of_ble_eq_true rfl), (Nat.le_of_ble_eq_true rfl)⟩) rfl hl.1 rfl (Nat.le_of_ble_eq_true rfl) dX4_put_9 ⟨(Nat.le_of_ble_eq_true rfl), (Nat.le_of_ble_eq_true rfl)⟩ (fun x_5 σ_4 H locs h1 hM hS => ?_)
    replace h := h1
    clear h1
    refine lv_if_ne (tgt := 17) hx hb dX4_put_12 (by decide) (fun hc => ?_) (fun hc => ?_)
    · replace h := h.1 hc
      refine lv_aload_n hx hb dX4_put_17 rfl (lv_at hl 0 rfl) ?_
      obtain ⟨hk_6, h⟩ := h
      refine gf4_13 hx hb hts inX4_put_4 hown hE.1 hM hk_6 (hts (.fieldLink RX4 46 "WorkCoderModel" "state" "[I") (by decide +kernel)) dX4_put_18 (fun r_7 er_7 => ?_)
      replace h := h r_7 er_7
      clear er_7
      refine lv_iload_n hx hb dX4_put_21 rfl (lv_at hl 1 rfl) ?_
      obtain ⟨a_8, rfl, h⟩ := h
      obtain ⟨hk_9, h⟩ := h
      obtain ⟨hv_10, h⟩ := h
      refine mm_iald hx hb hE.1 hM hk_9 hv_10 dX4_put_22 ?_
      refine lv_if_ne (tgt := 41) hx hb dX4_put_23 (by decide) (fun hc => ?_) (fun hc => ?_)
      · replace h := h.1 hc
        refine lv_bipush (v := (-2)) hx hb dX4_put_41 (by decide) ?_
        exact W.iret (v := (-2)) hx hb hr (fun t_ ht hW => ⟨⟨_, _, rfl, h, mB_of ht hM⟩, hS.F ht⟩) hS.2.2 dX4_put_43
      · replace h := h.2 hc
        refine lv_aload_n hx hb dX4_put_26 rfl (lv_at hl 0 rfl) ?_
        refine gf4_12 hx hb hts inX4_put_4 hown hE.1 hM hk_6 (hts (.fieldLink RX4 43 "WorkCoderModel" "words" "[J") (by decide +kernel)) dX4_put_27 (fun r_11 er_11 => ?_)
        replace h := h r_11 er_11
        clear er_11
        refine lv_iload_n hx hb dX4_put_30 rfl (lv_at hl 1 rfl) ?_
        obtain ⟨a_12, rfl, h⟩ := h
        obtain ⟨hk_13, h⟩ := h
        obtain ⟨hv_14, h⟩ := h
        refine mm_lald hx hb hE.1 hM hk_13 hv_14 dX4_put_31 ?_
        refine lv_iload_n hx hb dX4_put_32 rfl (lv_at hl 2 rfl) ?_
        refine lv_lshr hx hb dX4_put_33 (v := lShr (mL σ_4 a_12 (ix x1)) x2) rfl ?_
        refine lv_lconst (v := 1) hx hb dX4_put_34 (by decide) ?_
        refine lv_land hx hb dX4_put_35 ?_
        refine lv_lconst (v := 1) hx hb dX4_put_36 (by decide) ?_
        refine lc_ne (tgt := 44) hx hb dX4_put_37 dX4_put_38 (by decide) (fun hc => ?_) (fun hc => ?_)
        · replace h := h.1 hc
          refine lv_aload_n hx hb dX4_put_44 rfl (lv_at hl 0 rfl) ?_
          refine gf4_12 hx hb hts inX4_put_4 hown hE.1 hM hk_6 (hts (.fieldLink RX4 43 "WorkCoderModel" "words" "[J") (by decide +kernel)) dX4_put_45 (fun r_15 er_15 => ?_)
          replace h := h r_15 er_15
          clear er_15
          refine lv_iload_n hx hb dX4_put_48 rfl (lv_at hl 1 rfl) ?_
          refine lv_dup2_11 hx hb dX4_put_49 rfl (nl_cat _) ?_
          obtain ⟨a_16, rfl, h⟩ := h
          obtain ⟨hk_17, h⟩ := h
          obtain ⟨hv_18, h⟩ := h
          refine mm_lald hx hb hE.1 hM hk_17 hv_18 dX4_put_50 ?_
          refine lv_lconst (v := 1) hx hb dX4_put_51 (by decide) ?_
          refine lv_iload_n hx hb dX4_put_52 rfl (lv_at hl 2 rfl) ?_
          refine lv_lshl hx hb dX4_put_53 (v := lShl (1 : Int64) x2) rfl ?_
          refine lv_lor hx hb dX4_put_54 ?_
          obtain ⟨hv_19, h⟩ := h
          refine mm_last hx hb hE.1 hM hS hk_17 hv_19 dX4_put_55 (fun H locs hM hS => ?_)
          replace h := h _ rfl
          refine lv_aload_n hx hb dX4_put_56 rfl (lv_at hl 0 rfl) ?_
          refine gf4_12 hx hb hts inX4_put_4 hown hE.1 hM hk_6 (hts (.fieldLink RX4 43 "WorkCoderModel" "words" "[J") (by decide +kernel)) dX4_put_57 (fun r_21 er_21 => ?_)
          replace h := h r_21 er_21
          clear er_21
          refine lv_iload_n hx hb dX4_put_60 rfl (lv_at hl 1 rfl) ?_
          obtain ⟨a_22, rfl, h⟩ := h
          obtain ⟨hk_23, h⟩ := h
          obtain ⟨hv_24, h⟩ := h
          refine mm_lald hx hb hE.1 hM hk_23 hv_24 dX4_put_61 ?_
          refine clSi (As := [.long (mL (sL σ_4 a_16 (ix x1) ((mL σ_4 a_16 (ix x1)) ||| (lShl (1 : Int64) x2))) a_22 (ix x1))]) (rest := []) ⟨hx, hb, hml, hown, hts⟩ hM hE hS (ok_X4_bits l D cs A (mL (sL σ_4 a_16 (ix x1) ((mL σ_4 a_16 (ix x1)) ||| (lShl (1 : Int64) x2))) a_22 (ix x1)) _ _ h) (va_cwS 1 hts gX4_put_X4_bits rfl rfl rfl (by decide +kernel) ⟨(Nat.le_of_ble_eq_true rfl), (Nat.le_of_ble_eq_true rfl)⟩) rfl hl.1 rfl (Nat.le_of_ble_eq_true rfl) dX4_put_62 ⟨(Nat.le_of_ble_eq_true rfl), (Nat.le_of_ble_eq_true rfl)⟩ (fun x_26 σ_25 H locs h1 hM hS => ?_)
          replace h := h1
          clear h1
          exact W.iret (v := x_26) hx hb hr (fun t_ ht hW => ⟨⟨_, _, rfl, h, mB_of ht hM⟩, hS.F ht⟩) hS.2.2 dX4_put_65
        · replace h := h.2 hc
          refine lv_bipush (v := (-2)) hx hb dX4_put_41 (by decide) ?_
          exact W.iret (v := (-2)) hx hb hr (fun t_ ht hW => ⟨⟨_, _, rfl, h, mB_of ht hM⟩, hS.F ht⟩) hS.2.2 dX4_put_43
    · replace h := h.2 hc
      refine lv_iconst (v := (-1)) hx hb dX4_put_15 (by decide) ?_
      exact W.iret (v := (-1)) hx hb hr (fun t_ ht hW => ⟨⟨_, _, rfl, h, mB_of ht hM⟩, hS.F ht⟩) hS.2.2 dX4_put_16
end S_X4_put
set_option maxHeartbeats 4000000 in
set_option maxRecDepth 100000 in
theorem ok_X4_put (l : Launch) (D : va_G) (cs : CS) (A : Nat → Prop) (t : Nat) (x1 : Int32) (x2 : Int32) (σ : MM) (k : Int32 → MM → Prop) (h : wX4_put t x1 x2 σ k) : Met l yX4_put wsX4_put rmX4_put (va_Pc [.ref t, .int x1, .int x2] (mP D cs A σ)) (va_Qi k (mB D cs A) A) 0 0 A := by
  refine Met.ofW (cc := cX4_put) (maxL := 3) (ret := (some .int)) (by decide) rfl ?_
  intro p e s m args below meth c s₁ B hml hv
  obtain ⟨rfl, hM, hE⟩ := hv
  have CX : CXM p s m _ meth c cX4_put 3 (some .int) "put" RX4 wsX4_put D cs A := ⟨B.exec, B.bytes, hml, B.returns, (name_of_methodNamed B.named B.method).1, findClass_of_methodNamed B.named, atoms_spec (ws := wsX4_put) B.pre, B.notSynchronized, hE⟩
  have hl := lv_entry ([.ref t, .int x1, .int x2]) (n := 3) (Nat.le_of_ble_eq_true rfl)
  rw [lg_entry_eq]
  exact oX4_put_0 CX x1 x2 σ _ _ _ h hM va_S.rf hl
/-! WorkCoderModel.setOf(I)J -/
abbrev rmX4_setOf : Room := { frames := 0, cells := 0, slots := 0, locals := 0 }
theorem inX4_setOf_4 : ∀ w ∈ wsX40, w ∈ wsX4_setOf := fun _ h => List.mem_cons_of_mem _ (List.mem_append_right _ (h))
section S_X4_setOf
variable {p : Program} {l : Launch} {e : Env} {s : State} {m : MethodId} {args : Array Value} {below : List Frame} {meth : Method} {c : Code} {D : va_G} {cs : CS} {A : Nat → Prop}
set_option maxHeartbeats 4000000 in
set_option maxRecDepth 100000 in
theorem oX4_setOf_5 {k : Int64 → MM → Prop} {t : Nat} (CX : CXM p s m args meth c cX4_setOf 5 (some .long) "setOf" RX4 wsX4_setOf D cs A) : ∀ (n : Nat), ∀ (x1 : Int32) (y2 : Int64) (x4 : Int32) (σ : MM) (H : Heap) (locs : List Loc) (ls : Array Slot), wX4_setOf_5 k t  n x1 y2 x4 σ → PH D cs A σ H → va_S A s.heap H locs → lv_has ls 5 [(0, .ref t), (1, .int x1), (2, .long y2), (4, .int x4)] → W p l e (headSpec wsX4_setOf rmX4_setOf).room s m args below meth c H locs 0 0 (MQ below (va_Ql k (mB D cs A) A) args s 0 0 A) (F0 m 5 ls []) := by
  intro n
  induction n with
  | zero => intro x1 y2 x4 σ H locs ls h; exact h.elim
  | succ n ih =>
    intro x1 y2 x4 σ H locs ls h hM hS hl
    have ⟨hx, hb, hml, hr, hnm, hown, hts, hlocks, hE⟩ := CX
    unfold wX4_setOf_5 at h
    refine lv_iload hx hb dX4_setOf_5 (lv_at hl 3 rfl) ?_
    refine lv_bipush (v := 60) hx hb dX4_setOf_7 (by decide) ?_
    refine lv_icmp_ge (tgt := 46) hx hb dX4_setOf_9 (by decide) (fun hc => ?_) (fun hc => ?_)
    · replace h := h.1 hc
      refine lv_lload_n hx hb dX4_setOf_46 rfl (lv_at hl 2 rfl) ?_
      exact W.lret (v := y2) hx hb hr (fun t_ ht hW => ⟨⟨_, _, rfl, h, mB_of ht hM⟩, hS.F ht⟩) hS.2.2 dX4_setOf_47
    · replace h := h.2 hc
      refine lv_aload_n hx hb dX4_setOf_12 rfl (lv_at hl 0 rfl) ?_
      obtain ⟨hk_1, h⟩ := h
      refine gf4_12 hx hb hts inX4_setOf_4 hown hE.1 hM hk_1 (hts (.fieldLink RX4 43 "WorkCoderModel" "words" "[J") (by decide +kernel)) dX4_setOf_13 (fun r_2 er_2 => ?_)
      replace h := h r_2 er_2
      clear er_2
      refine lv_iload_n hx hb dX4_setOf_16 rfl (lv_at hl 1 rfl) ?_
      obtain ⟨a_3, rfl, h⟩ := h
      obtain ⟨hk_4, h⟩ := h
      obtain ⟨hv_5, h⟩ := h
      refine mm_lald hx hb hE.1 hM hk_4 hv_5 dX4_setOf_17 ?_
      refine lv_iload hx hb dX4_setOf_18 (lv_at hl 3 rfl) ?_
      refine lv_lshr hx hb dX4_setOf_20 (v := lShr (mL σ a_3 (ix x1)) x4) rfl ?_
      refine lv_lconst (v := 1) hx hb dX4_setOf_21 (by decide) ?_
      refine lv_land hx hb dX4_setOf_22 ?_
      refine lv_lconst (v := 1) hx hb dX4_setOf_23 (by decide) ?_
      refine lc_ne (tgt := 40) hx hb dX4_setOf_24 dX4_setOf_25 (by decide) (fun hc => ?_) (fun hc => ?_)
      · replace h := h.1 hc
        obtain ⟨x_6, ex_6⟩ : ∃ y : Int32, y = x4 + 1 := ⟨_, rfl⟩
        replace h := h x_6 ex_6
        refine lv_iinc (v := x_6) (lv' := [(4, .int x_6), (0, .ref t), (1, .int x1), (2, .long y2)]) hx hb dX4_setOf_40 hl (k := 3) rfl (by rw [ex_6]; rfl) (by decide) rfl (fun ls hl => ?_)
        refine lv_goto (tgt := 5) hx hb dX4_setOf_43 (by decide) ?_
        exact ih _ _ _ _ _ _ _ h hM hS (lv_sub hl [1, 2, 3, 0] rfl)
      · replace h := h.2 hc
        refine lv_lload_n hx hb dX4_setOf_28 rfl (lv_at hl 2 rfl) ?_
        refine lv_lconst (v := 1) hx hb dX4_setOf_29 (by decide) ?_
        refine lv_aload_n hx hb dX4_setOf_30 rfl (lv_at hl 0 rfl) ?_
        refine gf4_1 hx hb hts inX4_setOf_4 hown hE.1 hM hk_1 (hts (.fieldLink RX4 17 "WorkCoderModel" "stands" "[I") (by decide +kernel)) dX4_setOf_31 (fun r_7 er_7 => ?_)
        replace h := h r_7 er_7
        clear er_7
        refine lv_iload hx hb dX4_setOf_34 (lv_at hl 3 rfl) ?_
        obtain ⟨a_8, rfl, h⟩ := h
        obtain ⟨hk_9, h⟩ := h
        obtain ⟨hv_10, h⟩ := h
        refine mm_iald hx hb hE.1 hM hk_9 hv_10 dX4_setOf_36 ?_
        refine lv_lshl hx hb dX4_setOf_37 (v := lShl (1 : Int64) (mI σ a_8 (ix x4))) rfl ?_
        refine lv_lor hx hb dX4_setOf_38 ?_
        refine lv_topl (fun y_11 ey_11 => ?_)
        replace h := h y_11 ey_11
        refine lv_lstore_n (i := 2) (lv' := [(2, .long y_11), (0, .ref t), (1, .int x1), (4, .int x4)]) hx hb dX4_setOf_39 rfl hl (by decide) rfl (fun ls hl => ?_)
        obtain ⟨x_12, ex_12⟩ : ∃ y : Int32, y = x4 + 1 := ⟨_, rfl⟩
        replace h := h x_12 ex_12
        refine lv_iinc (v := x_12) (lv' := [(4, .int x_12), (2, .long y_11), (0, .ref t), (1, .int x1)]) hx hb dX4_setOf_40 hl (k := 3) rfl (by rw [ex_12]; rfl) (by decide) rfl (fun ls hl => ?_)
        refine lv_goto (tgt := 5) hx hb dX4_setOf_43 (by decide) ?_
        exact ih _ _ _ _ _ _ _ h hM hS (lv_sub hl [2, 3, 1, 0] rfl)
set_option maxHeartbeats 4000000 in
set_option maxRecDepth 100000 in
theorem oX4_setOf_0 {k : Int64 → MM → Prop} {t : Nat} (CX : CXM p s m args meth c cX4_setOf 5 (some .long) "setOf" RX4 wsX4_setOf D cs A) : ∀ (x1 : Int32) (σ : MM) (H : Heap) (locs : List Loc) (ls : Array Slot), wX4_setOf t x1 σ k → PH D cs A σ H → va_S A s.heap H locs → lv_has ls 5 [(0, .ref t), (1, .int x1)] → W p l e (headSpec wsX4_setOf rmX4_setOf).room s m args below meth c H locs 0 0 (MQ below (va_Ql k (mB D cs A) A) args s 0 0 A) (F0 m 0 ls []) := by
  intro x1 σ H locs ls h hM hS hl
  have ⟨hx, hb, hml, hr, hnm, hown, hts, hlocks, hE⟩ := CX
  unfold wX4_setOf at h
  refine lv_lconst (v := 0) hx hb dX4_setOf_0 (by decide) ?_
  refine lv_lstore_n (i := 2) (lv' := [(2, .long 0), (0, .ref t), (1, .int x1)]) hx hb dX4_setOf_1 rfl hl (by decide) rfl (fun ls hl => ?_)
  refine lv_iconst (v := 0) hx hb dX4_setOf_2 (by decide) ?_
  refine lv_istore (i := 4) (lv' := [(4, .int 0), (2, .long 0), (0, .ref t), (1, .int x1)]) hx hb dX4_setOf_3 hl (by decide) rfl (fun ls hl => ?_)
  obtain ⟨n0, h⟩ := h
  exact oX4_setOf_5 CX  n0 _ _ _ _ _ _ _ h hM hS (lv_sub hl [2, 3, 1, 0] rfl)
end S_X4_setOf
set_option maxHeartbeats 4000000 in
set_option maxRecDepth 100000 in
theorem ok_X4_setOf (l : Launch) (D : va_G) (cs : CS) (A : Nat → Prop) (t : Nat) (x1 : Int32) (σ : MM) (k : Int64 → MM → Prop) (h : wX4_setOf t x1 σ k) : Met l yX4_setOf wsX4_setOf rmX4_setOf (va_Pc [.ref t, .int x1] (mP D cs A σ)) (va_Ql k (mB D cs A) A) 0 0 A := by
  refine Met.ofW (cc := cX4_setOf) (maxL := 5) (ret := (some .long)) (by decide) rfl ?_
  intro p e s m args below meth c s₁ B hml hv
  obtain ⟨rfl, hM, hE⟩ := hv
  have CX : CXM p s m _ meth c cX4_setOf 5 (some .long) "setOf" RX4 wsX4_setOf D cs A := ⟨B.exec, B.bytes, hml, B.returns, (name_of_methodNamed B.named B.method).1, findClass_of_methodNamed B.named, atoms_spec (ws := wsX4_setOf) B.pre, B.notSynchronized, hE⟩
  have hl := lv_entry ([.ref t, .int x1]) (n := 5) (Nat.le_of_ble_eq_true rfl)
  rw [lg_entry_eq]
  exact oX4_setOf_0 CX x1 σ _ _ _ h hM va_S.rf hl
/-! WorkCoderModel.areAlike(II)Z -/
abbrev rmX4_areAlike : Room := { frames := 1, cells := 0, slots := 0, locals := 24 }
theorem inX4_areAlike_4 : ∀ w ∈ wsX40, w ∈ wsX4_areAlike := fun _ h => List.mem_cons_of_mem _ (List.mem_append_right _ (h))
section S_X4_areAlike
variable {p : Program} {l : Launch} {e : Env} {s : State} {m : MethodId} {args : Array Value} {below : List Frame} {meth : Method} {c : Code} {D : va_G} {cs : CS} {A : Nat → Prop}
set_option maxHeartbeats 4000000 in
set_option maxRecDepth 100000 in
theorem oX4_areAlike_0 {k : Int32 → MM → Prop} {t : Nat} (CX : CXM p s m args meth c cX4_areAlike 3 (some .boolean) "areAlike" RX4 wsX4_areAlike D cs A) : ∀ (x1 : Int32) (x2 : Int32) (σ : MM) (H : Heap) (locs : List Loc) (ls : Array Slot), wX4_areAlike t x1 x2 σ k → PH D cs A σ H → va_S A s.heap H locs → lv_has ls 3 [(0, .ref t), (1, .int x1), (2, .int x2)] → W p l e (headSpec wsX4_areAlike rmX4_areAlike).room s m args below meth c H locs 0 0 (MQ below (va_Qi k (mB D cs A) A) args s 0 0 A) (F0 m 0 ls []) := by
  intro x1 x2 σ H locs ls h hM hS hl
  have ⟨hx, hb, hml, hr, hnm, hown, hts, hlocks, hE⟩ := CX
  unfold wX4_areAlike at h
  refine lv_aload_n hx hb dX4_areAlike_0 rfl (lv_at hl 0 rfl) ?_
  obtain ⟨hk_1, h⟩ := h
  refine gf4_10 hx hb hts inX4_areAlike_4 hown hE.1 hM hk_1 (hts (.fieldLink RX4 37 "WorkCoderModel" "trade" "[I") (by decide +kernel)) dX4_areAlike_1 (fun r_2 er_2 => ?_)
  replace h := h r_2 er_2
  clear er_2
  refine lv_iload_n hx hb dX4_areAlike_4 rfl (lv_at hl 1 rfl) ?_
  refine lv_iconst (v := 2) hx hb dX4_areAlike_5 (by decide) ?_
  refine lv_idiv hx hb dX4_areAlike_6 (by decide) ?_
  obtain ⟨a_3, rfl, h⟩ := h
  obtain ⟨hk_4, h⟩ := h
  obtain ⟨hv_5, h⟩ := h
  refine mm_iald hx hb hE.1 hM hk_4 hv_5 dX4_areAlike_7 ?_
  refine lv_aload_n hx hb dX4_areAlike_8 rfl (lv_at hl 0 rfl) ?_
  refine gf4_10 hx hb hts inX4_areAlike_4 hown hE.1 hM hk_1 (hts (.fieldLink RX4 37 "WorkCoderModel" "trade" "[I") (by decide +kernel)) dX4_areAlike_9 (fun r_6 er_6 => ?_)
  replace h := h r_6 er_6
  clear er_6
  refine lv_iload_n hx hb dX4_areAlike_12 rfl (lv_at hl 2 rfl) ?_
  refine lv_iconst (v := 2) hx hb dX4_areAlike_13 (by decide) ?_
  refine lv_idiv hx hb dX4_areAlike_14 (by decide) ?_
  obtain ⟨a_7, rfl, h⟩ := h
  obtain ⟨hk_8, h⟩ := h
  obtain ⟨hv_9, h⟩ := h
  refine mm_iald hx hb hE.1 hM hk_8 hv_9 dX4_areAlike_15 ?_
  refine lv_icmp_ne (tgt := 56) hx hb dX4_areAlike_16 (by decide) (fun hc => ?_) (fun hc => ?_)
  · replace h := h.1 hc
    refine lv_iconst (v := 0) hx hb dX4_areAlike_56 (by decide) ?_
    exact W.zret (v := 0) (ty := .boolean) hx hb hr rfl (fun t_ ht hW => ⟨⟨_, _, rfl, h, mB_of ht hM⟩, hS.F ht⟩) hS.2.2 dX4_areAlike_57
  · replace h := h.2 hc
    refine lv_aload_n hx hb dX4_areAlike_19 rfl (lv_at hl 0 rfl) ?_
    refine gf4_11 hx hb hts inX4_areAlike_4 hown hE.1 hM hk_1 (hts (.fieldLink RX4 40 "WorkCoderModel" "schooling" "[I") (by decide +kernel)) dX4_areAlike_20 (fun r_10 er_10 => ?_)
    replace h := h r_10 er_10
    clear er_10
    refine lv_iload_n hx hb dX4_areAlike_23 rfl (lv_at hl 1 rfl) ?_
    refine lv_iconst (v := 2) hx hb dX4_areAlike_24 (by decide) ?_
    refine lv_idiv hx hb dX4_areAlike_25 (by decide) ?_
    obtain ⟨a_11, rfl, h⟩ := h
    obtain ⟨hk_12, h⟩ := h
    obtain ⟨hv_13, h⟩ := h
    refine mm_iald hx hb hE.1 hM hk_12 hv_13 dX4_areAlike_26 ?_
    refine lv_aload_n hx hb dX4_areAlike_27 rfl (lv_at hl 0 rfl) ?_
    refine gf4_11 hx hb hts inX4_areAlike_4 hown hE.1 hM hk_1 (hts (.fieldLink RX4 40 "WorkCoderModel" "schooling" "[I") (by decide +kernel)) dX4_areAlike_28 (fun r_14 er_14 => ?_)
    replace h := h r_14 er_14
    clear er_14
    refine lv_iload_n hx hb dX4_areAlike_31 rfl (lv_at hl 2 rfl) ?_
    refine lv_iconst (v := 2) hx hb dX4_areAlike_32 (by decide) ?_
    refine lv_idiv hx hb dX4_areAlike_33 (by decide) ?_
    obtain ⟨a_15, rfl, h⟩ := h
    obtain ⟨hk_16, h⟩ := h
    obtain ⟨hv_17, h⟩ := h
    refine mm_iald hx hb hE.1 hM hk_16 hv_17 dX4_areAlike_34 ?_
    refine lv_icmp_ne (tgt := 56) hx hb dX4_areAlike_35 (by decide) (fun hc => ?_) (fun hc => ?_)
    · replace h := h.1 hc
      refine lv_iconst (v := 0) hx hb dX4_areAlike_56 (by decide) ?_
      exact W.zret (v := 0) (ty := .boolean) hx hb hr rfl (fun t_ ht hW => ⟨⟨_, _, rfl, h, mB_of ht hM⟩, hS.F ht⟩) hS.2.2 dX4_areAlike_57
    · replace h := h.2 hc
      refine lv_aload_n hx hb dX4_areAlike_38 rfl (lv_at hl 0 rfl) ?_
      refine lv_iload_n hx hb dX4_areAlike_39 rfl (lv_at hl 1 rfl) ?_
      refine clVl (C := RX4) (b := t) (As := [.int x1]) (rest := []) ⟨hx, hb, hml, hown, hts⟩ hM hE hS (ok_X4_setOf l D cs A t x1 _ _ h) (cwV 1 hts gX4_areAlike_X4_setOf rfl rfl rfl (by decide +kernel) ⟨(Nat.le_of_ble_eq_true rfl), (Nat.le_of_ble_eq_true rfl)⟩) (rc4 hM hE.1 hk_1) rfl hl.1 rfl (Nat.le_of_ble_eq_true rfl) dX4_areAlike_40 ⟨(Nat.le_of_ble_eq_true rfl), (Nat.le_of_ble_eq_true rfl)⟩ (fun y_19 σ_18 H locs h1 hM hS => ?_)
      replace h := h1
      clear h1
      refine lv_aload_n hx hb dX4_areAlike_43 rfl (lv_at hl 0 rfl) ?_
      refine lv_iload_n hx hb dX4_areAlike_44 rfl (lv_at hl 2 rfl) ?_
      obtain ⟨hk_20, h⟩ := h
      refine clVl (C := RX4) (b := t) (As := [.int x2]) (rest := [.long y_19]) ⟨hx, hb, hml, hown, hts⟩ hM hE hS (ok_X4_setOf l D cs A t x2 _ _ h) (cwV 1 hts gX4_areAlike_X4_setOf rfl rfl rfl (by decide +kernel) ⟨(Nat.le_of_ble_eq_true rfl), (Nat.le_of_ble_eq_true rfl)⟩) (rc4 hM hE.1 hk_20) rfl hl.1 rfl (Nat.le_of_ble_eq_true rfl) dX4_areAlike_45 ⟨(Nat.le_of_ble_eq_true rfl), (Nat.le_of_ble_eq_true rfl)⟩ (fun y_22 σ_21 H locs h1 hM hS => ?_)
      replace h := h1
      clear h1
      refine lc_ne (tgt := 56) hx hb dX4_areAlike_48 dX4_areAlike_49 (by decide) (fun hc => ?_) (fun hc => ?_)
      · replace h := h.1 hc
        refine lv_iconst (v := 0) hx hb dX4_areAlike_56 (by decide) ?_
        exact W.zret (v := 0) (ty := .boolean) hx hb hr rfl (fun t_ ht hW => ⟨⟨_, _, rfl, h, mB_of ht hM⟩, hS.F ht⟩) hS.2.2 dX4_areAlike_57
      · replace h := h.2 hc
        refine lv_iconst (v := 1) hx hb dX4_areAlike_52 (by decide) ?_
        refine lv_goto (tgt := 57) hx hb dX4_areAlike_53 (by decide) ?_
        exact W.zret (v := 1) (ty := .boolean) hx hb hr rfl (fun t_ ht hW => ⟨⟨_, _, rfl, h, mB_of ht hM⟩, hS.F ht⟩) hS.2.2 dX4_areAlike_57
end S_X4_areAlike
set_option maxHeartbeats 4000000 in
set_option maxRecDepth 100000 in
theorem ok_X4_areAlike (l : Launch) (D : va_G) (cs : CS) (A : Nat → Prop) (t : Nat) (x1 : Int32) (x2 : Int32) (σ : MM) (k : Int32 → MM → Prop) (h : wX4_areAlike t x1 x2 σ k) : Met l yX4_areAlike wsX4_areAlike rmX4_areAlike (va_Pc [.ref t, .int x1, .int x2] (mP D cs A σ)) (va_Qi k (mB D cs A) A) 0 0 A := by
  refine Met.ofW (cc := cX4_areAlike) (maxL := 3) (ret := (some .boolean)) (by decide) rfl ?_
  intro p e s m args below meth c s₁ B hml hv
  obtain ⟨rfl, hM, hE⟩ := hv
  have CX : CXM p s m _ meth c cX4_areAlike 3 (some .boolean) "areAlike" RX4 wsX4_areAlike D cs A := ⟨B.exec, B.bytes, hml, B.returns, (name_of_methodNamed B.named B.method).1, findClass_of_methodNamed B.named, atoms_spec (ws := wsX4_areAlike) B.pre, B.notSynchronized, hE⟩
  have hl := lv_entry ([.ref t, .int x1, .int x2]) (n := 3) (Nat.le_of_ble_eq_true rfl)
  rw [lg_entry_eq]
  exact oX4_areAlike_0 CX x1 x2 σ _ _ _ h hM va_S.rf hl
/-! WorkCoderModel.likesOf(II)I -/
abbrev rmX4_likesOf : Room := { frames := 2, cells := 0, slots := 0, locals := 46 }
theorem inX4_likesOf_4 : ∀ w ∈ wsX40, w ∈ wsX4_likesOf := fun _ h => List.mem_cons_of_mem _ (List.mem_append_right _ (h))
section S_X4_likesOf
variable {p : Program} {l : Launch} {e : Env} {s : State} {m : MethodId} {args : Array Value} {below : List Frame} {meth : Method} {c : Code} {D : va_G} {cs : CS} {A : Nat → Prop}
set_option maxHeartbeats 4000000 in
set_option maxRecDepth 100000 in
theorem oX4_likesOf_41 {k : Int32 → MM → Prop} {t : Nat} {g5 : Int32 → Int32 → Int32 → Int32 → MM → Prop} (CX : CXM p s m args meth c cX4_likesOf 5 (some .int) "likesOf" RX4 wsX4_likesOf D cs A) (hg5 : ∀ (x1 : Int32) (x2 : Int32) (x3 : Int32) (x4 : Int32) (σ : MM) (H : Heap) (locs : List Loc) (ls : Array Slot), g5 x1 x2 x3 x4 σ → PH D cs A σ H → va_S A s.heap H locs → lv_has ls 5 [(0, .ref t), (1, .int x1), (2, .int x2), (3, .int x3), (4, .int x4)] → W p l e (headSpec wsX4_likesOf rmX4_likesOf).room s m args below meth c H locs 0 0 (MQ below (va_Qi k (mB D cs A) A) args s 0 0 A) (F0 m 5 ls [])) : ∀ (x1 : Int32) (x2 : Int32) (x4 : Int32) (z0 : Int32) (σ : MM) (H : Heap) (locs : List Loc) (ls : Array Slot), wX4_likesOf_41 k t g5 x1 x2 x4 z0 σ → PH D cs A σ H → va_S A s.heap H locs → lv_has ls 5 [(0, .ref t), (1, .int x1), (2, .int x2), (4, .int x4)] → W p l e (headSpec wsX4_likesOf rmX4_likesOf).room s m args below meth c H locs 0 0 (MQ below (va_Qi k (mB D cs A) A) args s 0 0 A) (F0 m 41 ls [.int z0]) := by
  intro x1 x2 x4 z0 σ H locs ls h hM hS hl
  have ⟨hx, hb, hml, hr, hnm, hown, hts, hlocks, hE⟩ := CX
  unfold wX4_likesOf_41 at h
  refine lv_aload_n hx hb dX4_likesOf_41 rfl (lv_at hl 0 rfl) ?_
  refine lv_iload hx hb dX4_likesOf_42 (lv_at hl 3 rfl) ?_
  refine lv_iload_n hx hb dX4_likesOf_44 rfl (lv_at hl 1 rfl) ?_
  obtain ⟨hk_1, h⟩ := h
  refine clVi (C := RX4) (b := t) (As := [.int x4, .int x1]) (rest := [.int z0]) ⟨hx, hb, hml, hown, hts⟩ hM hE hS (ok_X4_areAlike l D cs A t x4 x1 _ _ h) (cwV 2 hts gX4_likesOf_X4_areAlike rfl rfl rfl (by decide +kernel) ⟨(Nat.le_of_ble_eq_true rfl), (Nat.le_of_ble_eq_true rfl)⟩) (rc4 hM hE.1 hk_1) rfl hl.1 rfl (Nat.le_of_ble_eq_true rfl) dX4_likesOf_45 ⟨(Nat.le_of_ble_eq_true rfl), (Nat.le_of_ble_eq_true rfl)⟩ (fun x_3 σ_2 H locs h1 hM hS => ?_)
  replace h := h1
  clear h1
  refine lv_if_eq (tgt := 55) hx hb dX4_likesOf_48 (by decide) (fun hc => ?_) (fun hc => ?_)
  · replace h := h.1 hc
    refine lv_iconst (v := 0) hx hb dX4_likesOf_55 (by decide) ?_
    refine lv_iadd hx hb dX4_likesOf_56 ?_
    refine lv_topi (fun x_4 ex_4 => ?_)
    replace h := h x_4 ex_4
    refine lv_istore_n (i := 3) (lv' := [(3, .int x_4), (0, .ref t), (1, .int x1), (2, .int x2), (4, .int x4)]) hx hb dX4_likesOf_57 rfl hl (by decide) rfl (fun ls hl => ?_)
    obtain ⟨x_5, ex_5⟩ : ∃ y : Int32, y = x4 + 1 := ⟨_, rfl⟩
    replace h := h x_5 ex_5
    refine lv_iinc (v := x_5) (lv' := [(4, .int x_5), (3, .int x_4), (0, .ref t), (1, .int x1), (2, .int x2)]) hx hb dX4_likesOf_58 hl (k := 4) rfl (by rw [ex_5]; rfl) (by decide) rfl (fun ls hl => ?_)
    refine lv_goto (tgt := 5) hx hb dX4_likesOf_61 (by decide) ?_
    exact hg5 _ _ _ _ _ _ _ _ h hM hS (lv_sub hl [2, 3, 4, 1, 0] rfl)
  · replace h := h.2 hc
    refine lv_iconst (v := 1) hx hb dX4_likesOf_51 (by decide) ?_
    refine lv_goto (tgt := 56) hx hb dX4_likesOf_52 (by decide) ?_
    refine lv_iadd hx hb dX4_likesOf_56 ?_
    refine lv_topi (fun x_6 ex_6 => ?_)
    replace h := h x_6 ex_6
    refine lv_istore_n (i := 3) (lv' := [(3, .int x_6), (0, .ref t), (1, .int x1), (2, .int x2), (4, .int x4)]) hx hb dX4_likesOf_57 rfl hl (by decide) rfl (fun ls hl => ?_)
    obtain ⟨x_7, ex_7⟩ : ∃ y : Int32, y = x4 + 1 := ⟨_, rfl⟩
    replace h := h x_7 ex_7
    refine lv_iinc (v := x_7) (lv' := [(4, .int x_7), (3, .int x_6), (0, .ref t), (1, .int x1), (2, .int x2)]) hx hb dX4_likesOf_58 hl (k := 4) rfl (by rw [ex_7]; rfl) (by decide) rfl (fun ls hl => ?_)
    refine lv_goto (tgt := 5) hx hb dX4_likesOf_61 (by decide) ?_
    exact hg5 _ _ _ _ _ _ _ _ h hM hS (lv_sub hl [2, 3, 4, 1, 0] rfl)
set_option maxHeartbeats 4000000 in
set_option maxRecDepth 100000 in
theorem oX4_likesOf_5 {k : Int32 → MM → Prop} {t : Nat} (CX : CXM p s m args meth c cX4_likesOf 5 (some .int) "likesOf" RX4 wsX4_likesOf D cs A) : ∀ (n : Nat), ∀ (x1 : Int32) (x2 : Int32) (x3 : Int32) (x4 : Int32) (σ : MM) (H : Heap) (locs : List Loc) (ls : Array Slot), wX4_likesOf_5 k t  n x1 x2 x3 x4 σ → PH D cs A σ H → va_S A s.heap H locs → lv_has ls 5 [(0, .ref t), (1, .int x1), (2, .int x2), (3, .int x3), (4, .int x4)] → W p l e (headSpec wsX4_likesOf rmX4_likesOf).room s m args below meth c H locs 0 0 (MQ below (va_Qi k (mB D cs A) A) args s 0 0 A) (F0 m 5 ls []) := by
  intro n
  induction n with
  | zero => intro x1 x2 x3 x4 σ H locs ls h; exact h.elim
  | succ n ih =>
    intro x1 x2 x3 x4 σ H locs ls h hM hS hl
    have ⟨hx, hb, hml, hr, hnm, hown, hts, hlocks, hE⟩ := CX
    unfold wX4_likesOf_5 at h
    refine lv_iload hx hb dX4_likesOf_5 (lv_at hl 4 rfl) ?_
    refine lv_iconst (v := 2) hx hb dX4_likesOf_7 (by decide) ?_
    refine lv_aload_n hx hb dX4_likesOf_8 rfl (lv_at hl 0 rfl) ?_
    obtain ⟨hk_1, h⟩ := h
    refine gf4_8 hx hb hts inX4_likesOf_4 hown hE.1 hM hk_1 (hts (.fieldLink RX4 116 "WorkCoderModel" "answers" "I") (by decide +kernel)) dX4_likesOf_9 ?_
    refine lv_imul hx hb dX4_likesOf_12 ?_
    refine lv_icmp_ge (tgt := 64) hx hb dX4_likesOf_13 (by decide) (fun hc => ?_) (fun hc => ?_)
    · replace h := h.1 hc
      refine lv_iload_n hx hb dX4_likesOf_64 rfl (lv_at hl 3 rfl) ?_
      exact W.iret (v := x3) hx hb hr (fun t_ ht hW => ⟨⟨_, _, rfl, h, mB_of ht hM⟩, hS.F ht⟩) hS.2.2 dX4_likesOf_65
    · replace h := h.2 hc
      refine lv_iload_n hx hb dX4_likesOf_16 rfl (lv_at hl 3 rfl) ?_
      refine lv_aload_n hx hb dX4_likesOf_17 rfl (lv_at hl 0 rfl) ?_
      refine lv_iload hx hb dX4_likesOf_18 (lv_at hl 4 rfl) ?_
      refine clVi (C := RX4) (b := t) (As := [.int x4]) (rest := [.int x3]) ⟨hx, hb, hml, hown, hts⟩ hM hE hS (ok_X4_isItem l D cs A t x4 _ _ h) (cwV 1 hts gX4_likesOf_X4_isItem rfl rfl rfl (by decide +kernel) ⟨(Nat.le_of_ble_eq_true rfl), (Nat.le_of_ble_eq_true rfl)⟩) (rc4 hM hE.1 hk_1) rfl hl.1 rfl (Nat.le_of_ble_eq_true rfl) dX4_likesOf_20 ⟨(Nat.le_of_ble_eq_true rfl), (Nat.le_of_ble_eq_true rfl)⟩ (fun x_3 σ_2 H locs h1 hM hS => ?_)
      replace h := h1
      clear h1
      refine lv_if_eq (tgt := 55) hx hb dX4_likesOf_23 (by decide) (fun hc => ?_) (fun hc => ?_)
      · replace h := h.1 hc
        refine lv_iconst (v := 0) hx hb dX4_likesOf_55 (by decide) ?_
        refine lv_iadd hx hb dX4_likesOf_56 ?_
        refine lv_topi (fun x_4 ex_4 => ?_)
        replace h := h x_4 ex_4
        refine lv_istore_n (i := 3) (lv' := [(3, .int x_4), (0, .ref t), (1, .int x1), (2, .int x2), (4, .int x4)]) hx hb dX4_likesOf_57 rfl hl (by decide) rfl (fun ls hl => ?_)
        obtain ⟨x_5, ex_5⟩ : ∃ y : Int32, y = x4 + 1 := ⟨_, rfl⟩
        replace h := h x_5 ex_5
        refine lv_iinc (v := x_5) (lv' := [(4, .int x_5), (3, .int x_4), (0, .ref t), (1, .int x1), (2, .int x2)]) hx hb dX4_likesOf_58 hl (k := 4) rfl (by rw [ex_5]; rfl) (by decide) rfl (fun ls hl => ?_)
        refine lv_goto (tgt := 5) hx hb dX4_likesOf_61 (by decide) ?_
        exact ih _ _ _ _ _ _ _ _ h hM hS (lv_sub hl [2, 3, 4, 1, 0] rfl)
      · replace h := h.2 hc
        refine lv_iload_n hx hb dX4_likesOf_26 rfl (lv_at hl 2 rfl) ?_
        refine lv_if_lt (tgt := 41) hx hb dX4_likesOf_27 (by decide) (fun hc => ?_) (fun hc => ?_)
        · replace h := h.1 hc
          exact oX4_likesOf_41 CX ih _ _ _ _ _ _ _ _ h hM hS (lv_sub hl [0, 1, 2, 4] rfl)
        · replace h := h.2 hc
          refine lv_aload_n hx hb dX4_likesOf_30 rfl (lv_at hl 0 rfl) ?_
          obtain ⟨hk_6, h⟩ := h
          refine gf4_13 hx hb hts inX4_likesOf_4 hown hE.1 hM hk_6 (hts (.fieldLink RX4 46 "WorkCoderModel" "state" "[I") (by decide +kernel)) dX4_likesOf_31 (fun r_7 er_7 => ?_)
          replace h := h r_7 er_7
          clear er_7
          refine lv_iload hx hb dX4_likesOf_34 (lv_at hl 4 rfl) ?_
          obtain ⟨a_8, rfl, h⟩ := h
          obtain ⟨hk_9, h⟩ := h
          obtain ⟨hv_10, h⟩ := h
          refine mm_iald hx hb hE.1 hM hk_9 hv_10 dX4_likesOf_36 ?_
          refine lv_iload_n hx hb dX4_likesOf_37 rfl (lv_at hl 2 rfl) ?_
          refine lv_icmp_ne (tgt := 55) hx hb dX4_likesOf_38 (by decide) (fun hc => ?_) (fun hc => ?_)
          · replace h := h.1 hc
            refine lv_iconst (v := 0) hx hb dX4_likesOf_55 (by decide) ?_
            refine lv_iadd hx hb dX4_likesOf_56 ?_
            refine lv_topi (fun x_11 ex_11 => ?_)
            replace h := h x_11 ex_11
            refine lv_istore_n (i := 3) (lv' := [(3, .int x_11), (0, .ref t), (1, .int x1), (2, .int x2), (4, .int x4)]) hx hb dX4_likesOf_57 rfl hl (by decide) rfl (fun ls hl => ?_)
            obtain ⟨x_12, ex_12⟩ : ∃ y : Int32, y = x4 + 1 := ⟨_, rfl⟩
            replace h := h x_12 ex_12
            refine lv_iinc (v := x_12) (lv' := [(4, .int x_12), (3, .int x_11), (0, .ref t), (1, .int x1), (2, .int x2)]) hx hb dX4_likesOf_58 hl (k := 4) rfl (by rw [ex_12]; rfl) (by decide) rfl (fun ls hl => ?_)
            refine lv_goto (tgt := 5) hx hb dX4_likesOf_61 (by decide) ?_
            exact ih _ _ _ _ _ _ _ _ h hM hS (lv_sub hl [2, 3, 4, 1, 0] rfl)
          · replace h := h.2 hc
            exact oX4_likesOf_41 CX ih _ _ _ _ _ _ _ _ h hM hS (lv_sub hl [0, 1, 2, 4] rfl)
set_option maxHeartbeats 4000000 in
set_option maxRecDepth 100000 in
theorem oX4_likesOf_0 {k : Int32 → MM → Prop} {t : Nat} (CX : CXM p s m args meth c cX4_likesOf 5 (some .int) "likesOf" RX4 wsX4_likesOf D cs A) : ∀ (x1 : Int32) (x2 : Int32) (σ : MM) (H : Heap) (locs : List Loc) (ls : Array Slot), wX4_likesOf t x1 x2 σ k → PH D cs A σ H → va_S A s.heap H locs → lv_has ls 5 [(0, .ref t), (1, .int x1), (2, .int x2)] → W p l e (headSpec wsX4_likesOf rmX4_likesOf).room s m args below meth c H locs 0 0 (MQ below (va_Qi k (mB D cs A) A) args s 0 0 A) (F0 m 0 ls []) := by
  intro x1 x2 σ H locs ls h hM hS hl
  have ⟨hx, hb, hml, hr, hnm, hown, hts, hlocks, hE⟩ := CX
  unfold wX4_likesOf at h
  refine lv_iconst (v := 0) hx hb dX4_likesOf_0 (by decide) ?_
  refine lv_istore_n (i := 3) (lv' := [(3, .int 0), (0, .ref t), (1, .int x1), (2, .int x2)]) hx hb dX4_likesOf_1 rfl hl (by decide) rfl (fun ls hl => ?_)
  refine lv_iconst (v := 0) hx hb dX4_likesOf_2 (by decide) ?_
  refine lv_istore (i := 4) (lv' := [(4, .int 0), (3, .int 0), (0, .ref t), (1, .int x1), (2, .int x2)]) hx hb dX4_likesOf_3 hl (by decide) rfl (fun ls hl => ?_)
  obtain ⟨n0, h⟩ := h
  exact oX4_likesOf_5 CX  n0 _ _ _ _ _ _ _ _ h hM hS (lv_sub hl [2, 3, 4, 1, 0] rfl)
end S_X4_likesOf
set_option maxHeartbeats 4000000 in
set_option maxRecDepth 100000 in
theorem ok_X4_likesOf (l : Launch) (D : va_G) (cs : CS) (A : Nat → Prop) (t : Nat) (x1 : Int32) (x2 : Int32) (σ : MM) (k : Int32 → MM → Prop) (h : wX4_likesOf t x1 x2 σ k) : Met l yX4_likesOf wsX4_likesOf rmX4_likesOf (va_Pc [.ref t, .int x1, .int x2] (mP D cs A σ)) (va_Qi k (mB D cs A) A) 0 0 A := by
  refine Met.ofW (cc := cX4_likesOf) (maxL := 5) (ret := (some .int)) (by decide) rfl ?_
  intro p e s m args below meth c s₁ B hml hv
  obtain ⟨rfl, hM, hE⟩ := hv
  have CX : CXM p s m _ meth c cX4_likesOf 5 (some .int) "likesOf" RX4 wsX4_likesOf D cs A := ⟨B.exec, B.bytes, hml, B.returns, (name_of_methodNamed B.named B.method).1, findClass_of_methodNamed B.named, atoms_spec (ws := wsX4_likesOf) B.pre, B.notSynchronized, hE⟩
  have hl := lv_entry ([.ref t, .int x1, .int x2]) (n := 5) (Nat.le_of_ble_eq_true rfl)
  rw [lg_entry_eq]
  exact oX4_likesOf_0 CX x1 x2 σ _ _ _ h hM va_S.rf hl
/-! WorkCoderModel.set(II)I -/
abbrev rmX4_set : Room := { frames := 3, cells := 0, slots := 0, locals := 70 }
section S_X4_set
variable {p : Program} {l : Launch} {e : Env} {s : State} {m : MethodId} {args : Array Value} {below : List Frame} {meth : Method} {c : Code} {D : va_G} {cs : CS} {A : Nat → Prop}
set_option maxHeartbeats 4000000 in
set_option maxRecDepth 100000 in
theorem oX4_set_0 {k : Int32 → MM → Prop} {t : Nat} (CX : CXM p s m args meth c cX4_set 3 (some .int) "set" RX4 wsX4_set D cs A) : ∀ (x1 : Int32) (x2 : Int32) (σ : MM) (H : Heap) (locs : List Loc) (ls : Array Slot), wX4_set t x1 x2 σ k → PH D cs A σ H → va_S A s.heap H locs → lv_has ls 3 [(0, .ref t), (1, .int x1), (2, .int x2)] → W p l e (headSpec wsX4_set rmX4_set).room s m args below meth c H locs 0 0 (MQ below (va_Qi k (mB D cs A) A) args s 0 0 A) (F0 m 0 ls []) := by
  intro x1 x2 σ H locs ls h hM hS hl
  have ⟨hx, hb, hml, hr, hnm, hown, hts, hlocks, hE⟩ := CX
  unfold wX4_set at h
  refine lv_aload_n hx hb dX4_set_0 rfl (lv_at hl 0 rfl) ?_
  refine lv_iload_n hx hb dX4_set_1 rfl (lv_at hl 1 rfl) ?_
  obtain ⟨hk_1, h⟩ := h
  refine clVi (C := RX4) (b := t) (As := [.int x1]) (rest := []) ⟨hx, hb, hml, hown, hts⟩ hM hE hS (ok_X4_isItem l D cs A t x1 _ _ h) (cwV 1 hts gX4_set_X4_isItem rfl rfl rfl (by decide +kernel) ⟨(Nat.le_of_ble_eq_true rfl), (Nat.le_of_ble_eq_true rfl)⟩) (rc4 hM hE.1 hk_1) rfl hl.1 rfl (Nat.le_of_ble_eq_true rfl) dX4_set_2 ⟨(Nat.le_of_ble_eq_true rfl), (Nat.le_of_ble_eq_true rfl)⟩ (fun x_3 σ_2 H locs h1 hM hS => ?_)
  replace h := h1
  clear h1
  refine lv_if_eq (tgt := 17) hx hb dX4_set_5 (by decide) (fun hc => ?_) (fun hc => ?_)
  · replace h := h.1 hc
    refine lv_iconst (v := (-1)) hx hb dX4_set_17 (by decide) ?_
    refine lv_goto (tgt := 42) hx hb dX4_set_18 (by decide) ?_
    exact W.iret (v := (-1)) hx hb hr (fun t_ ht hW => ⟨⟨_, _, rfl, h, mB_of ht hM⟩, hS.F ht⟩) hS.2.2 dX4_set_42
  · replace h := h.2 hc
    refine lv_iload_n hx hb dX4_set_8 rfl (lv_at hl 2 rfl) ?_
    refine lv_iconst (v := 0) hx hb dX4_set_9 (by decide) ?_
    refine lv_iconst (v := 1) hx hb dX4_set_10 (by decide) ?_
    refine clSi (As := [.int x2, .int 0, .int 1]) (rest := []) ⟨hx, hb, hml, hown, hts⟩ hM hE hS (ok_X4_in l D cs A x2 0 1 _ _ h) (va_cwS 3 hts gX4_set_X4_in rfl rfl rfl (by decide +kernel) ⟨(Nat.le_of_ble_eq_true rfl), (Nat.le_of_ble_eq_true rfl)⟩) rfl hl.1 rfl (Nat.le_of_ble_eq_true rfl) dX4_set_11 ⟨(Nat.le_of_ble_eq_true rfl), (Nat.le_of_ble_eq_true rfl)⟩ (fun x_5 σ_4 H locs h1 hM hS => ?_)
    replace h := h1
    clear h1
    refine lv_if_ne (tgt := 21) hx hb dX4_set_14 (by decide) (fun hc => ?_) (fun hc => ?_)
    · replace h := h.1 hc
      refine lv_iload_n hx hb dX4_set_21 rfl (lv_at hl 2 rfl) ?_
      refine lv_if_ne (tgt := 36) hx hb dX4_set_22 (by decide) (fun hc => ?_) (fun hc => ?_)
      · replace h := h.1 hc
        refine lv_aload_n hx hb dX4_set_36 rfl (lv_at hl 0 rfl) ?_
        refine lv_iload_n hx hb dX4_set_37 rfl (lv_at hl 1 rfl) ?_
        refine lv_iconst (v := (-1)) hx hb dX4_set_38 (by decide) ?_
        obtain ⟨hk_6, h⟩ := h
        refine clVi (C := RX4) (b := t) (As := [.int x1, .int (-1)]) (rest := []) ⟨hx, hb, hml, hown, hts⟩ hM hE hS (ok_X4_likesOf l D cs A t x1 (-1) _ _ h) (cwV 2 hts gX4_set_X4_likesOf rfl rfl rfl (by decide +kernel) ⟨(Nat.le_of_ble_eq_true rfl), (Nat.le_of_ble_eq_true rfl)⟩) (rc4 hM hE.1 hk_6) rfl hl.1 rfl (Nat.le_of_ble_eq_true rfl) dX4_set_39 ⟨(Nat.le_of_ble_eq_true rfl), (Nat.le_of_ble_eq_true rfl)⟩ (fun x_8 σ_7 H locs h1 hM hS => ?_)
        replace h := h1
        clear h1
        exact W.iret (v := x_8) hx hb hr (fun t_ ht hW => ⟨⟨_, _, rfl, h, mB_of ht hM⟩, hS.F ht⟩) hS.2.2 dX4_set_42
      · replace h := h.2 hc
        refine lv_aload_n hx hb dX4_set_25 rfl (lv_at hl 0 rfl) ?_
        refine lv_iload_n hx hb dX4_set_26 rfl (lv_at hl 1 rfl) ?_
        obtain ⟨hk_9, h⟩ := h
        refine clVl (C := RX4) (b := t) (As := [.int x1]) (rest := []) ⟨hx, hb, hml, hown, hts⟩ hM hE hS (ok_X4_setOf l D cs A t x1 _ _ h) (cwV 1 hts gX4_set_X4_setOf rfl rfl rfl (by decide +kernel) ⟨(Nat.le_of_ble_eq_true rfl), (Nat.le_of_ble_eq_true rfl)⟩) (rc4 hM hE.1 hk_9) rfl hl.1 rfl (Nat.le_of_ble_eq_true rfl) dX4_set_27 ⟨(Nat.le_of_ble_eq_true rfl), (Nat.le_of_ble_eq_true rfl)⟩ (fun y_11 σ_10 H locs h1 hM hS => ?_)
        replace h := h1
        clear h1
        refine clSi (As := [.long y_11]) (rest := []) ⟨hx, hb, hml, hown, hts⟩ hM hE hS (ok_X4_bits l D cs A y_11 _ _ h) (va_cwS 1 hts gX4_set_X4_bits rfl rfl rfl (by decide +kernel) ⟨(Nat.le_of_ble_eq_true rfl), (Nat.le_of_ble_eq_true rfl)⟩) rfl hl.1 rfl (Nat.le_of_ble_eq_true rfl) dX4_set_30 ⟨(Nat.le_of_ble_eq_true rfl), (Nat.le_of_ble_eq_true rfl)⟩ (fun x_13 σ_12 H locs h1 hM hS => ?_)
        replace h := h1
        clear h1
        refine lv_goto (tgt := 42) hx hb dX4_set_33 (by decide) ?_
        exact W.iret (v := x_13) hx hb hr (fun t_ ht hW => ⟨⟨_, _, rfl, h, mB_of ht hM⟩, hS.F ht⟩) hS.2.2 dX4_set_42
    · replace h := h.2 hc
      refine lv_iconst (v := (-1)) hx hb dX4_set_17 (by decide) ?_
      refine lv_goto (tgt := 42) hx hb dX4_set_18 (by decide) ?_
      exact W.iret (v := (-1)) hx hb hr (fun t_ ht hW => ⟨⟨_, _, rfl, h, mB_of ht hM⟩, hS.F ht⟩) hS.2.2 dX4_set_42
end S_X4_set
set_option maxHeartbeats 4000000 in
set_option maxRecDepth 100000 in
theorem ok_X4_set (l : Launch) (D : va_G) (cs : CS) (A : Nat → Prop) (t : Nat) (x1 : Int32) (x2 : Int32) (σ : MM) (k : Int32 → MM → Prop) (h : wX4_set t x1 x2 σ k) : Met l yX4_set wsX4_set rmX4_set (va_Pc [.ref t, .int x1, .int x2] (mP D cs A σ)) (va_Qi k (mB D cs A) A) 0 0 A := by
  refine Met.ofW (cc := cX4_set) (maxL := 3) (ret := (some .int)) (by decide) rfl ?_
  intro p e s m args below meth c s₁ B hml hv
  obtain ⟨rfl, hM, hE⟩ := hv
  have CX : CXM p s m _ meth c cX4_set 3 (some .int) "set" RX4 wsX4_set D cs A := ⟨B.exec, B.bytes, hml, B.returns, (name_of_methodNamed B.named B.method).1, findClass_of_methodNamed B.named, atoms_spec (ws := wsX4_set) B.pre, B.notSynchronized, hE⟩
  have hl := lv_entry ([.ref t, .int x1, .int x2]) (n := 3) (Nat.le_of_ble_eq_true rfl)
  rw [lg_entry_eq]
  exact oX4_set_0 CX x1 x2 σ _ _ _ h hM va_S.rf hl
/-! WorkCoderModel.isRule(I)Z -/
abbrev rmX4_isRule : Room := { frames := 1, cells := 0, slots := 0, locals := 22 }
theorem inX4_isRule_4 : ∀ w ∈ wsX40, w ∈ wsX4_isRule := fun _ h => List.mem_cons_of_mem _ (List.mem_append_right _ (h))
section S_X4_isRule
variable {p : Program} {l : Launch} {e : Env} {s : State} {m : MethodId} {args : Array Value} {below : List Frame} {meth : Method} {c : Code} {D : va_G} {cs : CS} {A : Nat → Prop}
set_option maxHeartbeats 4000000 in
set_option maxRecDepth 100000 in
theorem oX4_isRule_0 {k : Int32 → MM → Prop} {t : Nat} (CX : CXM p s m args meth c cX4_isRule 2 (some .boolean) "isRule" RX4 wsX4_isRule D cs A) : ∀ (x1 : Int32) (σ : MM) (H : Heap) (locs : List Loc) (ls : Array Slot), wX4_isRule t x1 σ k → PH D cs A σ H → va_S A s.heap H locs → lv_has ls 2 [(0, .ref t), (1, .int x1)] → W p l e (headSpec wsX4_isRule rmX4_isRule).room s m args below meth c H locs 0 0 (MQ below (va_Qi k (mB D cs A) A) args s 0 0 A) (F0 m 0 ls []) := by
  intro x1 σ H locs ls h hM hS hl
  have ⟨hx, hb, hml, hr, hnm, hown, hts, hlocks, hE⟩ := CX
  unfold wX4_isRule at h
  refine lv_iload_n hx hb dX4_isRule_0 rfl (lv_at hl 1 rfl) ?_
  refine lv_iconst (v := 0) hx hb dX4_isRule_1 (by decide) ?_
  refine lv_aload_n hx hb dX4_isRule_2 rfl (lv_at hl 0 rfl) ?_
  obtain ⟨hk_1, h⟩ := h
  refine gf4_18 hx hb hts inX4_isRule_4 hown hE.1 hM hk_1 (hts (.fieldLink RX4 142 "WorkCoderModel" "rules" "I") (by decide +kernel)) dX4_isRule_3 ?_
  refine lv_iconst (v := 1) hx hb dX4_isRule_6 (by decide) ?_
  refine lv_isub hx hb dX4_isRule_7 ?_
  refine clSi (As := [.int x1, .int 0, .int ((mI σ t 18) - 1)]) (rest := []) ⟨hx, hb, hml, hown, hts⟩ hM hE hS (ok_X4_in l D cs A x1 0 ((mI σ t 18) - 1) _ _ h) (va_cwS 3 hts gX4_isRule_X4_in rfl rfl rfl (by decide +kernel) ⟨(Nat.le_of_ble_eq_true rfl), (Nat.le_of_ble_eq_true rfl)⟩) rfl hl.1 rfl (Nat.le_of_ble_eq_true rfl) dX4_isRule_8 ⟨(Nat.le_of_ble_eq_true rfl), (Nat.le_of_ble_eq_true rfl)⟩ (fun x_3 σ_2 H locs h1 hM hS => ?_)
  replace h := h1
  clear h1
  obtain ⟨hz_4, h⟩ := h
  exact W.zret (v := x_3) (ty := .boolean) hx hb hr (bz_narrow hz_4) (fun t_ ht hW => ⟨⟨_, _, rfl, h, mB_of ht hM⟩, hS.F ht⟩) hS.2.2 dX4_isRule_11
end S_X4_isRule
set_option maxHeartbeats 4000000 in
set_option maxRecDepth 100000 in
theorem ok_X4_isRule (l : Launch) (D : va_G) (cs : CS) (A : Nat → Prop) (t : Nat) (x1 : Int32) (σ : MM) (k : Int32 → MM → Prop) (h : wX4_isRule t x1 σ k) : Met l yX4_isRule wsX4_isRule rmX4_isRule (va_Pc [.ref t, .int x1] (mP D cs A σ)) (va_Qi k (mB D cs A) A) 0 0 A := by
  refine Met.ofW (cc := cX4_isRule) (maxL := 2) (ret := (some .boolean)) (by decide) rfl ?_
  intro p e s m args below meth c s₁ B hml hv
  obtain ⟨rfl, hM, hE⟩ := hv
  have CX : CXM p s m _ meth c cX4_isRule 2 (some .boolean) "isRule" RX4 wsX4_isRule D cs A := ⟨B.exec, B.bytes, hml, B.returns, (name_of_methodNamed B.named B.method).1, findClass_of_methodNamed B.named, atoms_spec (ws := wsX4_isRule) B.pre, B.notSynchronized, hE⟩
  have hl := lv_entry ([.ref t, .int x1]) (n := 2) (Nat.le_of_ble_eq_true rfl)
  rw [lg_entry_eq]
  exact oX4_isRule_0 CX x1 σ _ _ _ h hM va_S.rf hl
/-! WorkCoderModel.rule(III)I -/
abbrev rmX4_rule : Room := { frames := 2, cells := 0, slots := 0, locals := 43 }
theorem inX4_rule_4 : ∀ w ∈ wsX40, w ∈ wsX4_rule := fun _ h => List.mem_cons_of_mem _ (List.mem_append_right _ (h))
section S_X4_rule
variable {p : Program} {l : Launch} {e : Env} {s : State} {m : MethodId} {args : Array Value} {below : List Frame} {meth : Method} {c : Code} {D : va_G} {cs : CS} {A : Nat → Prop}
set_option maxHeartbeats 4000000 in
set_option maxRecDepth 100000 in
theorem oX4_rule_0 {k : Int32 → MM → Prop} {t : Nat} (CX : CXM p s m args meth c cX4_rule 4 (some .int) "rule" RX4 wsX4_rule D cs A) : ∀ (x1 : Int32) (x2 : Int32) (x3 : Int32) (σ : MM) (H : Heap) (locs : List Loc) (ls : Array Slot), wX4_rule t x1 x2 x3 σ k → PH D cs A σ H → va_S A s.heap H locs → lv_has ls 4 [(0, .ref t), (1, .int x1), (2, .int x2), (3, .int x3)] → W p l e (headSpec wsX4_rule rmX4_rule).room s m args below meth c H locs 0 0 (MQ below (va_Qi k (mB D cs A) A) args s 0 0 A) (F0 m 0 ls []) := by
  intro x1 x2 x3 σ H locs ls h hM hS hl
  have ⟨hx, hb, hml, hr, hnm, hown, hts, hlocks, hE⟩ := CX
  unfold wX4_rule at h
  refine lv_iload_n hx hb dX4_rule_0 rfl (lv_at hl 1 rfl) ?_
  refine lv_iconst (v := 0) hx hb dX4_rule_1 (by decide) ?_
  refine lv_bipush (v := 9) hx hb dX4_rule_2 (by decide) ?_
  refine clSi (As := [.int x1, .int 0, .int 9]) (rest := []) ⟨hx, hb, hml, hown, hts⟩ hM hE hS (ok_X4_in l D cs A x1 0 9 _ _ h) (va_cwS 3 hts gX4_rule_X4_in rfl rfl rfl (by decide +kernel) ⟨(Nat.le_of_ble_eq_true rfl), (Nat.le_of_ble_eq_true rfl)⟩) rfl hl.1 rfl (Nat.le_of_ble_eq_true rfl) dX4_rule_4 ⟨(Nat.le_of_ble_eq_true rfl), (Nat.le_of_ble_eq_true rfl)⟩ (fun x_2 σ_1 H locs h1 hM hS => ?_)
  replace h := h1
  clear h1
  refine lv_if_eq (tgt := 29) hx hb dX4_rule_7 (by decide) (fun hc => ?_) (fun hc => ?_)
  · replace h := h.1 hc
    refine lv_iconst (v := (-1)) hx hb dX4_rule_29 (by decide) ?_
    exact W.iret (v := (-1)) hx hb hr (fun t_ ht hW => ⟨⟨_, _, rfl, h, mB_of ht hM⟩, hS.F ht⟩) hS.2.2 dX4_rule_30
  · replace h := h.2 hc
    refine lv_aload_n hx hb dX4_rule_10 rfl (lv_at hl 0 rfl) ?_
    refine lv_iload_n hx hb dX4_rule_11 rfl (lv_at hl 2 rfl) ?_
    obtain ⟨hk_3, h⟩ := h
    refine clVi (C := RX4) (b := t) (As := [.int x2]) (rest := []) ⟨hx, hb, hml, hown, hts⟩ hM hE hS (ok_X4_isCode l D cs A t x2 _ _ h) (cwV 1 hts gX4_rule_X4_isCode rfl rfl rfl (by decide +kernel) ⟨(Nat.le_of_ble_eq_true rfl), (Nat.le_of_ble_eq_true rfl)⟩) (rc4 hM hE.1 hk_3) rfl hl.1 rfl (Nat.le_of_ble_eq_true rfl) dX4_rule_12 ⟨(Nat.le_of_ble_eq_true rfl), (Nat.le_of_ble_eq_true rfl)⟩ (fun x_5 σ_4 H locs h1 hM hS => ?_)
    replace h := h1
    clear h1
    refine lv_if_eq (tgt := 29) hx hb dX4_rule_15 (by decide) (fun hc => ?_) (fun hc => ?_)
    · replace h := h.1 hc
      refine lv_iconst (v := (-1)) hx hb dX4_rule_29 (by decide) ?_
      exact W.iret (v := (-1)) hx hb hr (fun t_ ht hW => ⟨⟨_, _, rfl, h, mB_of ht hM⟩, hS.F ht⟩) hS.2.2 dX4_rule_30
    · replace h := h.2 hc
      refine lv_iload_n hx hb dX4_rule_18 rfl (lv_at hl 3 rfl) ?_
      refine lv_iconst (v := 0) hx hb dX4_rule_19 (by decide) ?_
      refine lv_sipush (v := 1023) hx hb dX4_rule_20 (by decide) ?_
      refine clSi (As := [.int x3, .int 0, .int 1023]) (rest := []) ⟨hx, hb, hml, hown, hts⟩ hM hE hS (ok_X4_in l D cs A x3 0 1023 _ _ h) (va_cwS 3 hts gX4_rule_X4_in rfl rfl rfl (by decide +kernel) ⟨(Nat.le_of_ble_eq_true rfl), (Nat.le_of_ble_eq_true rfl)⟩) rfl hl.1 rfl (Nat.le_of_ble_eq_true rfl) dX4_rule_23 ⟨(Nat.le_of_ble_eq_true rfl), (Nat.le_of_ble_eq_true rfl)⟩ (fun x_7 σ_6 H locs h1 hM hS => ?_)
      replace h := h1
      clear h1
      refine lv_if_ne (tgt := 31) hx hb dX4_rule_26 (by decide) (fun hc => ?_) (fun hc => ?_)
      · replace h := h.1 hc
        refine lv_aload_n hx hb dX4_rule_31 rfl (lv_at hl 0 rfl) ?_
        obtain ⟨hk_8, h⟩ := h
        refine gf4_18 hx hb hts inX4_rule_4 hown hE.1 hM hk_8 (hts (.fieldLink RX4 142 "WorkCoderModel" "rules" "I") (by decide +kernel)) dX4_rule_32 ?_
        refine lv_bipush (v := 40) hx hb dX4_rule_35 (by decide) ?_
        refine lv_icmp_ne (tgt := 43) hx hb dX4_rule_37 (by decide) (fun hc => ?_) (fun hc => ?_)
        · replace h := h.1 hc
          refine lv_aload_n hx hb dX4_rule_43 rfl (lv_at hl 0 rfl) ?_
          refine gf4_19 hx hb hts inX4_rule_4 hown hE.1 hM hk_8 (hts (.fieldLink RX4 61 "WorkCoderModel" "rank" "[I") (by decide +kernel)) dX4_rule_44 (fun r_9 er_9 => ?_)
          replace h := h r_9 er_9
          clear er_9
          refine lv_aload_n hx hb dX4_rule_47 rfl (lv_at hl 0 rfl) ?_
          refine gf4_18 hx hb hts inX4_rule_4 hown hE.1 hM hk_8 (hts (.fieldLink RX4 142 "WorkCoderModel" "rules" "I") (by decide +kernel)) dX4_rule_48 ?_
          refine lv_iload_n hx hb dX4_rule_51 rfl (lv_at hl 1 rfl) ?_
          obtain ⟨a_10, rfl, h⟩ := h
          obtain ⟨hk_11, h⟩ := h
          obtain ⟨hv_12, h⟩ := h
          refine mm_iast hx hb hE.1 hM hS hk_11 hv_12 dX4_rule_52 (fun H locs hM hS => ?_)
          replace h := h _ rfl
          refine lv_aload_n hx hb dX4_rule_53 rfl (lv_at hl 0 rfl) ?_
          refine gf4_20 hx hb hts inX4_rule_4 hown hE.1 hM hk_8 (hts (.fieldLink RX4 64 "WorkCoderModel" "ruleCode" "[I") (by decide +kernel)) dX4_rule_54 (fun r_14 er_14 => ?_)
          replace h := h r_14 er_14
          clear er_14
          refine lv_aload_n hx hb dX4_rule_57 rfl (lv_at hl 0 rfl) ?_
          refine gf4_18 hx hb hts inX4_rule_4 hown hE.1 hM hk_8 (hts (.fieldLink RX4 142 "WorkCoderModel" "rules" "I") (by decide +kernel)) dX4_rule_58 ?_
          refine lv_iload_n hx hb dX4_rule_61 rfl (lv_at hl 2 rfl) ?_
          obtain ⟨a_15, rfl, h⟩ := h
          obtain ⟨hk_16, h⟩ := h
          obtain ⟨hv_17, h⟩ := h
          refine mm_iast hx hb hE.1 hM hS hk_16 hv_17 dX4_rule_62 (fun H locs hM hS => ?_)
          replace h := h _ rfl
          refine lv_aload_n hx hb dX4_rule_63 rfl (lv_at hl 0 rfl) ?_
          refine gf4_21 hx hb hts inX4_rule_4 hown hE.1 hM hk_8 (hts (.fieldLink RX4 67 "WorkCoderModel" "trades" "[I") (by decide +kernel)) dX4_rule_64 (fun r_19 er_19 => ?_)
          replace h := h r_19 er_19
          clear er_19
          refine lv_aload_n hx hb dX4_rule_67 rfl (lv_at hl 0 rfl) ?_
          refine gf4_18 hx hb hts inX4_rule_4 hown hE.1 hM hk_8 (hts (.fieldLink RX4 142 "WorkCoderModel" "rules" "I") (by decide +kernel)) dX4_rule_68 ?_
          refine lv_iload_n hx hb dX4_rule_71 rfl (lv_at hl 3 rfl) ?_
          obtain ⟨a_20, rfl, h⟩ := h
          obtain ⟨hk_21, h⟩ := h
          obtain ⟨hv_22, h⟩ := h
          refine mm_iast hx hb hE.1 hM hS hk_21 hv_22 dX4_rule_72 (fun H locs hM hS => ?_)
          replace h := h _ rfl
          refine lv_aload_n hx hb dX4_rule_73 rfl (lv_at hl 0 rfl) ?_
          refine lv_dup hx hb dX4_rule_74 rfl ?_
          refine gf4_18 hx hb hts inX4_rule_4 hown hE.1 hM hk_8 (hts (.fieldLink RX4 142 "WorkCoderModel" "rules" "I") (by decide +kernel)) dX4_rule_75 ?_
          refine lv_iconst (v := 1) hx hb dX4_rule_78 (by decide) ?_
          refine lv_iadd hx hb dX4_rule_79 ?_
          refine pf4_18 hx hb hts inX4_rule_4 hown hE.1 hM hS hk_8 (hts (.fieldLink RX4 142 "WorkCoderModel" "rules" "I") (by decide +kernel)) dX4_rule_80 (fun H locs hM hS => ?_)
          replace h := h _ rfl
          refine lv_aload_n hx hb dX4_rule_83 rfl (lv_at hl 0 rfl) ?_
          refine gf4_18 hx hb hts inX4_rule_4 hown hE.1 hM hk_8 (hts (.fieldLink RX4 142 "WorkCoderModel" "rules" "I") (by decide +kernel)) dX4_rule_84 ?_
          refine lv_iconst (v := 1) hx hb dX4_rule_87 (by decide) ?_
          refine lv_isub hx hb dX4_rule_88 ?_
          exact W.iret (v := (mI (sI (sI (sI (sI σ_6 a_10 (ix (mI σ_6 t 18)) x1) a_15 (ix (mI (sI σ_6 a_10 (ix (mI σ_6 t 18)) x1) t 18)) x2) a_20 (ix (mI (sI (sI σ_6 a_10 (ix (mI σ_6 t 18)) x1) a_15 (ix (mI (sI σ_6 a_10 (ix (mI σ_6 t 18)) x1) t 18)) x2) t 18)) x3) t 18 ((mI (sI (sI (sI σ_6 a_10 (ix (mI σ_6 t 18)) x1) a_15 (ix (mI (sI σ_6 a_10 (ix (mI σ_6 t 18)) x1) t 18)) x2) a_20 (ix (mI (sI (sI σ_6 a_10 (ix (mI σ_6 t 18)) x1) a_15 (ix (mI (sI σ_6 a_10 (ix (mI σ_6 t 18)) x1) t 18)) x2) t 18)) x3) t 18) + 1)) t 18) - 1) hx hb hr (fun t_ ht hW => ⟨⟨_, _, rfl, h, mB_of ht hM⟩, hS.F ht⟩) hS.2.2 dX4_rule_89
        · replace h := h.2 hc
          refine lv_bipush (v := (-3)) hx hb dX4_rule_40 (by decide) ?_
          exact W.iret (v := (-3)) hx hb hr (fun t_ ht hW => ⟨⟨_, _, rfl, h, mB_of ht hM⟩, hS.F ht⟩) hS.2.2 dX4_rule_42
      · replace h := h.2 hc
        refine lv_iconst (v := (-1)) hx hb dX4_rule_29 (by decide) ?_
        exact W.iret (v := (-1)) hx hb hr (fun t_ ht hW => ⟨⟨_, _, rfl, h, mB_of ht hM⟩, hS.F ht⟩) hS.2.2 dX4_rule_30
end S_X4_rule
set_option maxHeartbeats 4000000 in
set_option maxRecDepth 100000 in
theorem ok_X4_rule (l : Launch) (D : va_G) (cs : CS) (A : Nat → Prop) (t : Nat) (x1 : Int32) (x2 : Int32) (x3 : Int32) (σ : MM) (k : Int32 → MM → Prop) (h : wX4_rule t x1 x2 x3 σ k) : Met l yX4_rule wsX4_rule rmX4_rule (va_Pc [.ref t, .int x1, .int x2, .int x3] (mP D cs A σ)) (va_Qi k (mB D cs A) A) 0 0 A := by
  refine Met.ofW (cc := cX4_rule) (maxL := 4) (ret := (some .int)) (by decide) rfl ?_
  intro p e s m args below meth c s₁ B hml hv
  obtain ⟨rfl, hM, hE⟩ := hv
  have CX : CXM p s m _ meth c cX4_rule 4 (some .int) "rule" RX4 wsX4_rule D cs A := ⟨B.exec, B.bytes, hml, B.returns, (name_of_methodNamed B.named B.method).1, findClass_of_methodNamed B.named, atoms_spec (ws := wsX4_rule) B.pre, B.notSynchronized, hE⟩
  have hl := lv_entry ([.ref t, .int x1, .int x2, .int x3]) (n := 4) (Nat.le_of_ble_eq_true rfl)
  rw [lg_entry_eq]
  exact oX4_rule_0 CX x1 x2 x3 σ _ _ _ h hM va_S.rf hl
/-! WorkCoderModel.with(III)I -/
abbrev rmX4_with : Room := { frames := 2, cells := 0, slots := 0, locals := 43 }
theorem inX4_with_4 : ∀ w ∈ wsX40, w ∈ wsX4_with := fun _ h => List.mem_cons_of_mem _ (List.mem_append_right _ (h))
section S_X4_with
variable {p : Program} {l : Launch} {e : Env} {s : State} {m : MethodId} {args : Array Value} {below : List Frame} {meth : Method} {c : Code} {D : va_G} {cs : CS} {A : Nat → Prop}
set_option maxHeartbeats 4000000 in
set_option maxRecDepth 100000 in
theorem oX4_with_113 {k : Int32 → MM → Prop} {t : Nat} (CX : CXM p s m args meth c cX4_with 5 (some .int) "with" RX4 wsX4_with D cs A) : ∀ (x1 : Int32) (x2 : Int32) (x3 : Int32) (x4 : Int32) (z0 : Option Nat) (z1 : Int32) (z2 : Int64) (σ : MM) (H : Heap) (locs : List Loc) (ls : Array Slot), wX4_with_113 k t  x1 x2 x3 x4 z0 z1 z2 σ → PH D cs A σ H → va_S A s.heap H locs → lv_has ls 5 [(0, .ref t), (1, .int x1), (2, .int x2), (3, .int x3), (4, .int x4)] → W p l e (headSpec wsX4_with rmX4_with).room s m args below meth c H locs 0 0 (MQ below (va_Qi k (mB D cs A) A) args s 0 0 A) (F0 m 113 ls [.long z2, .int z1, va_rf z0]) := by
  intro x1 x2 x3 x4 z0 z1 z2 σ H locs ls h hM hS hl
  have ⟨hx, hb, hml, hr, hnm, hown, hts, hlocks, hE⟩ := CX
  unfold wX4_with_113 at h
  obtain ⟨a_1, rfl, h⟩ := h
  obtain ⟨hk_2, h⟩ := h
  obtain ⟨hv_3, h⟩ := h
  refine mm_last hx hb hE.1 hM hS hk_2 hv_3 dX4_with_113 (fun H locs hM hS => ?_)
  replace h := h _ rfl
  refine lv_aload_n hx hb dX4_with_114 rfl (lv_at hl 0 rfl) ?_
  obtain ⟨hk_5, h⟩ := h
  refine gf4_23 hx hb hts inX4_with_4 hown hE.1 hM hk_5 (hts (.fieldLink RX4 73 "WorkCoderModel" "barred" "[J") (by decide +kernel)) dX4_with_115 (fun r_6 er_6 => ?_)
  replace h := h r_6 er_6
  clear er_6
  refine lv_iload_n hx hb dX4_with_118 rfl (lv_at hl 1 rfl) ?_
  refine lv_iload_n hx hb dX4_with_119 rfl (lv_at hl 3 rfl) ?_
  refine lv_iconst (v := 2) hx hb dX4_with_120 (by decide) ?_
  refine lv_icmp_ne (tgt := 137) hx hb dX4_with_121 (by decide) (fun hc => ?_) (fun hc => ?_)
  · replace h := h.1 hc
    refine lv_aload_n hx hb dX4_with_137 rfl (lv_at hl 0 rfl) ?_
    refine gf4_23 hx hb hts inX4_with_4 hown hE.1 hM hk_5 (hts (.fieldLink RX4 73 "WorkCoderModel" "barred" "[J") (by decide +kernel)) dX4_with_138 (fun r_7 er_7 => ?_)
    replace h := h r_7 er_7
    clear er_7
    refine lv_iload_n hx hb dX4_with_141 rfl (lv_at hl 1 rfl) ?_
    obtain ⟨a_8, rfl, h⟩ := h
    obtain ⟨hk_9, h⟩ := h
    obtain ⟨hv_10, h⟩ := h
    refine mm_lald hx hb hE.1 hM hk_9 hv_10 dX4_with_142 ?_
    refine lv_lconst (v := 1) hx hb dX4_with_143 (by decide) ?_
    refine lv_iload_n hx hb dX4_with_144 rfl (lv_at hl 2 rfl) ?_
    refine lv_lshl hx hb dX4_with_145 (v := lShl (1 : Int64) x2) rfl ?_
    refine lv_ldc2 (v := (-1)) hx hb hown (hts (.constantLong RX4 111 (-1)) (by decide +kernel)) dX4_with_146 ?_
    refine lv_lxor hx hb dX4_with_149 ?_
    refine lv_land hx hb dX4_with_150 ?_
    obtain ⟨a_11, rfl, h⟩ := h
    obtain ⟨hk_12, h⟩ := h
    obtain ⟨hv_13, h⟩ := h
    refine mm_last hx hb hE.1 hM hS hk_12 hv_13 dX4_with_151 (fun H locs hM hS => ?_)
    replace h := h _ rfl
    refine lv_iload hx hb dX4_with_152 (lv_at hl 4 rfl) ?_
    exact W.iret (v := x4) hx hb hr (fun t_ ht hW => ⟨⟨_, _, rfl, h, mB_of ht hM⟩, hS.F ht⟩) hS.2.2 dX4_with_154
  · replace h := h.2 hc
    refine lv_aload_n hx hb dX4_with_124 rfl (lv_at hl 0 rfl) ?_
    refine gf4_23 hx hb hts inX4_with_4 hown hE.1 hM hk_5 (hts (.fieldLink RX4 73 "WorkCoderModel" "barred" "[J") (by decide +kernel)) dX4_with_125 (fun r_15 er_15 => ?_)
    replace h := h r_15 er_15
    clear er_15
    refine lv_iload_n hx hb dX4_with_128 rfl (lv_at hl 1 rfl) ?_
    obtain ⟨a_16, rfl, h⟩ := h
    obtain ⟨hk_17, h⟩ := h
    obtain ⟨hv_18, h⟩ := h
    refine mm_lald hx hb hE.1 hM hk_17 hv_18 dX4_with_129 ?_
    refine lv_lconst (v := 1) hx hb dX4_with_130 (by decide) ?_
    refine lv_iload_n hx hb dX4_with_131 rfl (lv_at hl 2 rfl) ?_
    refine lv_lshl hx hb dX4_with_132 (v := lShl (1 : Int64) x2) rfl ?_
    refine lv_lor hx hb dX4_with_133 ?_
    refine lv_goto (tgt := 151) hx hb dX4_with_134 (by decide) ?_
    obtain ⟨a_19, rfl, h⟩ := h
    obtain ⟨hk_20, h⟩ := h
    obtain ⟨hv_21, h⟩ := h
    refine mm_last hx hb hE.1 hM hS hk_20 hv_21 dX4_with_151 (fun H locs hM hS => ?_)
    replace h := h _ rfl
    refine lv_iload hx hb dX4_with_152 (lv_at hl 4 rfl) ?_
    exact W.iret (v := x4) hx hb hr (fun t_ ht hW => ⟨⟨_, _, rfl, h, mB_of ht hM⟩, hS.F ht⟩) hS.2.2 dX4_with_154
set_option maxHeartbeats 4000000 in
set_option maxRecDepth 100000 in
theorem oX4_with_74 {k : Int32 → MM → Prop} {t : Nat} (CX : CXM p s m args meth c cX4_with 5 (some .int) "with" RX4 wsX4_with D cs A) : ∀ (x1 : Int32) (x2 : Int32) (x3 : Int32) (z0 : Int32) (σ : MM) (H : Heap) (locs : List Loc) (ls : Array Slot), wX4_with_74 k t  x1 x2 x3 z0 σ → PH D cs A σ H → va_S A s.heap H locs → lv_has ls 5 [(0, .ref t), (1, .int x1), (2, .int x2), (3, .int x3)] → W p l e (headSpec wsX4_with rmX4_with).room s m args below meth c H locs 0 0 (MQ below (va_Qi k (mB D cs A) A) args s 0 0 A) (F0 m 74 ls [.int z0]) := by
  intro x1 x2 x3 z0 σ H locs ls h hM hS hl
  have ⟨hx, hb, hml, hr, hnm, hown, hts, hlocks, hE⟩ := CX
  unfold wX4_with_74 at h
  refine lv_istore (i := 4) (lv' := [(4, .int z0), (0, .ref t), (1, .int x1), (2, .int x2), (3, .int x3)]) hx hb dX4_with_74 hl (by decide) rfl (fun ls hl => ?_)
  refine lv_aload_n hx hb dX4_with_76 rfl (lv_at hl 1 rfl) ?_
  obtain ⟨hk_1, h⟩ := h
  refine gf4_22 hx hb hts inX4_with_4 hown hE.1 hM hk_1 (hts (.fieldLink RX4 70 "WorkCoderModel" "needed" "[J") (by decide +kernel)) dX4_with_77 (fun r_2 er_2 => ?_)
  replace h := h r_2 er_2
  clear er_2
  refine lv_iload_n hx hb dX4_with_80 rfl (lv_at hl 2 rfl) ?_
  refine lv_iload_n hx hb dX4_with_81 rfl (lv_at hl 4 rfl) ?_
  refine lv_iconst (v := 1) hx hb dX4_with_82 (by decide) ?_
  refine lv_icmp_ne (tgt := 99) hx hb dX4_with_83 (by decide) (fun hc => ?_) (fun hc => ?_)
  · replace h := h.1 hc
    refine lv_aload_n hx hb dX4_with_99 rfl (lv_at hl 1 rfl) ?_
    refine gf4_22 hx hb hts inX4_with_4 hown hE.1 hM hk_1 (hts (.fieldLink RX4 70 "WorkCoderModel" "needed" "[J") (by decide +kernel)) dX4_with_100 (fun r_3 er_3 => ?_)
    replace h := h r_3 er_3
    clear er_3
    refine lv_iload_n hx hb dX4_with_103 rfl (lv_at hl 2 rfl) ?_
    obtain ⟨a_4, rfl, h⟩ := h
    obtain ⟨hk_5, h⟩ := h
    obtain ⟨hv_6, h⟩ := h
    refine mm_lald hx hb hE.1 hM hk_5 hv_6 dX4_with_104 ?_
    refine lv_lconst (v := 1) hx hb dX4_with_105 (by decide) ?_
    refine lv_iload_n hx hb dX4_with_106 rfl (lv_at hl 3 rfl) ?_
    refine lv_lshl hx hb dX4_with_107 (v := lShl (1 : Int64) x2) rfl ?_
    refine lv_ldc2 (v := (-1)) hx hb hown (hts (.constantLong RX4 111 (-1)) (by decide +kernel)) dX4_with_108 ?_
    refine lv_lxor hx hb dX4_with_111 ?_
    refine lv_land hx hb dX4_with_112 ?_
    exact oX4_with_113 CX  _ _ _ _ _ _ _ _ _ _ _ h hM hS (lv_sub hl [1, 2, 3, 4, 0] rfl)
  · replace h := h.2 hc
    refine lv_aload_n hx hb dX4_with_86 rfl (lv_at hl 1 rfl) ?_
    refine gf4_22 hx hb hts inX4_with_4 hown hE.1 hM hk_1 (hts (.fieldLink RX4 70 "WorkCoderModel" "needed" "[J") (by decide +kernel)) dX4_with_87 (fun r_7 er_7 => ?_)
    replace h := h r_7 er_7
    clear er_7
    refine lv_iload_n hx hb dX4_with_90 rfl (lv_at hl 2 rfl) ?_
    obtain ⟨a_8, rfl, h⟩ := h
    obtain ⟨hk_9, h⟩ := h
    obtain ⟨hv_10, h⟩ := h
    refine mm_lald hx hb hE.1 hM hk_9 hv_10 dX4_with_91 ?_
    refine lv_lconst (v := 1) hx hb dX4_with_92 (by decide) ?_
    refine lv_iload_n hx hb dX4_with_93 rfl (lv_at hl 3 rfl) ?_
    refine lv_lshl hx hb dX4_with_94 (v := lShl (1 : Int64) x2) rfl ?_
    refine lv_lor hx hb dX4_with_95 ?_
    refine lv_goto (tgt := 113) hx hb dX4_with_96 (by decide) ?_
    exact oX4_with_113 CX  _ _ _ _ _ _ _ _ _ _ _ h hM hS (lv_sub hl [1, 2, 3, 4, 0] rfl)
set_option maxHeartbeats 4000000 in
set_option maxRecDepth 100000 in
theorem oX4_with_0 {k : Int32 → MM → Prop} {t : Nat} (CX : CXM p s m args meth c cX4_with 5 (some .int) "with" RX4 wsX4_with D cs A) : ∀ (x1 : Int32) (x2 : Int32) (x3 : Int32) (σ : MM) (H : Heap) (locs : List Loc) (ls : Array Slot), wX4_with t x1 x2 x3 σ k → PH D cs A σ H → va_S A s.heap H locs → lv_has ls 5 [(0, .ref t), (1, .int x1), (2, .int x2), (3, .int x3)] → W p l e (headSpec wsX4_with rmX4_with).room s m args below meth c H locs 0 0 (MQ below (va_Qi k (mB D cs A) A) args s 0 0 A) (F0 m 0 ls []) := by
  intro x1 x2 x3 σ H locs ls h hM hS hl
  have ⟨hx, hb, hml, hr, hnm, hown, hts, hlocks, hE⟩ := CX
  unfold wX4_with at h
  refine lv_aload_n hx hb dX4_with_0 rfl (lv_at hl 0 rfl) ?_
  refine lv_iload_n hx hb dX4_with_1 rfl (lv_at hl 1 rfl) ?_
  obtain ⟨hk_1, h⟩ := h
  refine clVi (C := RX4) (b := t) (As := [.int x1]) (rest := []) ⟨hx, hb, hml, hown, hts⟩ hM hE hS (ok_X4_isRule l D cs A t x1 _ _ h) (cwV 1 hts gX4_with_X4_isRule rfl rfl rfl (by decide +kernel) ⟨(Nat.le_of_ble_eq_true rfl), (Nat.le_of_ble_eq_true rfl)⟩) (rc4 hM hE.1 hk_1) rfl hl.1 rfl (Nat.le_of_ble_eq_true rfl) dX4_with_2 ⟨(Nat.le_of_ble_eq_true rfl), (Nat.le_of_ble_eq_true rfl)⟩ (fun x_3 σ_2 H locs h1 hM hS => ?_)
  replace h := h1
  clear h1
  refine lv_if_eq (tgt := 33) hx hb dX4_with_5 (by decide) (fun hc => ?_) (fun hc => ?_)
  · replace h := h.1 hc
    refine lv_iconst (v := (-1)) hx hb dX4_with_33 (by decide) ?_
    exact W.iret (v := (-1)) hx hb hr (fun t_ ht hW => ⟨⟨_, _, rfl, h, mB_of ht hM⟩, hS.F ht⟩) hS.2.2 dX4_with_34
  · replace h := h.2 hc
    refine lv_iload_n hx hb dX4_with_8 rfl (lv_at hl 2 rfl) ?_
    refine clSi (As := [.int x2]) (rest := []) ⟨hx, hb, hml, hown, hts⟩ hM hE hS (ok_X4_isWord l D cs A x2 _ _ h) (va_cwS 1 hts gX4_with_X4_isWord rfl rfl rfl (by decide +kernel) ⟨(Nat.le_of_ble_eq_true rfl), (Nat.le_of_ble_eq_true rfl)⟩) rfl hl.1 rfl (Nat.le_of_ble_eq_true rfl) dX4_with_9 ⟨(Nat.le_of_ble_eq_true rfl), (Nat.le_of_ble_eq_true rfl)⟩ (fun x_5 σ_4 H locs h1 hM hS => ?_)
    replace h := h1
    clear h1
    refine lv_if_eq (tgt := 33) hx hb dX4_with_12 (by decide) (fun hc => ?_) (fun hc => ?_)
    · replace h := h.1 hc
      refine lv_iconst (v := (-1)) hx hb dX4_with_33 (by decide) ?_
      exact W.iret (v := (-1)) hx hb hr (fun t_ ht hW => ⟨⟨_, _, rfl, h, mB_of ht hM⟩, hS.F ht⟩) hS.2.2 dX4_with_34
    · replace h := h.2 hc
      refine lv_iload_n hx hb dX4_with_15 rfl (lv_at hl 3 rfl) ?_
      refine lv_iconst (v := 0) hx hb dX4_with_16 (by decide) ?_
      refine lv_iconst (v := 2) hx hb dX4_with_17 (by decide) ?_
      refine clSi (As := [.int x3, .int 0, .int 2]) (rest := []) ⟨hx, hb, hml, hown, hts⟩ hM hE hS (ok_X4_in l D cs A x3 0 2 _ _ h) (va_cwS 3 hts gX4_with_X4_in rfl rfl rfl (by decide +kernel) ⟨(Nat.le_of_ble_eq_true rfl), (Nat.le_of_ble_eq_true rfl)⟩) rfl hl.1 rfl (Nat.le_of_ble_eq_true rfl) dX4_with_18 ⟨(Nat.le_of_ble_eq_true rfl), (Nat.le_of_ble_eq_true rfl)⟩ (fun x_7 σ_6 H locs h1 hM hS => ?_)
      replace h := h1
      clear h1
      refine lv_if_eq (tgt := 33) hx hb dX4_with_21 (by decide) (fun hc => ?_) (fun hc => ?_)
      · replace h := h.1 hc
        refine lv_iconst (v := (-1)) hx hb dX4_with_33 (by decide) ?_
        exact W.iret (v := (-1)) hx hb hr (fun t_ ht hW => ⟨⟨_, _, rfl, h, mB_of ht hM⟩, hS.F ht⟩) hS.2.2 dX4_with_34
      · replace h := h.2 hc
        refine lv_aload_n hx hb dX4_with_24 rfl (lv_at hl 0 rfl) ?_
        obtain ⟨hk_8, h⟩ := h
        refine gf4_24 hx hb hts inX4_with_4 hown hE.1 hM hk_8 (hts (.fieldLink RX4 76 "WorkCoderModel" "dropped" "[Z") (by decide +kernel)) dX4_with_25 (fun r_9 er_9 => ?_)
        replace h := h r_9 er_9
        clear er_9
        refine lv_iload_n hx hb dX4_with_28 rfl (lv_at hl 1 rfl) ?_
        obtain ⟨a_10, rfl, h⟩ := h
        obtain ⟨hk_11, h⟩ := h
        obtain ⟨hv_12, h⟩ := h
        refine mm_zald hx hb hE.1 hM hk_11 hv_12 dX4_with_29 ?_
        refine lv_if_eq (tgt := 35) hx hb dX4_with_30 (by decide) (fun hc => ?_) (fun hc => ?_)
        · replace h := h.1 hc
          refine lv_aload_n hx hb dX4_with_35 rfl (lv_at hl 0 rfl) ?_
          refine gf4_22 hx hb hts inX4_with_4 hown hE.1 hM hk_8 (hts (.fieldLink RX4 70 "WorkCoderModel" "needed" "[J") (by decide +kernel)) dX4_with_36 (fun r_13 er_13 => ?_)
          replace h := h r_13 er_13
          clear er_13
          refine lv_iload_n hx hb dX4_with_39 rfl (lv_at hl 1 rfl) ?_
          obtain ⟨a_14, rfl, h⟩ := h
          obtain ⟨hk_15, h⟩ := h
          obtain ⟨hv_16, h⟩ := h
          refine mm_lald hx hb hE.1 hM hk_15 hv_16 dX4_with_40 ?_
          refine lv_iload_n hx hb dX4_with_41 rfl (lv_at hl 2 rfl) ?_
          refine lv_lshr hx hb dX4_with_42 (v := lShr (mL σ_6 a_14 (ix x1)) x2) rfl ?_
          refine lv_lconst (v := 1) hx hb dX4_with_43 (by decide) ?_
          refine lv_land hx hb dX4_with_44 ?_
          refine lv_lconst (v := 1) hx hb dX4_with_45 (by decide) ?_
          refine lc_ne (tgt := 54) hx hb dX4_with_46 dX4_with_47 (by decide) (fun hc => ?_) (fun hc => ?_)
          · replace h := h.1 hc
            refine lv_aload_n hx hb dX4_with_54 rfl (lv_at hl 0 rfl) ?_
            refine gf4_23 hx hb hts inX4_with_4 hown hE.1 hM hk_8 (hts (.fieldLink RX4 73 "WorkCoderModel" "barred" "[J") (by decide +kernel)) dX4_with_55 (fun r_17 er_17 => ?_)
            replace h := h r_17 er_17
            clear er_17
            refine lv_iload_n hx hb dX4_with_58 rfl (lv_at hl 1 rfl) ?_
            obtain ⟨a_18, rfl, h⟩ := h
            obtain ⟨hk_19, h⟩ := h
            obtain ⟨hv_20, h⟩ := h
            refine mm_lald hx hb hE.1 hM hk_19 hv_20 dX4_with_59 ?_
            refine lv_iload_n hx hb dX4_with_60 rfl (lv_at hl 2 rfl) ?_
            refine lv_lshr hx hb dX4_with_61 (v := lShr (mL σ_6 a_18 (ix x1)) x2) rfl ?_
            refine lv_lconst (v := 1) hx hb dX4_with_62 (by decide) ?_
            refine lv_land hx hb dX4_with_63 ?_
            refine lv_lconst (v := 1) hx hb dX4_with_64 (by decide) ?_
            refine lc_ne (tgt := 73) hx hb dX4_with_65 dX4_with_66 (by decide) (fun hc => ?_) (fun hc => ?_)
            · replace h := h.1 hc
              refine lv_iconst (v := 0) hx hb dX4_with_73 (by decide) ?_
              exact oX4_with_74 CX  _ _ _ _ _ _ _ _ h hM hS (lv_sub hl [0, 1, 2, 3] rfl)
            · replace h := h.2 hc
              refine lv_iconst (v := 2) hx hb dX4_with_69 (by decide) ?_
              refine lv_goto (tgt := 74) hx hb dX4_with_70 (by decide) ?_
              exact oX4_with_74 CX  _ _ _ _ _ _ _ _ h hM hS (lv_sub hl [0, 1, 2, 3] rfl)
          · replace h := h.2 hc
            refine lv_iconst (v := 1) hx hb dX4_with_50 (by decide) ?_
            refine lv_goto (tgt := 74) hx hb dX4_with_51 (by decide) ?_
            exact oX4_with_74 CX  _ _ _ _ _ _ _ _ h hM hS (lv_sub hl [0, 1, 2, 3] rfl)
        · replace h := h.2 hc
          refine lv_iconst (v := (-1)) hx hb dX4_with_33 (by decide) ?_
          exact W.iret (v := (-1)) hx hb hr (fun t_ ht hW => ⟨⟨_, _, rfl, h, mB_of ht hM⟩, hS.F ht⟩) hS.2.2 dX4_with_34
end S_X4_with
set_option maxHeartbeats 4000000 in
set_option maxRecDepth 100000 in
theorem ok_X4_with (l : Launch) (D : va_G) (cs : CS) (A : Nat → Prop) (t : Nat) (x1 : Int32) (x2 : Int32) (x3 : Int32) (σ : MM) (k : Int32 → MM → Prop) (h : wX4_with t x1 x2 x3 σ k) : Met l yX4_with wsX4_with rmX4_with (va_Pc [.ref t, .int x1, .int x2, .int x3] (mP D cs A σ)) (va_Qi k (mB D cs A) A) 0 0 A := by
  refine Met.ofW (cc := cX4_with) (maxL := 5) (ret := (some .int)) (by decide) rfl ?_
  intro p e s m args below meth c s₁ B hml hv
  obtain ⟨rfl, hM, hE⟩ := hv
  have CX : CXM p s m _ meth c cX4_with 5 (some .int) "with" RX4 wsX4_with D cs A := ⟨B.exec, B.bytes, hml, B.returns, (name_of_methodNamed B.named B.method).1, findClass_of_methodNamed B.named, atoms_spec (ws := wsX4_with) B.pre, B.notSynchronized, hE⟩
  have hl := lv_entry ([.ref t, .int x1, .int x2, .int x3]) (n := 5) (Nat.le_of_ble_eq_true rfl)
  rw [lg_entry_eq]
  exact oX4_with_0 CX x1 x2 x3 σ _ _ _ h hM va_S.rf hl
/-! WorkCoderModel.drop(I)I -/
abbrev rmX4_drop : Room := { frames := 2, cells := 0, slots := 0, locals := 43 }
theorem inX4_drop_4 : ∀ w ∈ wsX40, w ∈ wsX4_drop := fun _ h => List.mem_cons_of_mem _ (List.mem_append_right _ (h))
section S_X4_drop
variable {p : Program} {l : Launch} {e : Env} {s : State} {m : MethodId} {args : Array Value} {below : List Frame} {meth : Method} {c : Code} {D : va_G} {cs : CS} {A : Nat → Prop}
set_option maxHeartbeats 4000000 in
set_option maxRecDepth 100000 in
theorem oX4_drop_0 {k : Int32 → MM → Prop} {t : Nat} (CX : CXM p s m args meth c cX4_drop 2 (some .int) "drop" RX4 wsX4_drop D cs A) : ∀ (x1 : Int32) (σ : MM) (H : Heap) (locs : List Loc) (ls : Array Slot), wX4_drop t x1 σ k → PH D cs A σ H → va_S A s.heap H locs → lv_has ls 2 [(0, .ref t), (1, .int x1)] → W p l e (headSpec wsX4_drop rmX4_drop).room s m args below meth c H locs 0 0 (MQ below (va_Qi k (mB D cs A) A) args s 0 0 A) (F0 m 0 ls []) := by
  intro x1 σ H locs ls h hM hS hl
  have ⟨hx, hb, hml, hr, hnm, hown, hts, hlocks, hE⟩ := CX
  unfold wX4_drop at h
  refine lv_aload_n hx hb dX4_drop_0 rfl (lv_at hl 0 rfl) ?_
  refine lv_iload_n hx hb dX4_drop_1 rfl (lv_at hl 1 rfl) ?_
  obtain ⟨hk_1, h⟩ := h
  refine clVi (C := RX4) (b := t) (As := [.int x1]) (rest := []) ⟨hx, hb, hml, hown, hts⟩ hM hE hS (ok_X4_isRule l D cs A t x1 _ _ h) (cwV 1 hts gX4_drop_X4_isRule rfl rfl rfl (by decide +kernel) ⟨(Nat.le_of_ble_eq_true rfl), (Nat.le_of_ble_eq_true rfl)⟩) (rc4 hM hE.1 hk_1) rfl hl.1 rfl (Nat.le_of_ble_eq_true rfl) dX4_drop_2 ⟨(Nat.le_of_ble_eq_true rfl), (Nat.le_of_ble_eq_true rfl)⟩ (fun x_3 σ_2 H locs h1 hM hS => ?_)
  replace h := h1
  clear h1
  refine lv_if_ne (tgt := 10) hx hb dX4_drop_5 (by decide) (fun hc => ?_) (fun hc => ?_)
  · replace h := h.1 hc
    refine lv_aload_n hx hb dX4_drop_10 rfl (lv_at hl 0 rfl) ?_
    obtain ⟨hk_4, h⟩ := h
    refine gf4_24 hx hb hts inX4_drop_4 hown hE.1 hM hk_4 (hts (.fieldLink RX4 76 "WorkCoderModel" "dropped" "[Z") (by decide +kernel)) dX4_drop_11 (fun r_5 er_5 => ?_)
    replace h := h r_5 er_5
    clear er_5
    refine lv_iload_n hx hb dX4_drop_14 rfl (lv_at hl 1 rfl) ?_
    obtain ⟨a_6, rfl, h⟩ := h
    obtain ⟨hk_7, h⟩ := h
    obtain ⟨hv_8, h⟩ := h
    refine mm_zald hx hb hE.1 hM hk_7 hv_8 dX4_drop_15 ?_
    refine lv_if_eq (tgt := 22) hx hb dX4_drop_16 (by decide) (fun hc => ?_) (fun hc => ?_)
    · replace h := h.1 hc
      refine lv_aload_n hx hb dX4_drop_22 rfl (lv_at hl 0 rfl) ?_
      refine gf4_24 hx hb hts inX4_drop_4 hown hE.1 hM hk_4 (hts (.fieldLink RX4 76 "WorkCoderModel" "dropped" "[Z") (by decide +kernel)) dX4_drop_23 (fun r_9 er_9 => ?_)
      replace h := h r_9 er_9
      clear er_9
      refine lv_iload_n hx hb dX4_drop_26 rfl (lv_at hl 1 rfl) ?_
      refine lv_iconst (v := 1) hx hb dX4_drop_27 (by decide) ?_
      obtain ⟨a_10, rfl, h⟩ := h
      obtain ⟨hk_11, h⟩ := h
      obtain ⟨hv_12, h⟩ := h
      refine mm_zast hx hb hE.1 hM hS hk_11 hv_12 (by decide +kernel) dX4_drop_28 (fun H locs hM hS => ?_)
      replace h := h _ rfl
      refine lv_iconst (v := 1) hx hb dX4_drop_29 (by decide) ?_
      exact W.iret (v := 1) hx hb hr (fun t_ ht hW => ⟨⟨_, _, rfl, h, mB_of ht hM⟩, hS.F ht⟩) hS.2.2 dX4_drop_30
    · replace h := h.2 hc
      refine lv_bipush (v := (-2)) hx hb dX4_drop_19 (by decide) ?_
      exact W.iret (v := (-2)) hx hb hr (fun t_ ht hW => ⟨⟨_, _, rfl, h, mB_of ht hM⟩, hS.F ht⟩) hS.2.2 dX4_drop_21
  · replace h := h.2 hc
    refine lv_iconst (v := (-1)) hx hb dX4_drop_8 (by decide) ?_
    exact W.iret (v := (-1)) hx hb hr (fun t_ ht hW => ⟨⟨_, _, rfl, h, mB_of ht hM⟩, hS.F ht⟩) hS.2.2 dX4_drop_9
end S_X4_drop
set_option maxHeartbeats 4000000 in
set_option maxRecDepth 100000 in
theorem ok_X4_drop (l : Launch) (D : va_G) (cs : CS) (A : Nat → Prop) (t : Nat) (x1 : Int32) (σ : MM) (k : Int32 → MM → Prop) (h : wX4_drop t x1 σ k) : Met l yX4_drop wsX4_drop rmX4_drop (va_Pc [.ref t, .int x1] (mP D cs A σ)) (va_Qi k (mB D cs A) A) 0 0 A := by
  refine Met.ofW (cc := cX4_drop) (maxL := 2) (ret := (some .int)) (by decide) rfl ?_
  intro p e s m args below meth c s₁ B hml hv
  obtain ⟨rfl, hM, hE⟩ := hv
  have CX : CXM p s m _ meth c cX4_drop 2 (some .int) "drop" RX4 wsX4_drop D cs A := ⟨B.exec, B.bytes, hml, B.returns, (name_of_methodNamed B.named B.method).1, findClass_of_methodNamed B.named, atoms_spec (ws := wsX4_drop) B.pre, B.notSynchronized, hE⟩
  have hl := lv_entry ([.ref t, .int x1]) (n := 2) (Nat.le_of_ble_eq_true rfl)
  rw [lg_entry_eq]
  exact oX4_drop_0 CX x1 σ _ _ _ h hM va_S.rf hl
/-! WorkCoderModel.doesHold(IJI)Z -/
abbrev rmX4_doesHold : Room := { frames := 0, cells := 0, slots := 0, locals := 0 }
theorem inX4_doesHold_4 : ∀ w ∈ wsX40, w ∈ wsX4_doesHold := fun _ h => List.mem_cons_of_mem _ (List.mem_append_right _ (h))
section S_X4_doesHold
variable {p : Program} {l : Launch} {e : Env} {s : State} {m : MethodId} {args : Array Value} {below : List Frame} {meth : Method} {c : Code} {D : va_G} {cs : CS} {A : Nat → Prop}
set_option maxHeartbeats 4000000 in
set_option maxRecDepth 100000 in
theorem oX4_doesHold_0 {k : Int32 → MM → Prop} {t : Nat} (CX : CXM p s m args meth c cX4_doesHold 5 (some .boolean) "doesHold" RX4 wsX4_doesHold D cs A) : ∀ (x1 : Int32) (y2 : Int64) (x4 : Int32) (σ : MM) (H : Heap) (locs : List Loc) (ls : Array Slot), wX4_doesHold t x1 y2 x4 σ k → PH D cs A σ H → va_S A s.heap H locs → lv_has ls 5 [(0, .ref t), (1, .int x1), (2, .long y2), (4, .int x4)] → W p l e (headSpec wsX4_doesHold rmX4_doesHold).room s m args below meth c H locs 0 0 (MQ below (va_Qi k (mB D cs A) A) args s 0 0 A) (F0 m 0 ls []) := by
  intro x1 y2 x4 σ H locs ls h hM hS hl
  have ⟨hx, hb, hml, hr, hnm, hown, hts, hlocks, hE⟩ := CX
  unfold wX4_doesHold at h
  refine lv_aload_n hx hb dX4_doesHold_0 rfl (lv_at hl 0 rfl) ?_
  obtain ⟨hk_1, h⟩ := h
  refine gf4_24 hx hb hts inX4_doesHold_4 hown hE.1 hM hk_1 (hts (.fieldLink RX4 76 "WorkCoderModel" "dropped" "[Z") (by decide +kernel)) dX4_doesHold_1 (fun r_2 er_2 => ?_)
  replace h := h r_2 er_2
  clear er_2
  refine lv_iload_n hx hb dX4_doesHold_4 rfl (lv_at hl 1 rfl) ?_
  obtain ⟨a_3, rfl, h⟩ := h
  obtain ⟨hk_4, h⟩ := h
  obtain ⟨hv_5, h⟩ := h
  refine mm_zald hx hb hE.1 hM hk_4 hv_5 dX4_doesHold_5 ?_
  refine lv_if_ne (tgt := 58) hx hb dX4_doesHold_6 (by decide) (fun hc => ?_) (fun hc => ?_)
  · replace h := h.1 hc
    refine lv_iconst (v := 0) hx hb dX4_doesHold_58 (by decide) ?_
    exact W.zret (v := 0) (ty := .boolean) hx hb hr rfl (fun t_ ht hW => ⟨⟨_, _, rfl, h, mB_of ht hM⟩, hS.F ht⟩) hS.2.2 dX4_doesHold_59
  · replace h := h.2 hc
    refine lv_aload_n hx hb dX4_doesHold_9 rfl (lv_at hl 0 rfl) ?_
    refine gf4_21 hx hb hts inX4_doesHold_4 hown hE.1 hM hk_1 (hts (.fieldLink RX4 67 "WorkCoderModel" "trades" "[I") (by decide +kernel)) dX4_doesHold_10 (fun r_6 er_6 => ?_)
    replace h := h r_6 er_6
    clear er_6
    refine lv_iload_n hx hb dX4_doesHold_13 rfl (lv_at hl 1 rfl) ?_
    obtain ⟨a_7, rfl, h⟩ := h
    obtain ⟨hk_8, h⟩ := h
    obtain ⟨hv_9, h⟩ := h
    refine mm_iald hx hb hE.1 hM hk_8 hv_9 dX4_doesHold_14 ?_
    refine lv_iload hx hb dX4_doesHold_15 (lv_at hl 3 rfl) ?_
    refine lv_ishr hx hb dX4_doesHold_17 ?_
    refine lv_iconst (v := 1) hx hb dX4_doesHold_18 (by decide) ?_
    refine lv_iand hx hb dX4_doesHold_19 ?_
    refine lv_iconst (v := 1) hx hb dX4_doesHold_20 (by decide) ?_
    refine lv_icmp_ne (tgt := 58) hx hb dX4_doesHold_21 (by decide) (fun hc => ?_) (fun hc => ?_)
    · replace h := h.1 hc
      refine lv_iconst (v := 0) hx hb dX4_doesHold_58 (by decide) ?_
      exact W.zret (v := 0) (ty := .boolean) hx hb hr rfl (fun t_ ht hW => ⟨⟨_, _, rfl, h, mB_of ht hM⟩, hS.F ht⟩) hS.2.2 dX4_doesHold_59
    · replace h := h.2 hc
      refine lv_aload_n hx hb dX4_doesHold_24 rfl (lv_at hl 0 rfl) ?_
      refine gf4_22 hx hb hts inX4_doesHold_4 hown hE.1 hM hk_1 (hts (.fieldLink RX4 70 "WorkCoderModel" "needed" "[J") (by decide +kernel)) dX4_doesHold_25 (fun r_10 er_10 => ?_)
      replace h := h r_10 er_10
      clear er_10
      refine lv_iload_n hx hb dX4_doesHold_28 rfl (lv_at hl 1 rfl) ?_
      obtain ⟨a_11, rfl, h⟩ := h
      obtain ⟨hk_12, h⟩ := h
      obtain ⟨hv_13, h⟩ := h
      refine mm_lald hx hb hE.1 hM hk_12 hv_13 dX4_doesHold_29 ?_
      refine lv_lload_n hx hb dX4_doesHold_30 rfl (lv_at hl 2 rfl) ?_
      refine lv_ldc2 (v := (-1)) hx hb hown (hts (.constantLong RX4 111 (-1)) (by decide +kernel)) dX4_doesHold_31 ?_
      refine lv_lxor hx hb dX4_doesHold_34 ?_
      refine lv_land hx hb dX4_doesHold_35 ?_
      refine lv_lconst (v := 0) hx hb dX4_doesHold_36 (by decide) ?_
      refine lc_ne (tgt := 58) hx hb dX4_doesHold_37 dX4_doesHold_38 (by decide) (fun hc => ?_) (fun hc => ?_)
      · replace h := h.1 hc
        refine lv_iconst (v := 0) hx hb dX4_doesHold_58 (by decide) ?_
        exact W.zret (v := 0) (ty := .boolean) hx hb hr rfl (fun t_ ht hW => ⟨⟨_, _, rfl, h, mB_of ht hM⟩, hS.F ht⟩) hS.2.2 dX4_doesHold_59
      · replace h := h.2 hc
        refine lv_aload_n hx hb dX4_doesHold_41 rfl (lv_at hl 0 rfl) ?_
        refine gf4_23 hx hb hts inX4_doesHold_4 hown hE.1 hM hk_1 (hts (.fieldLink RX4 73 "WorkCoderModel" "barred" "[J") (by decide +kernel)) dX4_doesHold_42 (fun r_14 er_14 => ?_)
        replace h := h r_14 er_14
        clear er_14
        refine lv_iload_n hx hb dX4_doesHold_45 rfl (lv_at hl 1 rfl) ?_
        obtain ⟨a_15, rfl, h⟩ := h
        obtain ⟨hk_16, h⟩ := h
        obtain ⟨hv_17, h⟩ := h
        refine mm_lald hx hb hE.1 hM hk_16 hv_17 dX4_doesHold_46 ?_
        refine lv_lload_n hx hb dX4_doesHold_47 rfl (lv_at hl 2 rfl) ?_
        refine lv_land hx hb dX4_doesHold_48 ?_
        refine lv_lconst (v := 0) hx hb dX4_doesHold_49 (by decide) ?_
        refine lc_ne (tgt := 58) hx hb dX4_doesHold_50 dX4_doesHold_51 (by decide) (fun hc => ?_) (fun hc => ?_)
        · replace h := h.1 hc
          refine lv_iconst (v := 0) hx hb dX4_doesHold_58 (by decide) ?_
          exact W.zret (v := 0) (ty := .boolean) hx hb hr rfl (fun t_ ht hW => ⟨⟨_, _, rfl, h, mB_of ht hM⟩, hS.F ht⟩) hS.2.2 dX4_doesHold_59
        · replace h := h.2 hc
          refine lv_iconst (v := 1) hx hb dX4_doesHold_54 (by decide) ?_
          refine lv_goto (tgt := 59) hx hb dX4_doesHold_55 (by decide) ?_
          exact W.zret (v := 1) (ty := .boolean) hx hb hr rfl (fun t_ ht hW => ⟨⟨_, _, rfl, h, mB_of ht hM⟩, hS.F ht⟩) hS.2.2 dX4_doesHold_59
end S_X4_doesHold
set_option maxHeartbeats 4000000 in
set_option maxRecDepth 100000 in
theorem ok_X4_doesHold (l : Launch) (D : va_G) (cs : CS) (A : Nat → Prop) (t : Nat) (x1 : Int32) (y2 : Int64) (x4 : Int32) (σ : MM) (k : Int32 → MM → Prop) (h : wX4_doesHold t x1 y2 x4 σ k) : Met l yX4_doesHold wsX4_doesHold rmX4_doesHold (va_Pc [.ref t, .int x1, .long y2, .int x4] (mP D cs A σ)) (va_Qi k (mB D cs A) A) 0 0 A := by
  refine Met.ofW (cc := cX4_doesHold) (maxL := 5) (ret := (some .boolean)) (by decide) rfl ?_
  intro p e s m args below meth c s₁ B hml hv
  obtain ⟨rfl, hM, hE⟩ := hv
  have CX : CXM p s m _ meth c cX4_doesHold 5 (some .boolean) "doesHold" RX4 wsX4_doesHold D cs A := ⟨B.exec, B.bytes, hml, B.returns, (name_of_methodNamed B.named B.method).1, findClass_of_methodNamed B.named, atoms_spec (ws := wsX4_doesHold) B.pre, B.notSynchronized, hE⟩
  have hl := lv_entry ([.ref t, .int x1, .long y2, .int x4]) (n := 5) (Nat.le_of_ble_eq_true rfl)
  rw [lg_entry_eq]
  exact oX4_doesHold_0 CX x1 y2 x4 σ _ _ _ h hM va_S.rf hl
/-! WorkCoderModel.holds(II)I -/
abbrev rmX4_holds : Room := { frames := 2, cells := 0, slots := 0, locals := 43 }
theorem inX4_holds_4 : ∀ w ∈ wsX40, w ∈ wsX4_holds := fun _ h => List.mem_cons_of_mem _ (List.mem_append_right _ (h))
section S_X4_holds
variable {p : Program} {l : Launch} {e : Env} {s : State} {m : MethodId} {args : Array Value} {below : List Frame} {meth : Method} {c : Code} {D : va_G} {cs : CS} {A : Nat → Prop}
set_option maxHeartbeats 4000000 in
set_option maxRecDepth 100000 in
theorem oX4_holds_0 {k : Int32 → MM → Prop} {t : Nat} (CX : CXM p s m args meth c cX4_holds 3 (some .int) "holds" RX4 wsX4_holds D cs A) : ∀ (x1 : Int32) (x2 : Int32) (σ : MM) (H : Heap) (locs : List Loc) (ls : Array Slot), wX4_holds t x1 x2 σ k → PH D cs A σ H → va_S A s.heap H locs → lv_has ls 3 [(0, .ref t), (1, .int x1), (2, .int x2)] → W p l e (headSpec wsX4_holds rmX4_holds).room s m args below meth c H locs 0 0 (MQ below (va_Qi k (mB D cs A) A) args s 0 0 A) (F0 m 0 ls []) := by
  intro x1 x2 σ H locs ls h hM hS hl
  have ⟨hx, hb, hml, hr, hnm, hown, hts, hlocks, hE⟩ := CX
  unfold wX4_holds at h
  refine lv_aload_n hx hb dX4_holds_0 rfl (lv_at hl 0 rfl) ?_
  refine lv_iload_n hx hb dX4_holds_1 rfl (lv_at hl 1 rfl) ?_
  obtain ⟨hk_1, h⟩ := h
  refine clVi (C := RX4) (b := t) (As := [.int x1]) (rest := []) ⟨hx, hb, hml, hown, hts⟩ hM hE hS (ok_X4_isRule l D cs A t x1 _ _ h) (cwV 1 hts gX4_holds_X4_isRule rfl rfl rfl (by decide +kernel) ⟨(Nat.le_of_ble_eq_true rfl), (Nat.le_of_ble_eq_true rfl)⟩) (rc4 hM hE.1 hk_1) rfl hl.1 rfl (Nat.le_of_ble_eq_true rfl) dX4_holds_2 ⟨(Nat.le_of_ble_eq_true rfl), (Nat.le_of_ble_eq_true rfl)⟩ (fun x_3 σ_2 H locs h1 hM hS => ?_)
  replace h := h1
  clear h1
  refine lv_if_eq (tgt := 16) hx hb dX4_holds_5 (by decide) (fun hc => ?_) (fun hc => ?_)
  · replace h := h.1 hc
    refine lv_iconst (v := (-1)) hx hb dX4_holds_16 (by decide) ?_
    refine lv_goto (tgt := 46) hx hb dX4_holds_17 (by decide) ?_
    exact W.iret (v := (-1)) hx hb hr (fun t_ ht hW => ⟨⟨_, _, rfl, h, mB_of ht hM⟩, hS.F ht⟩) hS.2.2 dX4_holds_46
  · replace h := h.2 hc
    refine lv_aload_n hx hb dX4_holds_8 rfl (lv_at hl 0 rfl) ?_
    refine lv_iload_n hx hb dX4_holds_9 rfl (lv_at hl 2 rfl) ?_
    obtain ⟨hk_4, h⟩ := h
    refine clVi (C := RX4) (b := t) (As := [.int x2]) (rest := []) ⟨hx, hb, hml, hown, hts⟩ hM hE hS (ok_X4_isItem l D cs A t x2 _ _ h) (cwV 1 hts gX4_holds_X4_isItem rfl rfl rfl (by decide +kernel) ⟨(Nat.le_of_ble_eq_true rfl), (Nat.le_of_ble_eq_true rfl)⟩) (rc4 hM hE.1 hk_4) rfl hl.1 rfl (Nat.le_of_ble_eq_true rfl) dX4_holds_10 ⟨(Nat.le_of_ble_eq_true rfl), (Nat.le_of_ble_eq_true rfl)⟩ (fun x_6 σ_5 H locs h1 hM hS => ?_)
    replace h := h1
    clear h1
    refine lv_if_ne (tgt := 20) hx hb dX4_holds_13 (by decide) (fun hc => ?_) (fun hc => ?_)
    · replace h := h.1 hc
      refine lv_aload_n hx hb dX4_holds_20 rfl (lv_at hl 0 rfl) ?_
      refine lv_iload_n hx hb dX4_holds_21 rfl (lv_at hl 1 rfl) ?_
      refine lv_aload_n hx hb dX4_holds_22 rfl (lv_at hl 0 rfl) ?_
      refine lv_iload_n hx hb dX4_holds_23 rfl (lv_at hl 2 rfl) ?_
      obtain ⟨hk_7, h⟩ := h
      refine clVl (C := RX4) (b := t) (As := [.int x2]) (rest := [.int x1, .ref t]) ⟨hx, hb, hml, hown, hts⟩ hM hE hS (ok_X4_setOf l D cs A t x2 _ _ h) (cwV 1 hts gX4_holds_X4_setOf rfl rfl rfl (by decide +kernel) ⟨(Nat.le_of_ble_eq_true rfl), (Nat.le_of_ble_eq_true rfl)⟩) (rc4 hM hE.1 hk_7) rfl hl.1 rfl (Nat.le_of_ble_eq_true rfl) dX4_holds_24 ⟨(Nat.le_of_ble_eq_true rfl), (Nat.le_of_ble_eq_true rfl)⟩ (fun y_9 σ_8 H locs h1 hM hS => ?_)
      replace h := h1
      clear h1
      refine lv_aload_n hx hb dX4_holds_27 rfl (lv_at hl 0 rfl) ?_
      obtain ⟨hk_10, h⟩ := h
      refine gf4_10 hx hb hts inX4_holds_4 hown hE.1 hM hk_10 (hts (.fieldLink RX4 37 "WorkCoderModel" "trade" "[I") (by decide +kernel)) dX4_holds_28 (fun r_11 er_11 => ?_)
      replace h := h r_11 er_11
      clear er_11
      refine lv_iload_n hx hb dX4_holds_31 rfl (lv_at hl 2 rfl) ?_
      refine lv_iconst (v := 2) hx hb dX4_holds_32 (by decide) ?_
      refine lv_idiv hx hb dX4_holds_33 (by decide) ?_
      obtain ⟨a_12, rfl, h⟩ := h
      obtain ⟨hk_13, h⟩ := h
      obtain ⟨hv_14, h⟩ := h
      refine mm_iald hx hb hE.1 hM hk_13 hv_14 dX4_holds_34 ?_
      refine clVi (C := RX4) (b := t) (As := [.int x1, .long y_9, .int (mI σ_8 a_12 (ix (x2 / 2)))]) (rest := []) ⟨hx, hb, hml, hown, hts⟩ hM hE hS (ok_X4_doesHold l D cs A t x1 y_9 (mI σ_8 a_12 (ix (x2 / 2))) _ _ h) (cwV 3 hts gX4_holds_X4_doesHold rfl rfl rfl (by decide +kernel) ⟨(Nat.le_of_ble_eq_true rfl), (Nat.le_of_ble_eq_true rfl)⟩) (rc4 hM hE.1 hk_10) rfl hl.1 rfl (Nat.le_of_ble_eq_true rfl) dX4_holds_35 ⟨(Nat.le_of_ble_eq_true rfl), (Nat.le_of_ble_eq_true rfl)⟩ (fun x_16 σ_15 H locs h1 hM hS => ?_)
      replace h := h1
      clear h1
      refine lv_if_eq (tgt := 45) hx hb dX4_holds_38 (by decide) (fun hc => ?_) (fun hc => ?_)
      · replace h := h.1 hc
        refine lv_iconst (v := 0) hx hb dX4_holds_45 (by decide) ?_
        exact W.iret (v := 0) hx hb hr (fun t_ ht hW => ⟨⟨_, _, rfl, h, mB_of ht hM⟩, hS.F ht⟩) hS.2.2 dX4_holds_46
      · replace h := h.2 hc
        refine lv_iconst (v := 1) hx hb dX4_holds_41 (by decide) ?_
        refine lv_goto (tgt := 46) hx hb dX4_holds_42 (by decide) ?_
        exact W.iret (v := 1) hx hb hr (fun t_ ht hW => ⟨⟨_, _, rfl, h, mB_of ht hM⟩, hS.F ht⟩) hS.2.2 dX4_holds_46
    · replace h := h.2 hc
      refine lv_iconst (v := (-1)) hx hb dX4_holds_16 (by decide) ?_
      refine lv_goto (tgt := 46) hx hb dX4_holds_17 (by decide) ?_
      exact W.iret (v := (-1)) hx hb hr (fun t_ ht hW => ⟨⟨_, _, rfl, h, mB_of ht hM⟩, hS.F ht⟩) hS.2.2 dX4_holds_46
end S_X4_holds
set_option maxHeartbeats 4000000 in
set_option maxRecDepth 100000 in
theorem ok_X4_holds (l : Launch) (D : va_G) (cs : CS) (A : Nat → Prop) (t : Nat) (x1 : Int32) (x2 : Int32) (σ : MM) (k : Int32 → MM → Prop) (h : wX4_holds t x1 x2 σ k) : Met l yX4_holds wsX4_holds rmX4_holds (va_Pc [.ref t, .int x1, .int x2] (mP D cs A σ)) (va_Qi k (mB D cs A) A) 0 0 A := by
  refine Met.ofW (cc := cX4_holds) (maxL := 3) (ret := (some .int)) (by decide) rfl ?_
  intro p e s m args below meth c s₁ B hml hv
  obtain ⟨rfl, hM, hE⟩ := hv
  have CX : CXM p s m _ meth c cX4_holds 3 (some .int) "holds" RX4 wsX4_holds D cs A := ⟨B.exec, B.bytes, hml, B.returns, (name_of_methodNamed B.named B.method).1, findClass_of_methodNamed B.named, atoms_spec (ws := wsX4_holds) B.pre, B.notSynchronized, hE⟩
  have hl := lv_entry ([.ref t, .int x1, .int x2]) (n := 3) (Nat.le_of_ble_eq_true rfl)
  rw [lg_entry_eq]
  exact oX4_holds_0 CX x1 x2 σ _ _ _ h hM va_S.rf hl
/-! WorkCoderModel.byRules(II)I -/
abbrev rmX4_byRules : Room := { frames := 1, cells := 0, slots := 0, locals := 24 }
theorem inX4_byRules_4 : ∀ w ∈ wsX40, w ∈ wsX4_byRules := fun _ h => List.mem_cons_of_mem _ (List.mem_append_right _ (h))
section S_X4_byRules
variable {p : Program} {l : Launch} {e : Env} {s : State} {m : MethodId} {args : Array Value} {below : List Frame} {meth : Method} {c : Code} {D : va_G} {cs : CS} {A : Nat → Prop}
set_option maxHeartbeats 4000000 in
set_option maxRecDepth 100000 in
theorem oX4_byRules_17 {k : Int32 → MM → Prop} {t : Nat} (CX : CXM p s m args meth c cX4_byRules 8 (some .int) "byRules" RX4 wsX4_byRules D cs A) : ∀ (n : Nat), ∀ (x1 : Int32) (x2 : Int32) (y3 : Int64) (x5 : Int32) (x6 : Int32) (x7 : Int32) (σ : MM) (H : Heap) (locs : List Loc) (ls : Array Slot), wX4_byRules_17 k t  n x1 x2 y3 x5 x6 x7 σ → PH D cs A σ H → va_S A s.heap H locs → lv_has ls 8 [(0, .ref t), (1, .int x1), (2, .int x2), (3, .long y3), (5, .int x5), (6, .int x6), (7, .int x7)] → W p l e (headSpec wsX4_byRules rmX4_byRules).room s m args below meth c H locs 0 0 (MQ below (va_Qi k (mB D cs A) A) args s 0 0 A) (F0 m 17 ls []) := by
  intro n
  induction n with
  | zero => intro x1 x2 y3 x5 x6 x7 σ H locs ls h; exact h.elim
  | succ n ih =>
    intro x1 x2 y3 x5 x6 x7 σ H locs ls h hM hS hl
    have ⟨hx, hb, hml, hr, hnm, hown, hts, hlocks, hE⟩ := CX
    unfold wX4_byRules_17 at h
    refine lv_iload hx hb dX4_byRules_17 (lv_at hl 6 rfl) ?_
    refine lv_aload_n hx hb dX4_byRules_19 rfl (lv_at hl 0 rfl) ?_
    obtain ⟨hk_1, h⟩ := h
    refine gf4_18 hx hb hts inX4_byRules_4 hown hE.1 hM hk_1 (hts (.fieldLink RX4 142 "WorkCoderModel" "rules" "I") (by decide +kernel)) dX4_byRules_20 ?_
    refine lv_icmp_ge (tgt := 126) hx hb dX4_byRules_23 (by decide) (fun hc => ?_) (fun hc => ?_)
    · replace h := h.1 hc
      refine lv_iload hx hb dX4_byRules_126 (lv_at hl 4 rfl) ?_
      exact W.iret (v := x5) hx hb hr (fun t_ ht hW => ⟨⟨_, _, rfl, h, mB_of ht hM⟩, hS.F ht⟩) hS.2.2 dX4_byRules_128
    · replace h := h.2 hc
      refine lv_iload hx hb dX4_byRules_26 (lv_at hl 6 rfl) ?_
      refine lv_iload_n hx hb dX4_byRules_28 rfl (lv_at hl 2 rfl) ?_
      refine lv_icmp_eq (tgt := 120) hx hb dX4_byRules_29 (by decide) (fun hc => ?_) (fun hc => ?_)
      · replace h := h.1 hc
        obtain ⟨x_2, ex_2⟩ : ∃ y : Int32, y = x7 + 1 := ⟨_, rfl⟩
        replace h := h x_2 ex_2
        refine lv_iinc (v := x_2) (lv' := [(7, .int x_2), (0, .ref t), (1, .int x1), (2, .int x2), (3, .long y3), (5, .int x5), (6, .int x6)]) hx hb dX4_byRules_120 hl (k := 6) rfl (by rw [ex_2]; rfl) (by decide) rfl (fun ls hl => ?_)
        refine lv_goto (tgt := 17) hx hb dX4_byRules_123 (by decide) ?_
        exact ih _ _ _ _ _ _ _ _ _ _ h hM hS (lv_sub hl [1, 2, 3, 4, 5, 6, 0] rfl)
      · replace h := h.2 hc
        refine lv_aload_n hx hb dX4_byRules_32 rfl (lv_at hl 0 rfl) ?_
        refine gf4_19 hx hb hts inX4_byRules_4 hown hE.1 hM hk_1 (hts (.fieldLink RX4 61 "WorkCoderModel" "rank" "[I") (by decide +kernel)) dX4_byRules_33 (fun r_3 er_3 => ?_)
        replace h := h r_3 er_3
        clear er_3
        refine lv_iload hx hb dX4_byRules_36 (lv_at hl 6 rfl) ?_
        obtain ⟨a_4, rfl, h⟩ := h
        obtain ⟨hk_5, h⟩ := h
        obtain ⟨hv_6, h⟩ := h
        refine mm_iald hx hb hE.1 hM hk_5 hv_6 dX4_byRules_38 ?_
        refine lv_iload hx hb dX4_byRules_39 (lv_at hl 5 rfl) ?_
        refine lv_icmp_gt (tgt := 120) hx hb dX4_byRules_41 (by decide) (fun hc => ?_) (fun hc => ?_)
        · replace h := h.1 hc
          obtain ⟨x_7, ex_7⟩ : ∃ y : Int32, y = x7 + 1 := ⟨_, rfl⟩
          replace h := h x_7 ex_7
          refine lv_iinc (v := x_7) (lv' := [(7, .int x_7), (0, .ref t), (1, .int x1), (2, .int x2), (3, .long y3), (5, .int x5), (6, .int x6)]) hx hb dX4_byRules_120 hl (k := 6) rfl (by rw [ex_7]; rfl) (by decide) rfl (fun ls hl => ?_)
          refine lv_goto (tgt := 17) hx hb dX4_byRules_123 (by decide) ?_
          exact ih _ _ _ _ _ _ _ _ _ _ h hM hS (lv_sub hl [1, 2, 3, 4, 5, 6, 0] rfl)
        · replace h := h.2 hc
          refine lv_aload_n hx hb dX4_byRules_44 rfl (lv_at hl 0 rfl) ?_
          refine lv_iload hx hb dX4_byRules_45 (lv_at hl 6 rfl) ?_
          refine lv_lload_n hx hb dX4_byRules_47 rfl (lv_at hl 3 rfl) ?_
          refine lv_aload_n hx hb dX4_byRules_48 rfl (lv_at hl 0 rfl) ?_
          refine gf4_10 hx hb hts inX4_byRules_4 hown hE.1 hM hk_1 (hts (.fieldLink RX4 37 "WorkCoderModel" "trade" "[I") (by decide +kernel)) dX4_byRules_49 (fun r_8 er_8 => ?_)
          replace h := h r_8 er_8
          clear er_8
          refine lv_iload_n hx hb dX4_byRules_52 rfl (lv_at hl 1 rfl) ?_
          refine lv_iconst (v := 2) hx hb dX4_byRules_53 (by decide) ?_
          refine lv_idiv hx hb dX4_byRules_54 (by decide) ?_
          obtain ⟨a_9, rfl, h⟩ := h
          obtain ⟨hk_10, h⟩ := h
          obtain ⟨hv_11, h⟩ := h
          refine mm_iald hx hb hE.1 hM hk_10 hv_11 dX4_byRules_55 ?_
          refine clVi (C := RX4) (b := t) (As := [.int x7, .long y3, .int (mI σ a_9 (ix (x1 / 2)))]) (rest := []) ⟨hx, hb, hml, hown, hts⟩ hM hE hS (ok_X4_doesHold l D cs A t x7 y3 (mI σ a_9 (ix (x1 / 2))) _ _ h) (cwV 3 hts gX4_byRules_X4_doesHold rfl rfl rfl (by decide +kernel) ⟨(Nat.le_of_ble_eq_true rfl), (Nat.le_of_ble_eq_true rfl)⟩) (rc4 hM hE.1 hk_1) rfl hl.1 rfl (Nat.le_of_ble_eq_true rfl) dX4_byRules_56 ⟨(Nat.le_of_ble_eq_true rfl), (Nat.le_of_ble_eq_true rfl)⟩ (fun x_13 σ_12 H locs h1 hM hS => ?_)
          replace h := h1
          clear h1
          refine lv_if_ne (tgt := 65) hx hb dX4_byRules_59 (by decide) (fun hc => ?_) (fun hc => ?_)
          · replace h := h.1 hc
            refine lv_aload_n hx hb dX4_byRules_65 rfl (lv_at hl 0 rfl) ?_
            obtain ⟨hk_14, h⟩ := h
            refine gf4_19 hx hb hts inX4_byRules_4 hown hE.1 hM hk_14 (hts (.fieldLink RX4 61 "WorkCoderModel" "rank" "[I") (by decide +kernel)) dX4_byRules_66 (fun r_15 er_15 => ?_)
            replace h := h r_15 er_15
            clear er_15
            refine lv_iload hx hb dX4_byRules_69 (lv_at hl 6 rfl) ?_
            obtain ⟨a_16, rfl, h⟩ := h
            obtain ⟨hk_17, h⟩ := h
            obtain ⟨hv_18, h⟩ := h
            refine mm_iald hx hb hE.1 hM hk_17 hv_18 dX4_byRules_71 ?_
            refine lv_iload hx hb dX4_byRules_72 (lv_at hl 5 rfl) ?_
            refine lv_icmp_ge (tgt := 104) hx hb dX4_byRules_74 (by decide) (fun hc => ?_) (fun hc => ?_)
            · replace h := h.1 hc
              refine lv_iload hx hb dX4_byRules_104 (lv_at hl 4 rfl) ?_
              refine lv_aload_n hx hb dX4_byRules_106 rfl (lv_at hl 0 rfl) ?_
              refine gf4_20 hx hb hts inX4_byRules_4 hown hE.1 hM hk_14 (hts (.fieldLink RX4 64 "WorkCoderModel" "ruleCode" "[I") (by decide +kernel)) dX4_byRules_107 (fun r_19 er_19 => ?_)
              replace h := h r_19 er_19
              clear er_19
              refine lv_iload hx hb dX4_byRules_110 (lv_at hl 6 rfl) ?_
              obtain ⟨a_20, rfl, h⟩ := h
              obtain ⟨hk_21, h⟩ := h
              obtain ⟨hv_22, h⟩ := h
              refine mm_iald hx hb hE.1 hM hk_21 hv_22 dX4_byRules_112 ?_
              refine lv_icmp_eq (tgt := 120) hx hb dX4_byRules_113 (by decide) (fun hc => ?_) (fun hc => ?_)
              · replace h := h.1 hc
                obtain ⟨x_23, ex_23⟩ : ∃ y : Int32, y = x7 + 1 := ⟨_, rfl⟩
                replace h := h x_23 ex_23
                refine lv_iinc (v := x_23) (lv' := [(7, .int x_23), (0, .ref t), (1, .int x1), (2, .int x2), (3, .long y3), (5, .int x5), (6, .int x6)]) hx hb dX4_byRules_120 hl (k := 6) rfl (by rw [ex_23]; rfl) (by decide) rfl (fun ls hl => ?_)
                refine lv_goto (tgt := 17) hx hb dX4_byRules_123 (by decide) ?_
                exact ih _ _ _ _ _ _ _ _ _ _ h hM hS (lv_sub hl [1, 2, 3, 4, 5, 6, 0] rfl)
              · replace h := h.2 hc
                refine lv_bipush (v := (-5)) hx hb dX4_byRules_116 (by decide) ?_
                refine lv_istore (i := 5) (lv' := [(5, .int (-5)), (0, .ref t), (1, .int x1), (2, .int x2), (3, .long y3), (6, .int x6), (7, .int x7)]) hx hb dX4_byRules_118 hl (by decide) rfl (fun ls hl => ?_)
                obtain ⟨x_24, ex_24⟩ : ∃ y : Int32, y = x7 + 1 := ⟨_, rfl⟩
                replace h := h x_24 ex_24
                refine lv_iinc (v := x_24) (lv' := [(7, .int x_24), (5, .int (-5)), (0, .ref t), (1, .int x1), (2, .int x2), (3, .long y3), (6, .int x6)]) hx hb dX4_byRules_120 hl (k := 6) rfl (by rw [ex_24]; rfl) (by decide) rfl (fun ls hl => ?_)
                refine lv_goto (tgt := 17) hx hb dX4_byRules_123 (by decide) ?_
                exact ih _ _ _ _ _ _ _ _ _ _ h hM hS (lv_sub hl [2, 3, 4, 5, 1, 6, 0] rfl)
            · replace h := h.2 hc
              refine lv_aload_n hx hb dX4_byRules_77 rfl (lv_at hl 0 rfl) ?_
              refine gf4_19 hx hb hts inX4_byRules_4 hown hE.1 hM hk_14 (hts (.fieldLink RX4 61 "WorkCoderModel" "rank" "[I") (by decide +kernel)) dX4_byRules_78 (fun r_25 er_25 => ?_)
              replace h := h r_25 er_25
              clear er_25
              refine lv_iload hx hb dX4_byRules_81 (lv_at hl 6 rfl) ?_
              obtain ⟨a_26, rfl, h⟩ := h
              obtain ⟨hk_27, h⟩ := h
              obtain ⟨hv_28, h⟩ := h
              refine mm_iald hx hb hE.1 hM hk_27 hv_28 dX4_byRules_83 ?_
              refine lv_topi (fun x_29 ex_29 => ?_)
              replace h := h x_29 ex_29
              refine lv_istore (i := 6) (lv' := [(6, .int x_29), (0, .ref t), (1, .int x1), (2, .int x2), (3, .long y3), (5, .int x5), (7, .int x7)]) hx hb dX4_byRules_84 hl (by decide) rfl (fun ls hl => ?_)
              refine lv_aload_n hx hb dX4_byRules_86 rfl (lv_at hl 1 rfl) ?_
              refine gf4_20 hx hb hts inX4_byRules_4 hown hE.1 hM hk_14 (hts (.fieldLink RX4 64 "WorkCoderModel" "ruleCode" "[I") (by decide +kernel)) dX4_byRules_87 (fun r_30 er_30 => ?_)
              replace h := h r_30 er_30
              clear er_30
              refine lv_iload hx hb dX4_byRules_90 (lv_at hl 6 rfl) ?_
              obtain ⟨a_31, rfl, h⟩ := h
              obtain ⟨hk_32, h⟩ := h
              obtain ⟨hv_33, h⟩ := h
              refine mm_iald hx hb hE.1 hM hk_32 hv_33 dX4_byRules_92 ?_
              refine lv_topi (fun x_34 ex_34 => ?_)
              replace h := h x_34 ex_34
              refine lv_istore (i := 5) (lv' := [(5, .int x_34), (6, .int x_29), (0, .ref t), (1, .int x1), (2, .int x2), (3, .long y3), (7, .int x7)]) hx hb dX4_byRules_93 hl (by decide) rfl (fun ls hl => ?_)
              refine lv_aload_n hx hb dX4_byRules_95 rfl (lv_at hl 2 rfl) ?_
              refine lv_iload hx hb dX4_byRules_96 (lv_at hl 6 rfl) ?_
              refine pf4_25 hx hb hts inX4_byRules_4 hown hE.1 hM hS hk_14 (hts (.fieldLink RX4 152 "WorkCoderModel" "givenBy" "I") (by decide +kernel)) dX4_byRules_98 (fun H locs hM hS => ?_)
              replace h := h _ rfl
              refine lv_goto (tgt := 120) hx hb dX4_byRules_101 (by decide) ?_
              obtain ⟨x_36, ex_36⟩ : ∃ y : Int32, y = x7 + 1 := ⟨_, rfl⟩
              replace h := h x_36 ex_36
              refine lv_iinc (v := x_36) (lv' := [(7, .int x_36), (5, .int x_34), (6, .int x_29), (0, .ref t), (1, .int x1), (2, .int x2), (3, .long y3)]) hx hb dX4_byRules_120 hl (k := 6) rfl (by rw [ex_36]; rfl) (by decide) rfl (fun ls hl => ?_)
              refine lv_goto (tgt := 17) hx hb dX4_byRules_123 (by decide) ?_
              exact ih _ _ _ _ _ _ _ _ _ _ h hM hS (lv_sub hl [3, 4, 5, 6, 1, 2, 0] rfl)
          · replace h := h.2 hc
            refine lv_goto (tgt := 120) hx hb dX4_byRules_62 (by decide) ?_
            obtain ⟨x_37, ex_37⟩ : ∃ y : Int32, y = x7 + 1 := ⟨_, rfl⟩
            replace h := h x_37 ex_37
            refine lv_iinc (v := x_37) (lv' := [(7, .int x_37), (0, .ref t), (1, .int x1), (2, .int x2), (3, .long y3), (5, .int x5), (6, .int x6)]) hx hb dX4_byRules_120 hl (k := 6) rfl (by rw [ex_37]; rfl) (by decide) rfl (fun ls hl => ?_)
            refine lv_goto (tgt := 17) hx hb dX4_byRules_123 (by decide) ?_
            exact ih _ _ _ _ _ _ _ _ _ _ h hM hS (lv_sub hl [1, 2, 3, 4, 5, 6, 0] rfl)
set_option maxHeartbeats 4000000 in
set_option maxRecDepth 100000 in
theorem oX4_byRules_0 {k : Int32 → MM → Prop} {t : Nat} (CX : CXM p s m args meth c cX4_byRules 8 (some .int) "byRules" RX4 wsX4_byRules D cs A) : ∀ (x1 : Int32) (x2 : Int32) (σ : MM) (H : Heap) (locs : List Loc) (ls : Array Slot), wX4_byRules t x1 x2 σ k → PH D cs A σ H → va_S A s.heap H locs → lv_has ls 8 [(0, .ref t), (1, .int x1), (2, .int x2)] → W p l e (headSpec wsX4_byRules rmX4_byRules).room s m args below meth c H locs 0 0 (MQ below (va_Qi k (mB D cs A) A) args s 0 0 A) (F0 m 0 ls []) := by
  intro x1 x2 σ H locs ls h hM hS hl
  have ⟨hx, hb, hml, hr, hnm, hown, hts, hlocks, hE⟩ := CX
  unfold wX4_byRules at h
  refine lv_aload_n hx hb dX4_byRules_0 rfl (lv_at hl 0 rfl) ?_
  refine lv_iload_n hx hb dX4_byRules_1 rfl (lv_at hl 1 rfl) ?_
  obtain ⟨hk_1, h⟩ := h
  refine clVl (C := RX4) (b := t) (As := [.int x1]) (rest := []) ⟨hx, hb, hml, hown, hts⟩ hM hE hS (ok_X4_setOf l D cs A t x1 _ _ h) (cwV 1 hts gX4_byRules_X4_setOf rfl rfl rfl (by decide +kernel) ⟨(Nat.le_of_ble_eq_true rfl), (Nat.le_of_ble_eq_true rfl)⟩) (rc4 hM hE.1 hk_1) rfl hl.1 rfl (Nat.le_of_ble_eq_true rfl) dX4_byRules_2 ⟨(Nat.le_of_ble_eq_true rfl), (Nat.le_of_ble_eq_true rfl)⟩ (fun y_3 σ_2 H locs h1 hM hS => ?_)
  replace h := h1
  clear h1
  refine lv_lstore_n (i := 3) (lv' := [(3, .long y_3), (0, .ref t), (1, .int x1), (2, .int x2)]) hx hb dX4_byRules_5 rfl hl (by decide) rfl (fun ls hl => ?_)
  refine lv_bipush (v := (-2)) hx hb dX4_byRules_6 (by decide) ?_
  refine lv_istore (i := 5) (lv' := [(5, .int (-2)), (3, .long y_3), (0, .ref t), (1, .int x1), (2, .int x2)]) hx hb dX4_byRules_8 hl (by decide) rfl (fun ls hl => ?_)
  refine lv_bipush (v := 10) hx hb dX4_byRules_10 (by decide) ?_
  refine lv_istore (i := 6) (lv' := [(6, .int 10), (5, .int (-2)), (3, .long y_3), (0, .ref t), (1, .int x1), (2, .int x2)]) hx hb dX4_byRules_12 hl (by decide) rfl (fun ls hl => ?_)
  refine lv_iconst (v := 0) hx hb dX4_byRules_14 (by decide) ?_
  refine lv_istore (i := 7) (lv' := [(7, .int 0), (6, .int 10), (5, .int (-2)), (3, .long y_3), (0, .ref t), (1, .int x1), (2, .int x2)]) hx hb dX4_byRules_15 hl (by decide) rfl (fun ls hl => ?_)
  obtain ⟨n0, h⟩ := h
  exact oX4_byRules_17 CX  n0 _ _ _ _ _ _ _ _ _ _ h hM hS (lv_sub hl [4, 5, 6, 3, 2, 1, 0] rfl)
end S_X4_byRules
set_option maxHeartbeats 4000000 in
set_option maxRecDepth 100000 in
theorem ok_X4_byRules (l : Launch) (D : va_G) (cs : CS) (A : Nat → Prop) (t : Nat) (x1 : Int32) (x2 : Int32) (σ : MM) (k : Int32 → MM → Prop) (h : wX4_byRules t x1 x2 σ k) : Met l yX4_byRules wsX4_byRules rmX4_byRules (va_Pc [.ref t, .int x1, .int x2] (mP D cs A σ)) (va_Qi k (mB D cs A) A) 0 0 A := by
  refine Met.ofW (cc := cX4_byRules) (maxL := 8) (ret := (some .int)) (by decide) rfl ?_
  intro p e s m args below meth c s₁ B hml hv
  obtain ⟨rfl, hM, hE⟩ := hv
  have CX : CXM p s m _ meth c cX4_byRules 8 (some .int) "byRules" RX4 wsX4_byRules D cs A := ⟨B.exec, B.bytes, hml, B.returns, (name_of_methodNamed B.named B.method).1, findClass_of_methodNamed B.named, atoms_spec (ws := wsX4_byRules) B.pre, B.notSynchronized, hE⟩
  have hl := lv_entry ([.ref t, .int x1, .int x2]) (n := 8) (Nat.le_of_ble_eq_true rfl)
  rw [lg_entry_eq]
  exact oX4_byRules_0 CX x1 x2 σ _ _ _ h hM va_S.rf hl
/-! WorkCoderModel.ruled(I)I -/
abbrev rmX4_ruled : Room := { frames := 2, cells := 0, slots := 0, locals := 51 }
section S_X4_ruled
variable {p : Program} {l : Launch} {e : Env} {s : State} {m : MethodId} {args : Array Value} {below : List Frame} {meth : Method} {c : Code} {D : va_G} {cs : CS} {A : Nat → Prop}
set_option maxHeartbeats 4000000 in
set_option maxRecDepth 100000 in
theorem oX4_ruled_0 {k : Int32 → MM → Prop} {t : Nat} (CX : CXM p s m args meth c cX4_ruled 2 (some .int) "ruled" RX4 wsX4_ruled D cs A) : ∀ (x1 : Int32) (σ : MM) (H : Heap) (locs : List Loc) (ls : Array Slot), wX4_ruled t x1 σ k → PH D cs A σ H → va_S A s.heap H locs → lv_has ls 2 [(0, .ref t), (1, .int x1)] → W p l e (headSpec wsX4_ruled rmX4_ruled).room s m args below meth c H locs 0 0 (MQ below (va_Qi k (mB D cs A) A) args s 0 0 A) (F0 m 0 ls []) := by
  intro x1 σ H locs ls h hM hS hl
  have ⟨hx, hb, hml, hr, hnm, hown, hts, hlocks, hE⟩ := CX
  unfold wX4_ruled at h
  refine lv_aload_n hx hb dX4_ruled_0 rfl (lv_at hl 0 rfl) ?_
  refine lv_iload_n hx hb dX4_ruled_1 rfl (lv_at hl 1 rfl) ?_
  obtain ⟨hk_1, h⟩ := h
  refine clVi (C := RX4) (b := t) (As := [.int x1]) (rest := []) ⟨hx, hb, hml, hown, hts⟩ hM hE hS (ok_X4_isItem l D cs A t x1 _ _ h) (cwV 1 hts gX4_ruled_X4_isItem rfl rfl rfl (by decide +kernel) ⟨(Nat.le_of_ble_eq_true rfl), (Nat.le_of_ble_eq_true rfl)⟩) (rc4 hM hE.1 hk_1) rfl hl.1 rfl (Nat.le_of_ble_eq_true rfl) dX4_ruled_2 ⟨(Nat.le_of_ble_eq_true rfl), (Nat.le_of_ble_eq_true rfl)⟩ (fun x_3 σ_2 H locs h1 hM hS => ?_)
  replace h := h1
  clear h1
  refine lv_if_eq (tgt := 17) hx hb dX4_ruled_5 (by decide) (fun hc => ?_) (fun hc => ?_)
  · replace h := h.1 hc
    refine lv_iconst (v := (-1)) hx hb dX4_ruled_17 (by decide) ?_
    exact W.iret (v := (-1)) hx hb hr (fun t_ ht hW => ⟨⟨_, _, rfl, h, mB_of ht hM⟩, hS.F ht⟩) hS.2.2 dX4_ruled_18
  · replace h := h.2 hc
    refine lv_aload_n hx hb dX4_ruled_8 rfl (lv_at hl 0 rfl) ?_
    refine lv_iload_n hx hb dX4_ruled_9 rfl (lv_at hl 1 rfl) ?_
    refine lv_iconst (v := (-1)) hx hb dX4_ruled_10 (by decide) ?_
    obtain ⟨hk_4, h⟩ := h
    refine clVi (C := RX4) (b := t) (As := [.int x1, .int (-1)]) (rest := []) ⟨hx, hb, hml, hown, hts⟩ hM hE hS (ok_X4_byRules l D cs A t x1 (-1) _ _ h) (cwV 2 hts gX4_ruled_X4_byRules rfl rfl rfl (by decide +kernel) ⟨(Nat.le_of_ble_eq_true rfl), (Nat.le_of_ble_eq_true rfl)⟩) (rc4 hM hE.1 hk_4) rfl hl.1 rfl (Nat.le_of_ble_eq_true rfl) dX4_ruled_11 ⟨(Nat.le_of_ble_eq_true rfl), (Nat.le_of_ble_eq_true rfl)⟩ (fun x_6 σ_5 H locs h1 hM hS => ?_)
    replace h := h1
    clear h1
    refine lv_goto (tgt := 18) hx hb dX4_ruled_14 (by decide) ?_
    exact W.iret (v := x_6) hx hb hr (fun t_ ht hW => ⟨⟨_, _, rfl, h, mB_of ht hM⟩, hS.F ht⟩) hS.2.2 dX4_ruled_18
end S_X4_ruled
set_option maxHeartbeats 4000000 in
set_option maxRecDepth 100000 in
theorem ok_X4_ruled (l : Launch) (D : va_G) (cs : CS) (A : Nat → Prop) (t : Nat) (x1 : Int32) (σ : MM) (k : Int32 → MM → Prop) (h : wX4_ruled t x1 σ k) : Met l yX4_ruled wsX4_ruled rmX4_ruled (va_Pc [.ref t, .int x1] (mP D cs A σ)) (va_Qi k (mB D cs A) A) 0 0 A := by
  refine Met.ofW (cc := cX4_ruled) (maxL := 2) (ret := (some .int)) (by decide) rfl ?_
  intro p e s m args below meth c s₁ B hml hv
  obtain ⟨rfl, hM, hE⟩ := hv
  have CX : CXM p s m _ meth c cX4_ruled 2 (some .int) "ruled" RX4 wsX4_ruled D cs A := ⟨B.exec, B.bytes, hml, B.returns, (name_of_methodNamed B.named B.method).1, findClass_of_methodNamed B.named, atoms_spec (ws := wsX4_ruled) B.pre, B.notSynchronized, hE⟩
  have hl := lv_entry ([.ref t, .int x1]) (n := 2) (Nat.le_of_ble_eq_true rfl)
  rw [lg_entry_eq]
  exact oX4_ruled_0 CX x1 σ _ _ _ h hM va_S.rf hl
/-! WorkCoderModel.quarrels(II)Z -/
abbrev rmX4_quarrels : Room := { frames := 0, cells := 0, slots := 0, locals := 0 }
theorem inX4_quarrels_4 : ∀ w ∈ wsX40, w ∈ wsX4_quarrels := fun _ h => List.mem_cons_of_mem _ (List.mem_append_right _ (h))
section S_X4_quarrels
variable {p : Program} {l : Launch} {e : Env} {s : State} {m : MethodId} {args : Array Value} {below : List Frame} {meth : Method} {c : Code} {D : va_G} {cs : CS} {A : Nat → Prop}
set_option maxHeartbeats 4000000 in
set_option maxRecDepth 100000 in
theorem oX4_quarrels_0 {k : Int32 → MM → Prop} {t : Nat} (CX : CXM p s m args meth c cX4_quarrels 3 (some .boolean) "quarrels" RX4 wsX4_quarrels D cs A) : ∀ (x1 : Int32) (x2 : Int32) (σ : MM) (H : Heap) (locs : List Loc) (ls : Array Slot), wX4_quarrels t x1 x2 σ k → PH D cs A σ H → va_S A s.heap H locs → lv_has ls 3 [(0, .ref t), (1, .int x1), (2, .int x2)] → W p l e (headSpec wsX4_quarrels rmX4_quarrels).room s m args below meth c H locs 0 0 (MQ below (va_Qi k (mB D cs A) A) args s 0 0 A) (F0 m 0 ls []) := by
  intro x1 x2 σ H locs ls h hM hS hl
  have ⟨hx, hb, hml, hr, hnm, hown, hts, hlocks, hE⟩ := CX
  unfold wX4_quarrels at h
  refine lv_aload_n hx hb dX4_quarrels_0 rfl (lv_at hl 0 rfl) ?_
  obtain ⟨hk_1, h⟩ := h
  refine gf4_24 hx hb hts inX4_quarrels_4 hown hE.1 hM hk_1 (hts (.fieldLink RX4 76 "WorkCoderModel" "dropped" "[Z") (by decide +kernel)) dX4_quarrels_1 (fun r_2 er_2 => ?_)
  replace h := h r_2 er_2
  clear er_2
  refine lv_iload_n hx hb dX4_quarrels_4 rfl (lv_at hl 1 rfl) ?_
  obtain ⟨a_3, rfl, h⟩ := h
  obtain ⟨hk_4, h⟩ := h
  obtain ⟨hv_5, h⟩ := h
  refine mm_zald hx hb hE.1 hM hk_4 hv_5 dX4_quarrels_5 ?_
  refine lv_if_ne (tgt := 64) hx hb dX4_quarrels_6 (by decide) (fun hc => ?_) (fun hc => ?_)
  · replace h := h.1 hc
    refine lv_iconst (v := 0) hx hb dX4_quarrels_64 (by decide) ?_
    exact W.zret (v := 0) (ty := .boolean) hx hb hr rfl (fun t_ ht hW => ⟨⟨_, _, rfl, h, mB_of ht hM⟩, hS.F ht⟩) hS.2.2 dX4_quarrels_65
  · replace h := h.2 hc
    refine lv_aload_n hx hb dX4_quarrels_9 rfl (lv_at hl 0 rfl) ?_
    refine gf4_24 hx hb hts inX4_quarrels_4 hown hE.1 hM hk_1 (hts (.fieldLink RX4 76 "WorkCoderModel" "dropped" "[Z") (by decide +kernel)) dX4_quarrels_10 (fun r_6 er_6 => ?_)
    replace h := h r_6 er_6
    clear er_6
    refine lv_iload_n hx hb dX4_quarrels_13 rfl (lv_at hl 2 rfl) ?_
    obtain ⟨a_7, rfl, h⟩ := h
    obtain ⟨hk_8, h⟩ := h
    obtain ⟨hv_9, h⟩ := h
    refine mm_zald hx hb hE.1 hM hk_8 hv_9 dX4_quarrels_14 ?_
    refine lv_if_ne (tgt := 64) hx hb dX4_quarrels_15 (by decide) (fun hc => ?_) (fun hc => ?_)
    · replace h := h.1 hc
      refine lv_iconst (v := 0) hx hb dX4_quarrels_64 (by decide) ?_
      exact W.zret (v := 0) (ty := .boolean) hx hb hr rfl (fun t_ ht hW => ⟨⟨_, _, rfl, h, mB_of ht hM⟩, hS.F ht⟩) hS.2.2 dX4_quarrels_65
    · replace h := h.2 hc
      refine lv_aload_n hx hb dX4_quarrels_18 rfl (lv_at hl 0 rfl) ?_
      refine gf4_19 hx hb hts inX4_quarrels_4 hown hE.1 hM hk_1 (hts (.fieldLink RX4 61 "WorkCoderModel" "rank" "[I") (by decide +kernel)) dX4_quarrels_19 (fun r_10 er_10 => ?_)
      replace h := h r_10 er_10
      clear er_10
      refine lv_iload_n hx hb dX4_quarrels_22 rfl (lv_at hl 1 rfl) ?_
      obtain ⟨a_11, rfl, h⟩ := h
      obtain ⟨hk_12, h⟩ := h
      obtain ⟨hv_13, h⟩ := h
      refine mm_iald hx hb hE.1 hM hk_12 hv_13 dX4_quarrels_23 ?_
      refine lv_aload_n hx hb dX4_quarrels_24 rfl (lv_at hl 0 rfl) ?_
      refine gf4_19 hx hb hts inX4_quarrels_4 hown hE.1 hM hk_1 (hts (.fieldLink RX4 61 "WorkCoderModel" "rank" "[I") (by decide +kernel)) dX4_quarrels_25 (fun r_14 er_14 => ?_)
      replace h := h r_14 er_14
      clear er_14
      refine lv_iload_n hx hb dX4_quarrels_28 rfl (lv_at hl 2 rfl) ?_
      obtain ⟨a_15, rfl, h⟩ := h
      obtain ⟨hk_16, h⟩ := h
      obtain ⟨hv_17, h⟩ := h
      refine mm_iald hx hb hE.1 hM hk_16 hv_17 dX4_quarrels_29 ?_
      refine lv_icmp_ne (tgt := 64) hx hb dX4_quarrels_30 (by decide) (fun hc => ?_) (fun hc => ?_)
      · replace h := h.1 hc
        refine lv_iconst (v := 0) hx hb dX4_quarrels_64 (by decide) ?_
        exact W.zret (v := 0) (ty := .boolean) hx hb hr rfl (fun t_ ht hW => ⟨⟨_, _, rfl, h, mB_of ht hM⟩, hS.F ht⟩) hS.2.2 dX4_quarrels_65
      · replace h := h.2 hc
        refine lv_aload_n hx hb dX4_quarrels_33 rfl (lv_at hl 0 rfl) ?_
        refine gf4_20 hx hb hts inX4_quarrels_4 hown hE.1 hM hk_1 (hts (.fieldLink RX4 64 "WorkCoderModel" "ruleCode" "[I") (by decide +kernel)) dX4_quarrels_34 (fun r_18 er_18 => ?_)
        replace h := h r_18 er_18
        clear er_18
        refine lv_iload_n hx hb dX4_quarrels_37 rfl (lv_at hl 1 rfl) ?_
        obtain ⟨a_19, rfl, h⟩ := h
        obtain ⟨hk_20, h⟩ := h
        obtain ⟨hv_21, h⟩ := h
        refine mm_iald hx hb hE.1 hM hk_20 hv_21 dX4_quarrels_38 ?_
        refine lv_aload_n hx hb dX4_quarrels_39 rfl (lv_at hl 0 rfl) ?_
        refine gf4_20 hx hb hts inX4_quarrels_4 hown hE.1 hM hk_1 (hts (.fieldLink RX4 64 "WorkCoderModel" "ruleCode" "[I") (by decide +kernel)) dX4_quarrels_40 (fun r_22 er_22 => ?_)
        replace h := h r_22 er_22
        clear er_22
        refine lv_iload_n hx hb dX4_quarrels_43 rfl (lv_at hl 2 rfl) ?_
        obtain ⟨a_23, rfl, h⟩ := h
        obtain ⟨hk_24, h⟩ := h
        obtain ⟨hv_25, h⟩ := h
        refine mm_iald hx hb hE.1 hM hk_24 hv_25 dX4_quarrels_44 ?_
        refine lv_icmp_eq (tgt := 64) hx hb dX4_quarrels_45 (by decide) (fun hc => ?_) (fun hc => ?_)
        · replace h := h.1 hc
          refine lv_iconst (v := 0) hx hb dX4_quarrels_64 (by decide) ?_
          exact W.zret (v := 0) (ty := .boolean) hx hb hr rfl (fun t_ ht hW => ⟨⟨_, _, rfl, h, mB_of ht hM⟩, hS.F ht⟩) hS.2.2 dX4_quarrels_65
        · replace h := h.2 hc
          refine lv_aload_n hx hb dX4_quarrels_48 rfl (lv_at hl 0 rfl) ?_
          refine gf4_21 hx hb hts inX4_quarrels_4 hown hE.1 hM hk_1 (hts (.fieldLink RX4 67 "WorkCoderModel" "trades" "[I") (by decide +kernel)) dX4_quarrels_49 (fun r_26 er_26 => ?_)
          replace h := h r_26 er_26
          clear er_26
          refine lv_iload_n hx hb dX4_quarrels_52 rfl (lv_at hl 1 rfl) ?_
          obtain ⟨a_27, rfl, h⟩ := h
          obtain ⟨hk_28, h⟩ := h
          obtain ⟨hv_29, h⟩ := h
          refine mm_iald hx hb hE.1 hM hk_28 hv_29 dX4_quarrels_53 ?_
          refine lv_aload_n hx hb dX4_quarrels_54 rfl (lv_at hl 0 rfl) ?_
          refine gf4_21 hx hb hts inX4_quarrels_4 hown hE.1 hM hk_1 (hts (.fieldLink RX4 67 "WorkCoderModel" "trades" "[I") (by decide +kernel)) dX4_quarrels_55 (fun r_30 er_30 => ?_)
          replace h := h r_30 er_30
          clear er_30
          refine lv_iload_n hx hb dX4_quarrels_58 rfl (lv_at hl 2 rfl) ?_
          obtain ⟨a_31, rfl, h⟩ := h
          obtain ⟨hk_32, h⟩ := h
          obtain ⟨hv_33, h⟩ := h
          refine mm_iald hx hb hE.1 hM hk_32 hv_33 dX4_quarrels_59 ?_
          refine lv_iand hx hb dX4_quarrels_60 ?_
          refine lv_if_ne (tgt := 66) hx hb dX4_quarrels_61 (by decide) (fun hc => ?_) (fun hc => ?_)
          · replace h := h.1 hc
            refine lv_aload_n hx hb dX4_quarrels_66 rfl (lv_at hl 0 rfl) ?_
            refine gf4_22 hx hb hts inX4_quarrels_4 hown hE.1 hM hk_1 (hts (.fieldLink RX4 70 "WorkCoderModel" "needed" "[J") (by decide +kernel)) dX4_quarrels_67 (fun r_34 er_34 => ?_)
            replace h := h r_34 er_34
            clear er_34
            refine lv_iload_n hx hb dX4_quarrels_70 rfl (lv_at hl 1 rfl) ?_
            obtain ⟨a_35, rfl, h⟩ := h
            obtain ⟨hk_36, h⟩ := h
            obtain ⟨hv_37, h⟩ := h
            refine mm_lald hx hb hE.1 hM hk_36 hv_37 dX4_quarrels_71 ?_
            refine lv_aload_n hx hb dX4_quarrels_72 rfl (lv_at hl 0 rfl) ?_
            refine gf4_23 hx hb hts inX4_quarrels_4 hown hE.1 hM hk_1 (hts (.fieldLink RX4 73 "WorkCoderModel" "barred" "[J") (by decide +kernel)) dX4_quarrels_73 (fun r_38 er_38 => ?_)
            replace h := h r_38 er_38
            clear er_38
            refine lv_iload_n hx hb dX4_quarrels_76 rfl (lv_at hl 2 rfl) ?_
            obtain ⟨a_39, rfl, h⟩ := h
            obtain ⟨hk_40, h⟩ := h
            obtain ⟨hv_41, h⟩ := h
            refine mm_lald hx hb hE.1 hM hk_40 hv_41 dX4_quarrels_77 ?_
            refine lv_land hx hb dX4_quarrels_78 ?_
            refine lv_lconst (v := 0) hx hb dX4_quarrels_79 (by decide) ?_
            refine lc_ne (tgt := 106) hx hb dX4_quarrels_80 dX4_quarrels_81 (by decide) (fun hc => ?_) (fun hc => ?_)
            · replace h := h.1 hc
              refine lv_iconst (v := 0) hx hb dX4_quarrels_106 (by decide) ?_
              exact W.zret (v := 0) (ty := .boolean) hx hb hr rfl (fun t_ ht hW => ⟨⟨_, _, rfl, h, mB_of ht hM⟩, hS.F ht⟩) hS.2.2 dX4_quarrels_107
            · replace h := h.2 hc
              refine lv_aload_n hx hb dX4_quarrels_84 rfl (lv_at hl 0 rfl) ?_
              refine gf4_22 hx hb hts inX4_quarrels_4 hown hE.1 hM hk_1 (hts (.fieldLink RX4 70 "WorkCoderModel" "needed" "[J") (by decide +kernel)) dX4_quarrels_85 (fun r_42 er_42 => ?_)
              replace h := h r_42 er_42
              clear er_42
              refine lv_iload_n hx hb dX4_quarrels_88 rfl (lv_at hl 2 rfl) ?_
              obtain ⟨a_43, rfl, h⟩ := h
              obtain ⟨hk_44, h⟩ := h
              obtain ⟨hv_45, h⟩ := h
              refine mm_lald hx hb hE.1 hM hk_44 hv_45 dX4_quarrels_89 ?_
              refine lv_aload_n hx hb dX4_quarrels_90 rfl (lv_at hl 0 rfl) ?_
              refine gf4_23 hx hb hts inX4_quarrels_4 hown hE.1 hM hk_1 (hts (.fieldLink RX4 73 "WorkCoderModel" "barred" "[J") (by decide +kernel)) dX4_quarrels_91 (fun r_46 er_46 => ?_)
              replace h := h r_46 er_46
              clear er_46
              refine lv_iload_n hx hb dX4_quarrels_94 rfl (lv_at hl 1 rfl) ?_
              obtain ⟨a_47, rfl, h⟩ := h
              obtain ⟨hk_48, h⟩ := h
              obtain ⟨hv_49, h⟩ := h
              refine mm_lald hx hb hE.1 hM hk_48 hv_49 dX4_quarrels_95 ?_
              refine lv_land hx hb dX4_quarrels_96 ?_
              refine lv_lconst (v := 0) hx hb dX4_quarrels_97 (by decide) ?_
              refine lc_ne (tgt := 106) hx hb dX4_quarrels_98 dX4_quarrels_99 (by decide) (fun hc => ?_) (fun hc => ?_)
              · replace h := h.1 hc
                refine lv_iconst (v := 0) hx hb dX4_quarrels_106 (by decide) ?_
                exact W.zret (v := 0) (ty := .boolean) hx hb hr rfl (fun t_ ht hW => ⟨⟨_, _, rfl, h, mB_of ht hM⟩, hS.F ht⟩) hS.2.2 dX4_quarrels_107
              · replace h := h.2 hc
                refine lv_iconst (v := 1) hx hb dX4_quarrels_102 (by decide) ?_
                refine lv_goto (tgt := 107) hx hb dX4_quarrels_103 (by decide) ?_
                exact W.zret (v := 1) (ty := .boolean) hx hb hr rfl (fun t_ ht hW => ⟨⟨_, _, rfl, h, mB_of ht hM⟩, hS.F ht⟩) hS.2.2 dX4_quarrels_107
          · replace h := h.2 hc
            refine lv_iconst (v := 0) hx hb dX4_quarrels_64 (by decide) ?_
            exact W.zret (v := 0) (ty := .boolean) hx hb hr rfl (fun t_ ht hW => ⟨⟨_, _, rfl, h, mB_of ht hM⟩, hS.F ht⟩) hS.2.2 dX4_quarrels_65
end S_X4_quarrels
set_option maxHeartbeats 4000000 in
set_option maxRecDepth 100000 in
theorem ok_X4_quarrels (l : Launch) (D : va_G) (cs : CS) (A : Nat → Prop) (t : Nat) (x1 : Int32) (x2 : Int32) (σ : MM) (k : Int32 → MM → Prop) (h : wX4_quarrels t x1 x2 σ k) : Met l yX4_quarrels wsX4_quarrels rmX4_quarrels (va_Pc [.ref t, .int x1, .int x2] (mP D cs A σ)) (va_Qi k (mB D cs A) A) 0 0 A := by
  refine Met.ofW (cc := cX4_quarrels) (maxL := 3) (ret := (some .boolean)) (by decide) rfl ?_
  intro p e s m args below meth c s₁ B hml hv
  obtain ⟨rfl, hM, hE⟩ := hv
  have CX : CXM p s m _ meth c cX4_quarrels 3 (some .boolean) "quarrels" RX4 wsX4_quarrels D cs A := ⟨B.exec, B.bytes, hml, B.returns, (name_of_methodNamed B.named B.method).1, findClass_of_methodNamed B.named, atoms_spec (ws := wsX4_quarrels) B.pre, B.notSynchronized, hE⟩
  have hl := lv_entry ([.ref t, .int x1, .int x2]) (n := 3) (Nat.le_of_ble_eq_true rfl)
  rw [lg_entry_eq]
  exact oX4_quarrels_0 CX x1 x2 σ _ _ _ h hM va_S.rf hl
/-! WorkCoderModel.quarrel(I)I -/
abbrev rmX4_quarrel : Room := { frames := 1, cells := 0, slots := 0, locals := 22 }
theorem inX4_quarrel_4 : ∀ w ∈ wsX40, w ∈ wsX4_quarrel := fun _ h => List.mem_cons_of_mem _ (List.mem_append_right _ (h))
section S_X4_quarrel
variable {p : Program} {l : Launch} {e : Env} {s : State} {m : MethodId} {args : Array Value} {below : List Frame} {meth : Method} {c : Code} {D : va_G} {cs : CS} {A : Nat → Prop}
set_option maxHeartbeats 4000000 in
set_option maxRecDepth 100000 in
theorem oX4_quarrel_21 {k : Int32 → MM → Prop} {t : Nat} {g4 : Int32 → Int32 → Int32 → MM → Prop} (CX : CXM p s m args meth c cX4_quarrel 5 (some .int) "quarrel" RX4 wsX4_quarrel D cs A) (hg4 : ∀ (x1 : Int32) (x2 : Int32) (x3 : Int32) (σ : MM) (H : Heap) (locs : List Loc) (ls : Array Slot), g4 x1 x2 x3 σ → PH D cs A σ H → va_S A s.heap H locs → lv_has ls 5 [(0, .ref t), (1, .int x1), (2, .int x2), (3, .int x3)] → W p l e (headSpec wsX4_quarrel rmX4_quarrel).room s m args below meth c H locs 0 0 (MQ below (va_Qi k (mB D cs A) A) args s 0 0 A) (F0 m 4 ls [])) : ∀ (n : Nat), ∀ (x1 : Int32) (x2 : Int32) (x3 : Int32) (x4 : Int32) (σ : MM) (H : Heap) (locs : List Loc) (ls : Array Slot), wX4_quarrel_21 k t g4 n x1 x2 x3 x4 σ → PH D cs A σ H → va_S A s.heap H locs → lv_has ls 5 [(0, .ref t), (1, .int x1), (2, .int x2), (3, .int x3), (4, .int x4)] → W p l e (headSpec wsX4_quarrel rmX4_quarrel).room s m args below meth c H locs 0 0 (MQ below (va_Qi k (mB D cs A) A) args s 0 0 A) (F0 m 21 ls []) := by
  intro n
  induction n with
  | zero => intro x1 x2 x3 x4 σ H locs ls h; exact h.elim
  | succ n ih =>
    intro x1 x2 x3 x4 σ H locs ls h hM hS hl
    have ⟨hx, hb, hml, hr, hnm, hown, hts, hlocks, hE⟩ := CX
    unfold wX4_quarrel_21 at h
    refine lv_iload hx hb dX4_quarrel_21 (lv_at hl 4 rfl) ?_
    refine lv_aload_n hx hb dX4_quarrel_23 rfl (lv_at hl 0 rfl) ?_
    obtain ⟨hk_1, h⟩ := h
    refine gf4_18 hx hb hts inX4_quarrel_4 hown hE.1 hM hk_1 (hts (.fieldLink RX4 142 "WorkCoderModel" "rules" "I") (by decide +kernel)) dX4_quarrel_24 ?_
    refine lv_icmp_ge (tgt := 64) hx hb dX4_quarrel_27 (by decide) (fun hc => ?_) (fun hc => ?_)
    · replace h := h.1 hc
      obtain ⟨x_2, ex_2⟩ : ∃ y : Int32, y = x3 + 1 := ⟨_, rfl⟩
      replace h := h x_2 ex_2
      refine lv_iinc (v := x_2) (lv' := [(3, .int x_2), (0, .ref t), (1, .int x1), (2, .int x2), (4, .int x4)]) hx hb dX4_quarrel_64 hl (k := 3) rfl (by rw [ex_2]; rfl) (by decide) rfl (fun ls hl => ?_)
      refine lv_goto (tgt := 4) hx hb dX4_quarrel_67 (by decide) ?_
      exact hg4 _ _ _ _ _ _ _ h hM hS (lv_sub hl [1, 2, 3, 0] rfl)
    · replace h := h.2 hc
      refine lv_aload_n hx hb dX4_quarrel_30 rfl (lv_at hl 0 rfl) ?_
      refine lv_iload_n hx hb dX4_quarrel_31 rfl (lv_at hl 3 rfl) ?_
      refine lv_iload hx hb dX4_quarrel_32 (lv_at hl 4 rfl) ?_
      refine clVi (C := RX4) (b := t) (As := [.int x3, .int x4]) (rest := []) ⟨hx, hb, hml, hown, hts⟩ hM hE hS (ok_X4_quarrels l D cs A t x3 x4 _ _ h) (cwV 2 hts gX4_quarrel_X4_quarrels rfl rfl rfl (by decide +kernel) ⟨(Nat.le_of_ble_eq_true rfl), (Nat.le_of_ble_eq_true rfl)⟩) (rc4 hM hE.1 hk_1) rfl hl.1 rfl (Nat.le_of_ble_eq_true rfl) dX4_quarrel_34 ⟨(Nat.le_of_ble_eq_true rfl), (Nat.le_of_ble_eq_true rfl)⟩ (fun x_4 σ_3 H locs h1 hM hS => ?_)
      replace h := h1
      clear h1
      refine lv_if_ne (tgt := 43) hx hb dX4_quarrel_37 (by decide) (fun hc => ?_) (fun hc => ?_)
      · replace h := h.1 hc
        refine lv_iload_n hx hb dX4_quarrel_43 rfl (lv_at hl 2 rfl) ?_
        refine lv_if_ne (tgt := 55) hx hb dX4_quarrel_44 (by decide) (fun hc => ?_) (fun hc => ?_)
        · replace h := h.1 hc
          obtain ⟨x_5, ex_5⟩ : ∃ y : Int32, y = x2 + (-1) := ⟨_, rfl⟩
          replace h := h x_5 ex_5
          refine lv_iinc (v := x_5) (lv' := [(2, .int x_5), (0, .ref t), (1, .int x1), (3, .int x3), (4, .int x4)]) hx hb dX4_quarrel_55 hl (k := 2) rfl (by rw [ex_5]; rfl) (by decide) rfl (fun ls hl => ?_)
          obtain ⟨x_6, ex_6⟩ : ∃ y : Int32, y = x4 + 1 := ⟨_, rfl⟩
          replace h := h x_6 ex_6
          refine lv_iinc (v := x_6) (lv' := [(4, .int x_6), (2, .int x_5), (0, .ref t), (1, .int x1), (3, .int x3)]) hx hb dX4_quarrel_58 hl (k := 4) rfl (by rw [ex_6]; rfl) (by decide) rfl (fun ls hl => ?_)
          refine lv_goto (tgt := 21) hx hb dX4_quarrel_61 (by decide) ?_
          exact ih _ _ _ _ _ _ _ _ h hM hS (lv_sub hl [2, 3, 1, 4, 0] rfl)
        · replace h := h.2 hc
          refine lv_bipush (v := 100) hx hb dX4_quarrel_47 (by decide) ?_
          refine lv_iload_n hx hb dX4_quarrel_49 rfl (lv_at hl 3 rfl) ?_
          refine lv_imul hx hb dX4_quarrel_50 ?_
          refine lv_iload hx hb dX4_quarrel_51 (lv_at hl 4 rfl) ?_
          refine lv_iadd hx hb dX4_quarrel_53 ?_
          exact W.iret (v := ((100 : Int32) * x3) + x4) hx hb hr (fun t_ ht hW => ⟨⟨_, _, rfl, h, mB_of ht hM⟩, hS.F ht⟩) hS.2.2 dX4_quarrel_54
      · replace h := h.2 hc
        refine lv_goto (tgt := 58) hx hb dX4_quarrel_40 (by decide) ?_
        obtain ⟨x_7, ex_7⟩ : ∃ y : Int32, y = x4 + 1 := ⟨_, rfl⟩
        replace h := h x_7 ex_7
        refine lv_iinc (v := x_7) (lv' := [(4, .int x_7), (0, .ref t), (1, .int x1), (2, .int x2), (3, .int x3)]) hx hb dX4_quarrel_58 hl (k := 4) rfl (by rw [ex_7]; rfl) (by decide) rfl (fun ls hl => ?_)
        refine lv_goto (tgt := 21) hx hb dX4_quarrel_61 (by decide) ?_
        exact ih _ _ _ _ _ _ _ _ h hM hS (lv_sub hl [1, 2, 3, 4, 0] rfl)
set_option maxHeartbeats 4000000 in
set_option maxRecDepth 100000 in
theorem oX4_quarrel_4 {k : Int32 → MM → Prop} {t : Nat} (CX : CXM p s m args meth c cX4_quarrel 5 (some .int) "quarrel" RX4 wsX4_quarrel D cs A) : ∀ (n : Nat), ∀ (x1 : Int32) (x2 : Int32) (x3 : Int32) (σ : MM) (H : Heap) (locs : List Loc) (ls : Array Slot), wX4_quarrel_4 k t  n x1 x2 x3 σ → PH D cs A σ H → va_S A s.heap H locs → lv_has ls 5 [(0, .ref t), (1, .int x1), (2, .int x2), (3, .int x3)] → W p l e (headSpec wsX4_quarrel rmX4_quarrel).room s m args below meth c H locs 0 0 (MQ below (va_Qi k (mB D cs A) A) args s 0 0 A) (F0 m 4 ls []) := by
  intro n
  induction n with
  | zero => intro x1 x2 x3 σ H locs ls h; exact h.elim
  | succ n ih =>
    intro x1 x2 x3 σ H locs ls h hM hS hl
    have ⟨hx, hb, hml, hr, hnm, hown, hts, hlocks, hE⟩ := CX
    unfold wX4_quarrel_4 at h
    refine lv_iload_n hx hb dX4_quarrel_4 rfl (lv_at hl 3 rfl) ?_
    refine lv_aload_n hx hb dX4_quarrel_5 rfl (lv_at hl 0 rfl) ?_
    obtain ⟨hk_1, h⟩ := h
    refine gf4_18 hx hb hts inX4_quarrel_4 hown hE.1 hM hk_1 (hts (.fieldLink RX4 142 "WorkCoderModel" "rules" "I") (by decide +kernel)) dX4_quarrel_6 ?_
    refine lv_icmp_ge (tgt := 70) hx hb dX4_quarrel_9 (by decide) (fun hc => ?_) (fun hc => ?_)
    · replace h := h.1 hc
      refine lv_iconst (v := (-1)) hx hb dX4_quarrel_70 (by decide) ?_
      exact W.iret (v := (-1)) hx hb hr (fun t_ ht hW => ⟨⟨_, _, rfl, h, mB_of ht hM⟩, hS.F ht⟩) hS.2.2 dX4_quarrel_71
    · replace h := h.2 hc
      refine lv_iload_n hx hb dX4_quarrel_12 rfl (lv_at hl 1 rfl) ?_
      refine lv_if_lt (tgt := 70) hx hb dX4_quarrel_13 (by decide) (fun hc => ?_) (fun hc => ?_)
      · replace h := h.1 hc
        refine lv_iconst (v := (-1)) hx hb dX4_quarrel_70 (by decide) ?_
        exact W.iret (v := (-1)) hx hb hr (fun t_ ht hW => ⟨⟨_, _, rfl, h, mB_of ht hM⟩, hS.F ht⟩) hS.2.2 dX4_quarrel_71
      · replace h := h.2 hc
        refine lv_iload_n hx hb dX4_quarrel_16 rfl (lv_at hl 3 rfl) ?_
        refine lv_iconst (v := 1) hx hb dX4_quarrel_17 (by decide) ?_
        refine lv_iadd hx hb dX4_quarrel_18 ?_
        refine lv_topi (fun x_2 ex_2 => ?_)
        replace h := h x_2 ex_2
        refine lv_istore (i := 4) (lv' := [(4, .int x_2), (0, .ref t), (1, .int x1), (2, .int x2), (3, .int x3)]) hx hb dX4_quarrel_19 hl (by decide) rfl (fun ls hl => ?_)
        obtain ⟨n0, h⟩ := h
        exact oX4_quarrel_21 CX ih n0 _ _ _ _ _ _ _ _ h hM hS (lv_sub hl [1, 2, 3, 4, 0] rfl)
set_option maxHeartbeats 4000000 in
set_option maxRecDepth 100000 in
theorem oX4_quarrel_0 {k : Int32 → MM → Prop} {t : Nat} (CX : CXM p s m args meth c cX4_quarrel 5 (some .int) "quarrel" RX4 wsX4_quarrel D cs A) : ∀ (x1 : Int32) (σ : MM) (H : Heap) (locs : List Loc) (ls : Array Slot), wX4_quarrel t x1 σ k → PH D cs A σ H → va_S A s.heap H locs → lv_has ls 5 [(0, .ref t), (1, .int x1)] → W p l e (headSpec wsX4_quarrel rmX4_quarrel).room s m args below meth c H locs 0 0 (MQ below (va_Qi k (mB D cs A) A) args s 0 0 A) (F0 m 0 ls []) := by
  intro x1 σ H locs ls h hM hS hl
  have ⟨hx, hb, hml, hr, hnm, hown, hts, hlocks, hE⟩ := CX
  unfold wX4_quarrel at h
  refine lv_iload_n hx hb dX4_quarrel_0 rfl (lv_at hl 1 rfl) ?_
  refine lv_istore_n (i := 2) (lv' := [(2, .int x1), (0, .ref t), (1, .int x1)]) hx hb dX4_quarrel_1 rfl hl (by decide) rfl (fun ls hl => ?_)
  refine lv_iconst (v := 0) hx hb dX4_quarrel_2 (by decide) ?_
  refine lv_istore_n (i := 3) (lv' := [(3, .int 0), (2, .int x1), (0, .ref t), (1, .int x1)]) hx hb dX4_quarrel_3 rfl hl (by decide) rfl (fun ls hl => ?_)
  obtain ⟨n0, h⟩ := h
  exact oX4_quarrel_4 CX  n0 _ _ _ _ _ _ _ h hM hS (lv_sub hl [2, 3, 1, 0] rfl)
end S_X4_quarrel
set_option maxHeartbeats 4000000 in
set_option maxRecDepth 100000 in
theorem ok_X4_quarrel (l : Launch) (D : va_G) (cs : CS) (A : Nat → Prop) (t : Nat) (x1 : Int32) (σ : MM) (k : Int32 → MM → Prop) (h : wX4_quarrel t x1 σ k) : Met l yX4_quarrel wsX4_quarrel rmX4_quarrel (va_Pc [.ref t, .int x1] (mP D cs A σ)) (va_Qi k (mB D cs A) A) 0 0 A := by
  refine Met.ofW (cc := cX4_quarrel) (maxL := 5) (ret := (some .int)) (by decide) rfl ?_
  intro p e s m args below meth c s₁ B hml hv
  obtain ⟨rfl, hM, hE⟩ := hv
  have CX : CXM p s m _ meth c cX4_quarrel 5 (some .int) "quarrel" RX4 wsX4_quarrel D cs A := ⟨B.exec, B.bytes, hml, B.returns, (name_of_methodNamed B.named B.method).1, findClass_of_methodNamed B.named, atoms_spec (ws := wsX4_quarrel) B.pre, B.notSynchronized, hE⟩
  have hl := lv_entry ([.ref t, .int x1]) (n := 5) (Nat.le_of_ble_eq_true rfl)
  rw [lg_entry_eq]
  exact oX4_quarrel_0 CX x1 σ _ _ _ h hM va_S.rf hl
