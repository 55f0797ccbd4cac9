/-! WorkCoder.other(I)I -/
abbrev rmX3_other : Room := { frames := 2, cells := 0, slots := 0, locals := 42 }
theorem inX3_other_3 : ∀ w ∈ wsX30, w ∈ wsX3_other := fun _ h => List.mem_cons_of_mem _ (List.mem_append_left _ (List.mem_append_right _ (h)))
section S_X3_other
variable {p : Program} {l : Launch} {e : Env} {s : State} {m : MethodId} {args : Array Value} {below : List Frame} {meth : Method} {c : Code} {D : va_G} {cs : CS} {A : Nat → Prop}
set_option maxHeartbeats 4000000 in
set_option maxRecDepth 100000 in
theorem oX3_other_0 {k : Int32 → MM → Prop} {t : Nat} (CX : CXM p s m args meth c cX3_other 2 (some .int) "other" RX3 wsX3_other D cs A) : ∀ (x1 : Int32) (σ : MM) (H : Heap) (locs : List Loc) (ls : Array Slot), wX3_other t x1 σ k → PH D cs A σ H → va_S A s.heap H locs → lv_has ls 2 [(0, .ref t), (1, .int x1)] → W p l e (headSpec wsX3_other rmX3_other).room s m args below meth c H locs 0 0 (MQ below (va_Qi k (mB D cs A) A) args s 0 0 A) (F0 m 0 ls []) := by
  intro x1 σ H locs ls h hM hS hl
  have ⟨hx, hb, hml, hr, hnm, hown, hts, hlocks, hE⟩ := CX
  unfold wX3_other at h
  refine lv_aload_n hx hb dX3_other_0 rfl (lv_at hl 0 rfl) ?_
  obtain ⟨hk_1, h⟩ := h
  refine gf3_1 hx hb hts inX3_other_3 hown hE.1 hM hk_1 (hts (.fieldLink RX3 18 "WorkCoder" "otherScheme" "LWorkCoder$Scheme;") (by decide +kernel)) dX3_other_1 (fun r_2 er_2 => ?_)
  replace h := h r_2 er_2
  clear er_2
  refine lv_iload_n hx hb dX3_other_4 rfl (lv_at hl 1 rfl) ?_
  obtain ⟨a_3, rfl, h⟩ := h
  obtain ⟨hk_4, h⟩ := h
  refine clVi (C := RX2) (b := a_3) (As := [.int x1]) (rest := []) ⟨hx, hb, hml, hown, hts⟩ hM hE hS (ok_X2_grow l D cs A a_3 x1 _ _ h) (cwV 1 hts gX3_other_X2_grow rfl rfl rfl (by decide +kernel) ⟨(Nat.le_of_ble_eq_true rfl), (Nat.le_of_ble_eq_true rfl)⟩) (rc2 hM hE.1 hk_4) rfl hl.1 rfl (Nat.le_of_ble_eq_true rfl) dX3_other_5 ⟨(Nat.le_of_ble_eq_true rfl), (Nat.le_of_ble_eq_true rfl)⟩ (fun x_6 σ_5 H locs h1 hM hS => ?_)
  replace h := h1
  clear h1
  exact W.iret (v := x_6) hx hb hr (fun t_ ht hW => ⟨⟨_, _, rfl, h, mB_of ht hM⟩, hS.F ht⟩) hS.2.2 dX3_other_8
end S_X3_other
set_option maxHeartbeats 4000000 in
set_option maxRecDepth 100000 in
theorem ok_X3_other (l : Launch) (D : va_G) (cs : CS) (A : Nat → Prop) (t : Nat) (x1 : Int32) (σ : MM) (k : Int32 → MM → Prop) (h : wX3_other t x1 σ k) : Met l yX3_other wsX3_other rmX3_other (va_Pc [.ref t, .int x1] (mP D cs A σ)) (va_Qi k (mB D cs A) A) 0 0 A := by
  refine Met.ofW (cc := cX3_other) (maxL := 2) (ret := (some .int)) (by decide) rfl ?_
  intro p e s m args below meth c s₁ B hml hv
  obtain ⟨rfl, hM, hE⟩ := hv
  have CX : CXM p s m _ meth c cX3_other 2 (some .int) "other" RX3 wsX3_other D cs A := ⟨B.exec, B.bytes, hml, B.returns, (name_of_methodNamed B.named B.method).1, findClass_of_methodNamed B.named, atoms_spec (ws := wsX3_other) B.pre, B.notSynchronized, hE⟩
  have hl := lv_entry ([.ref t, .int x1]) (n := 2) (Nat.le_of_ble_eq_true rfl)
  rw [lg_entry_eq]
  exact oX3_other_0 CX x1 σ _ _ _ h hM va_S.rf hl
/-! WorkCoder.carry(III)I -/
abbrev rmX3_carry : Room := { frames := 2, cells := 0, slots := 0, locals := 42 }
theorem inX3_carry_3 : ∀ w ∈ wsX30, w ∈ wsX3_carry := fun _ h => List.mem_cons_of_mem _ (List.mem_append_left _ (List.mem_append_right _ (h)))
section S_X3_carry
variable {p : Program} {l : Launch} {e : Env} {s : State} {m : MethodId} {args : Array Value} {below : List Frame} {meth : Method} {c : Code} {D : va_G} {cs : CS} {A : Nat → Prop}
set_option maxHeartbeats 4000000 in
set_option maxRecDepth 100000 in
theorem oX3_carry_0 {k : Int32 → MM → Prop} {t : Nat} (CX : CXM p s m args meth c cX3_carry 5 (some .int) "carry" RX3 wsX3_carry D cs A) : ∀ (x1 : Int32) (x2 : Int32) (x3 : Int32) (σ : MM) (H : Heap) (locs : List Loc) (ls : Array Slot), wX3_carry t x1 x2 x3 σ k → PH D cs A σ H → va_S A s.heap H locs → lv_has ls 5 [(0, .ref t), (1, .int x1), (2, .int x2), (3, .int x3)] → W p l e (headSpec wsX3_carry rmX3_carry).room s m args below meth c H locs 0 0 (MQ below (va_Qi k (mB D cs A) A) args s 0 0 A) (F0 m 0 ls []) := by
  intro x1 x2 x3 σ H locs ls h hM hS hl
  have ⟨hx, hb, hml, hr, hnm, hown, hts, hlocks, hE⟩ := CX
  unfold wX3_carry at h
  refine lv_aload_n hx hb dX3_carry_0 rfl (lv_at hl 0 rfl) ?_
  refine lv_iload_n hx hb dX3_carry_1 rfl (lv_at hl 1 rfl) ?_
  obtain ⟨hk_1, h⟩ := h
  refine clVi (C := RX3) (b := t) (As := [.int x1]) (rest := []) ⟨hx, hb, hml, hown, hts⟩ hM hE hS (ok_X3_isCode l D cs A t x1 _ _ h) (cwV 1 hts gX3_carry_X3_isCode rfl rfl rfl (by decide +kernel) ⟨(Nat.le_of_ble_eq_true rfl), (Nat.le_of_ble_eq_true rfl)⟩) (rc3 hM hE.1 hk_1) rfl hl.1 rfl (Nat.le_of_ble_eq_true rfl) dX3_carry_2 ⟨(Nat.le_of_ble_eq_true rfl), (Nat.le_of_ble_eq_true rfl)⟩ (fun x_3 σ_2 H locs h1 hM hS => ?_)
  replace h := h1
  clear h1
  refine lv_if_eq (tgt := 28) hx hb dX3_carry_5 (by decide) (fun hc => ?_) (fun hc => ?_)
  · replace h := h.1 hc
    refine lv_iconst (v := (-1)) hx hb dX3_carry_28 (by decide) ?_
    exact W.iret (v := (-1)) hx hb hr (fun t_ ht hW => ⟨⟨_, _, rfl, h, mB_of ht hM⟩, hS.F ht⟩) hS.2.2 dX3_carry_29
  · replace h := h.2 hc
    refine lv_aload_n hx hb dX3_carry_8 rfl (lv_at hl 0 rfl) ?_
    obtain ⟨hk_4, h⟩ := h
    refine gf3_1 hx hb hts inX3_carry_3 hown hE.1 hM hk_4 (hts (.fieldLink RX3 18 "WorkCoder" "otherScheme" "LWorkCoder$Scheme;") (by decide +kernel)) dX3_carry_9 (fun r_5 er_5 => ?_)
    replace h := h r_5 er_5
    clear er_5
    refine lv_iload_n hx hb dX3_carry_12 rfl (lv_at hl 2 rfl) ?_
    obtain ⟨a_6, rfl, h⟩ := h
    obtain ⟨hk_7, h⟩ := h
    refine clVi (C := RX2) (b := a_6) (As := [.int x2]) (rest := []) ⟨hx, hb, hml, hown, hts⟩ hM hE hS (ok_X2_has l D cs A a_6 x2 _ _ h) (cwV 1 hts gX3_carry_X2_has rfl rfl rfl (by decide +kernel) ⟨(Nat.le_of_ble_eq_true rfl), (Nat.le_of_ble_eq_true rfl)⟩) (rc2 hM hE.1 hk_7) rfl hl.1 rfl (Nat.le_of_ble_eq_true rfl) dX3_carry_13 ⟨(Nat.le_of_ble_eq_true rfl), (Nat.le_of_ble_eq_true rfl)⟩ (fun x_9 σ_8 H locs h1 hM hS => ?_)
    replace h := h1
    clear h1
    refine lv_if_eq (tgt := 28) hx hb dX3_carry_16 (by decide) (fun hc => ?_) (fun hc => ?_)
    · replace h := h.1 hc
      refine lv_iconst (v := (-1)) hx hb dX3_carry_28 (by decide) ?_
      exact W.iret (v := (-1)) hx hb hr (fun t_ ht hW => ⟨⟨_, _, rfl, h, mB_of ht hM⟩, hS.F ht⟩) hS.2.2 dX3_carry_29
    · replace h := h.2 hc
      refine lv_iload_n hx hb dX3_carry_19 rfl (lv_at hl 3 rfl) ?_
      refine lv_iconst (v := 0) hx hb dX3_carry_20 (by decide) ?_
      refine lv_iconst (v := 1) hx hb dX3_carry_21 (by decide) ?_
      refine clSi (As := [.int x3, .int 0, .int 1]) (rest := []) ⟨hx, hb, hml, hown, hts⟩ hM hE hS (ok_X3_isIn l D cs A x3 0 1 _ _ h) (va_cwS 3 hts gX3_carry_X3_isIn rfl rfl rfl (by decide +kernel) ⟨(Nat.le_of_ble_eq_true rfl), (Nat.le_of_ble_eq_true rfl)⟩) rfl hl.1 rfl (Nat.le_of_ble_eq_true rfl) dX3_carry_22 ⟨(Nat.le_of_ble_eq_true rfl), (Nat.le_of_ble_eq_true rfl)⟩ (fun x_11 σ_10 H locs h1 hM hS => ?_)
      replace h := h1
      clear h1
      refine lv_if_ne (tgt := 30) hx hb dX3_carry_25 (by decide) (fun hc => ?_) (fun hc => ?_)
      · replace h := h.1 hc
        refine lv_aload_n hx hb dX3_carry_30 rfl (lv_at hl 0 rfl) ?_
        obtain ⟨hk_12, h⟩ := h
        refine gf3_3 hx hb hts inX3_carry_3 hown hE.1 hM hk_12 (hts (.fieldLink RX3 25 "WorkCoder" "carried" "[J") (by decide +kernel)) dX3_carry_31 (fun r_13 er_13 => ?_)
        replace h := h r_13 er_13
        clear er_13
        refine lv_iload_n hx hb dX3_carry_34 rfl (lv_at hl 1 rfl) ?_
        obtain ⟨a_14, rfl, h⟩ := h
        obtain ⟨hk_15, h⟩ := h
        obtain ⟨hv_16, h⟩ := h
        refine mm_lald hx hb hE.1 hM hk_15 hv_16 dX3_carry_35 ?_
        refine lv_iload_n hx hb dX3_carry_36 rfl (lv_at hl 2 rfl) ?_
        refine clSi (As := [.long (mL σ_10 a_14 (ix x1)), .int x2]) (rest := []) ⟨hx, hb, hml, hown, hts⟩ hM hE hS (ok_X3_bit l D cs A (mL σ_10 a_14 (ix x1)) x2 _ _ h) (va_cwS 2 hts gX3_carry_X3_bit rfl rfl rfl (by decide +kernel) ⟨(Nat.le_of_ble_eq_true rfl), (Nat.le_of_ble_eq_true rfl)⟩) rfl hl.1 rfl (Nat.le_of_ble_eq_true rfl) dX3_carry_37 ⟨(Nat.le_of_ble_eq_true rfl), (Nat.le_of_ble_eq_true rfl)⟩ (fun x_18 σ_17 H locs h1 hM hS => ?_)
        replace h := h1
        clear h1
        refine lv_istore (i := 4) (lv' := [(4, .int x_18), (0, .ref t), (1, .int x1), (2, .int x2), (3, .int x3)]) hx hb dX3_carry_40 hl (by decide) rfl (fun ls hl => ?_)
        refine lv_aload_n hx hb dX3_carry_42 rfl (lv_at hl 1 rfl) ?_
        obtain ⟨hk_19, h⟩ := h
        refine gf3_3 hx hb hts inX3_carry_3 hown hE.1 hM hk_19 (hts (.fieldLink RX3 25 "WorkCoder" "carried" "[J") (by decide +kernel)) dX3_carry_43 (fun r_20 er_20 => ?_)
        replace h := h r_20 er_20
        clear er_20
        refine lv_iload_n hx hb dX3_carry_46 rfl (lv_at hl 2 rfl) ?_
        refine lv_aload_n hx hb dX3_carry_47 rfl (lv_at hl 1 rfl) ?_
        refine gf3_3 hx hb hts inX3_carry_3 hown hE.1 hM hk_19 (hts (.fieldLink RX3 25 "WorkCoder" "carried" "[J") (by decide +kernel)) dX3_carry_48 (fun r_21 er_21 => ?_)
        replace h := h r_21 er_21
        clear er_21
        refine lv_iload_n hx hb dX3_carry_51 rfl (lv_at hl 2 rfl) ?_
        obtain ⟨a_22, rfl, h⟩ := h
        obtain ⟨hk_23, h⟩ := h
        obtain ⟨hv_24, h⟩ := h
        refine mm_lald hx hb hE.1 hM hk_23 hv_24 dX3_carry_52 ?_
        refine lv_iload_n hx hb dX3_carry_53 rfl (lv_at hl 3 rfl) ?_
        refine lv_iload_n hx hb dX3_carry_54 rfl (lv_at hl 4 rfl) ?_
        refine clSl (As := [.long (mL σ_17 a_22 (ix x1)), .int x2, .int x3]) (rest := [.int x1, va_rf r_20]) ⟨hx, hb, hml, hown, hts⟩ hM hE hS (ok_X3_withBit l D cs A (mL σ_17 a_22 (ix x1)) x2 x3 _ _ h) (va_cwS 3 hts gX3_carry_X3_withBit rfl rfl rfl (by decide +kernel) ⟨(Nat.le_of_ble_eq_true rfl), (Nat.le_of_ble_eq_true rfl)⟩) rfl hl.1 rfl (cat_le (Nat.le_of_ble_eq_true rfl)) dX3_carry_55 ⟨(Nat.le_of_ble_eq_true rfl), (Nat.le_of_ble_eq_true rfl)⟩ (fun y_26 σ_25 H locs h1 hM hS => ?_)
        replace h := h1
        clear h1
        obtain ⟨a_27, rfl, h⟩ := h
        obtain ⟨hk_28, h⟩ := h
        obtain ⟨hv_29, h⟩ := h
        refine mm_last hx hb hE.1 hM hS hk_28 hv_29 dX3_carry_58 (fun H locs hM hS => ?_)
        replace h := h _ rfl
        refine lv_iload hx hb dX3_carry_59 (lv_at hl 0 rfl) ?_
        exact W.iret (v := x_18) hx hb hr (fun t_ ht hW => ⟨⟨_, _, rfl, h, mB_of ht hM⟩, hS.F ht⟩) hS.2.2 dX3_carry_61
      · replace h := h.2 hc
        refine lv_iconst (v := (-1)) hx hb dX3_carry_28 (by decide) ?_
        exact W.iret (v := (-1)) hx hb hr (fun t_ ht hW => ⟨⟨_, _, rfl, h, mB_of ht hM⟩, hS.F ht⟩) hS.2.2 dX3_carry_29
end S_X3_carry
set_option maxHeartbeats 4000000 in
set_option maxRecDepth 100000 in
theorem ok_X3_carry (l : Launch) (D : va_G) (cs : CS) (A : Nat → Prop) (t : Nat) (x1 : Int32) (x2 : Int32) (x3 : Int32) (σ : MM) (k : Int32 → MM → Prop) (h : wX3_carry t x1 x2 x3 σ k) : Met l yX3_carry wsX3_carry rmX3_carry (va_Pc [.ref t, .int x1, .int x2, .int x3] (mP D cs A σ)) (va_Qi k (mB D cs A) A) 0 0 A := by
  refine Met.ofW (cc := cX3_carry) (maxL := 5) (ret := (some .int)) (by decide) rfl ?_
  intro p e s m args below meth c s₁ B hml hv
  obtain ⟨rfl, hM, hE⟩ := hv
  have CX : CXM p s m _ meth c cX3_carry 5 (some .int) "carry" RX3 wsX3_carry D cs A := ⟨B.exec, B.bytes, hml, B.returns, (name_of_methodNamed B.named B.method).1, findClass_of_methodNamed B.named, atoms_spec (ws := wsX3_carry) B.pre, B.notSynchronized, hE⟩
  have hl := lv_entry ([.ref t, .int x1, .int x2, .int x3]) (n := 5) (Nat.le_of_ble_eq_true rfl)
  rw [lg_entry_eq]
  exact oX3_carry_0 CX x1 x2 x3 σ _ _ _ h hM va_S.rf hl
/-! WorkCoder.isDigit(I)Z -/
abbrev rmX3_isDigit : Room := { frames := 1, cells := 0, slots := 0, locals := 22 }
section S_X3_isDigit
variable {p : Program} {l : Launch} {e : Env} {s : State} {m : MethodId} {args : Array Value} {below : List Frame} {meth : Method} {c : Code} {D : va_G} {cs : CS} {A : Nat → Prop}
set_option maxHeartbeats 4000000 in
set_option maxRecDepth 100000 in
theorem oX3_isDigit_0 {k : Int32 → MM → Prop} (CX : CXM p s m args meth c cX3_isDigit 1 (some .boolean) "isDigit" RX3 wsX3_isDigit D cs A) : ∀ (x0 : Int32) (σ : MM) (H : Heap) (locs : List Loc) (ls : Array Slot), wX3_isDigit x0 σ k → PH D cs A σ H → va_S A s.heap H locs → lv_has ls 1 [(0, .int x0)] → W p l e (headSpec wsX3_isDigit rmX3_isDigit).room s m args below meth c H locs 0 0 (MQ below (va_Qi k (mB D cs A) A) args s 0 0 A) (F0 m 0 ls []) := by
  intro x0 σ H locs ls h hM hS hl
  have ⟨hx, hb, hml, hr, hnm, hown, hts, hlocks, hE⟩ := CX
  unfold wX3_isDigit at h
  refine lv_iload_n hx hb dX3_isDigit_0 rfl (lv_at hl 0 rfl) ?_
  refine lv_iconst (v := 0) hx hb dX3_isDigit_1 (by decide) ?_
  refine lv_bipush (v := 9) hx hb dX3_isDigit_2 (by decide) ?_
  refine clSi (As := [.int x0, .int 0, .int 9]) (rest := []) ⟨hx, hb, hml, hown, hts⟩ hM hE hS (ok_X3_isIn l D cs A x0 0 9 _ _ h) (va_cwS 3 hts gX3_isDigit_X3_isIn rfl rfl rfl (by decide +kernel) ⟨(Nat.le_of_ble_eq_true rfl), (Nat.le_of_ble_eq_true rfl)⟩) rfl hl.1 rfl (Nat.le_of_ble_eq_true rfl) dX3_isDigit_4 ⟨(Nat.le_of_ble_eq_true rfl), (Nat.le_of_ble_eq_true rfl)⟩ (fun x_2 σ_1 H locs h1 hM hS => ?_)
  replace h := h1
  clear h1
  obtain ⟨hz_3, h⟩ := h
  exact W.zret (v := x_2) (ty := .boolean) hx hb hr (bz_narrow hz_3) (fun t_ ht hW => ⟨⟨_, _, rfl, h, mB_of ht hM⟩, hS.F ht⟩) hS.2.2 dX3_isDigit_7
end S_X3_isDigit
set_option maxHeartbeats 4000000 in
set_option maxRecDepth 100000 in
theorem ok_X3_isDigit (l : Launch) (D : va_G) (cs : CS) (A : Nat → Prop) (x0 : Int32) (σ : MM) (k : Int32 → MM → Prop) (h : wX3_isDigit x0 σ k) : Met l yX3_isDigit wsX3_isDigit rmX3_isDigit (va_Pc [.int x0] (mP D cs A σ)) (va_Qi k (mB D cs A) A) 0 0 A := by
  refine Met.ofW (cc := cX3_isDigit) (maxL := 1) (ret := (some .boolean)) (by decide) rfl ?_
  intro p e s m args below meth c s₁ B hml hv
  obtain ⟨rfl, hM, hE⟩ := hv
  have CX : CXM p s m _ meth c cX3_isDigit 1 (some .boolean) "isDigit" RX3 wsX3_isDigit D cs A := ⟨B.exec, B.bytes, hml, B.returns, (name_of_methodNamed B.named B.method).1, findClass_of_methodNamed B.named, atoms_spec (ws := wsX3_isDigit) B.pre, B.notSynchronized, hE⟩
  have hl := lv_entry ([.int x0]) (n := 1) (Nat.le_of_ble_eq_true rfl)
  rw [lg_entry_eq]
  exact oX3_isDigit_0 CX x0 σ _ _ _ h hM va_S.rf hl
/-! WorkCoder.answer(III)I -/
abbrev rmX3_answer : Room := { frames := 2, cells := 2, slots := 24, locals := 42 }
theorem inX3_answer_0 : ∀ w ∈ wsX00, w ∈ wsX3_answer := fun _ h => List.mem_cons_of_mem _ (List.mem_append_right _ (h))
theorem inX3_answer_3 : ∀ w ∈ wsX30, w ∈ wsX3_answer := fun _ h => List.mem_cons_of_mem _ (List.mem_append_left _ (List.mem_append_right _ (h)))
section S_X3_answer
variable {p : Program} {l : Launch} {e : Env} {s : State} {m : MethodId} {args : Array Value} {below : List Frame} {meth : Method} {c : Code} {D : va_G} {cs : CS} {A : Nat → Prop}
set_option maxHeartbeats 4000000 in
set_option maxRecDepth 100000 in
theorem oX3_answer_0 {k : Int32 → MM → Prop} {t : Nat} (CX : CXM p s m args meth c cX3_answer 5 (some .int) "answer" RX3 wsX3_answer D cs A) : ∀ (x1 : Int32) (x2 : Int32) (x3 : Int32) (σ : MM) (H : Heap) (locs : List Loc) (ls : Array Slot), wX3_answer t x1 x2 x3 σ k → PH D cs A σ H → va_S A s.heap H locs → lv_has ls 5 [(0, .ref t), (1, .int x1), (2, .int x2), (3, .int x3)] → W p l e (headSpec wsX3_answer rmX3_answer).room s m args below meth c H locs 0 0 (MQ below (va_Qi k (mB D cs A) A) args s 2 24 A) (F0 m 0 ls []) := by
  intro x1 x2 x3 σ H locs ls h hM hS hl
  have ⟨hx, hb, hml, hr, hnm, hown, hts, hlocks, hE⟩ := CX
  unfold wX3_answer at h
  refine lv_iload_n hx hb dX3_answer_0 rfl (lv_at hl 1 rfl) ?_
  refine lv_iconst (v := 0) hx hb dX3_answer_1 (by decide) ?_
  refine lv_iconst (v := 1) hx hb dX3_answer_2 (by decide) ?_
  refine clSi (As := [.int x1, .int 0, .int 1]) (rest := []) ⟨hx, hb, hml, hown, hts⟩ hM hE hS (ok_X3_isIn l D cs A x1 0 1 _ _ h) (va_cwS 3 hts gX3_answer_X3_isIn rfl rfl rfl (by decide +kernel) ⟨(Nat.le_of_ble_eq_true rfl), (Nat.le_of_ble_eq_true rfl)⟩) rfl hl.1 rfl (Nat.le_of_ble_eq_true rfl) dX3_answer_3 ⟨(Nat.le_of_ble_eq_true rfl), (Nat.le_of_ble_eq_true rfl)⟩ (fun x_2 σ_1 H locs h1 hM hS => ?_)
  replace h := h1
  clear h1
  refine lv_if_eq (tgt := 23) hx hb dX3_answer_6 (by decide) (fun hc => ?_) (fun hc => ?_)
  · replace h := h.1 hc
    refine lv_iconst (v := (-1)) hx hb dX3_answer_23 (by decide) ?_
    refine W.widen (k := 2) (n := 24) (Nat.le_of_ble_eq_true rfl) (Nat.le_of_ble_eq_true rfl) ?_
    exact W.iret (v := (-1)) hx hb hr (fun t_ ht hW => ⟨⟨_, _, rfl, h, mB_of ht hM⟩, hS.F ht⟩) hS.2.2 dX3_answer_24
  · replace h := h.2 hc
    refine lv_iload_n hx hb dX3_answer_9 rfl (lv_at hl 2 rfl) ?_
    refine clSi (As := [.int x2]) (rest := []) ⟨hx, hb, hml, hown, hts⟩ hM hE hS (ok_X3_isDigit l D cs A x2 _ _ h) (va_cwS 1 hts gX3_answer_X3_isDigit rfl rfl rfl (by decide +kernel) ⟨(Nat.le_of_ble_eq_true rfl), (Nat.le_of_ble_eq_true rfl)⟩) rfl hl.1 rfl (Nat.le_of_ble_eq_true rfl) dX3_answer_10 ⟨(Nat.le_of_ble_eq_true rfl), (Nat.le_of_ble_eq_true rfl)⟩ (fun x_4 σ_3 H locs h1 hM hS => ?_)
    replace h := h1
    clear h1
    refine lv_if_eq (tgt := 23) hx hb dX3_answer_13 (by decide) (fun hc => ?_) (fun hc => ?_)
    · replace h := h.1 hc
      refine lv_iconst (v := (-1)) hx hb dX3_answer_23 (by decide) ?_
      refine W.widen (k := 2) (n := 24) (Nat.le_of_ble_eq_true rfl) (Nat.le_of_ble_eq_true rfl) ?_
      exact W.iret (v := (-1)) hx hb hr (fun t_ ht hW => ⟨⟨_, _, rfl, h, mB_of ht hM⟩, hS.F ht⟩) hS.2.2 dX3_answer_24
    · replace h := h.2 hc
      refine lv_iload_n hx hb dX3_answer_16 rfl (lv_at hl 3 rfl) ?_
      refine clSi (As := [.int x3]) (rest := []) ⟨hx, hb, hml, hown, hts⟩ hM hE hS (ok_X3_isDigit l D cs A x3 _ _ h) (va_cwS 1 hts gX3_answer_X3_isDigit rfl rfl rfl (by decide +kernel) ⟨(Nat.le_of_ble_eq_true rfl), (Nat.le_of_ble_eq_true rfl)⟩) rfl hl.1 rfl (Nat.le_of_ble_eq_true rfl) dX3_answer_17 ⟨(Nat.le_of_ble_eq_true rfl), (Nat.le_of_ble_eq_true rfl)⟩ (fun x_6 σ_5 H locs h1 hM hS => ?_)
      replace h := h1
      clear h1
      refine lv_if_ne (tgt := 25) hx hb dX3_answer_20 (by decide) (fun hc => ?_) (fun hc => ?_)
      · replace h := h.1 hc
        refine lv_iconst (v := 2) hx hb dX3_answer_25 (by decide) ?_
        refine lv_aload_n hx hb dX3_answer_26 rfl (lv_at hl 0 rfl) ?_
        obtain ⟨hk_7, h⟩ := h
        refine gf3_6 hx hb hts inX3_answer_3 hown hE.1 hM hk_7 (hts (.fieldLink RX3 38 "WorkCoder" "answers" "I") (by decide +kernel)) dX3_answer_27 ?_
        refine lv_imul hx hb dX3_answer_30 ?_
        refine lv_topi (fun x_8 ex_8 => ?_)
        replace h := h x_8 ex_8
        refine lv_istore (i := 4) (lv' := [(4, .int x_8), (0, .ref t), (1, .int x1), (2, .int x2), (3, .int x3)]) hx hb dX3_answer_31 hl (by decide) rfl (fun ls hl => ?_)
        refine lv_aload_n hx hb dX3_answer_33 rfl (lv_at hl 1 rfl) ?_
        refine gf3_6 hx hb hts inX3_answer_3 hown hE.1 hM hk_7 (hts (.fieldLink RX3 38 "WorkCoder" "answers" "I") (by decide +kernel)) dX3_answer_34 ?_
        refine lv_bipush (v := 80) hx hb dX3_answer_37 (by decide) ?_
        refine lv_icmp_ge (tgt := 54) hx hb dX3_answer_39 (by decide) (fun hc => ?_) (fun hc => ?_)
        · replace h := h.1 hc
          refine lv_bipush (v := (-3)) hx hb dX3_answer_54 (by decide) ?_
          refine W.widen (k := 2) (n := 24) (Nat.le_of_ble_eq_true rfl) (Nat.le_of_ble_eq_true rfl) ?_
          exact W.iret (v := (-3)) hx hb hr (fun t_ ht hW => ⟨⟨_, _, rfl, h, mB_of ht hM⟩, hS.F ht⟩) hS.2.2 dX3_answer_56
        · replace h := h.2 hc
          refine lv_iload hx hb dX3_answer_42 (lv_at hl 0 rfl) ?_
          refine lv_iconst (v := 1) hx hb dX3_answer_44 (by decide) ?_
          refine lv_iadd hx hb dX3_answer_45 ?_
          refine lv_aload_n hx hb dX3_answer_46 rfl (lv_at hl 1 rfl) ?_
          refine gf3_5 hx hb hts inX3_answer_3 hown hE.1 hM hk_7 (hts (.fieldLink RX3 34 "WorkCoder" "items" "[LWorkCoder$Item;") (by decide +kernel)) dX3_answer_47 (fun r_9 er_9 => ?_)
          replace h := h r_9 er_9
          clear er_9
          obtain ⟨a_10, rfl, h⟩ := h
          obtain ⟨hk_11, h⟩ := h
          refine mm_alen9 hx hb hE.1 hM hk_11 dX3_answer_50 ?_
          refine lv_icmp_lt (tgt := 57) hx hb dX3_answer_51 (by decide) (fun hc => ?_) (fun hc => ?_)
          · replace h := h.1 hc
            refine lv_aload_n hx hb dX3_answer_57 rfl (lv_at hl 1 rfl) ?_
            refine gf3_5 hx hb hts inX3_answer_3 hown hE.1 hM hk_7 (hts (.fieldLink RX3 34 "WorkCoder" "items" "[LWorkCoder$Item;") (by decide +kernel)) dX3_answer_58 (fun r_12 er_12 => ?_)
            replace h := h r_12 er_12
            clear er_12
            refine lv_iload hx hb dX3_answer_61 (lv_at hl 0 rfl) ?_
            refine nw0 hx hb hts inX3_answer_0 hown (hts (.classLink RX3 32 RX0) (by decide +kernel)) (hts (.instantiable RX0 12) (by decide +kernel)) (hts (.initialized RX0) (by decide +kernel)) hE.1 hM hS hE.2.1 (Nat.le_of_ble_eq_true rfl) (Nat.le_of_ble_eq_true rfl) dX3_answer_63 (fun a_13 H ha_13 hM hS => ?_)
            replace h := h a_13 ha_13 _ rfl
            have hk_7 := mK_keep (kd := 1) (n := 0) hk_7 (by decide) ha_13
            have hk_11 := mK_keep (kd := 1) (n := 0) hk_11 (by decide) ha_13
            have hk_15 := mK_new (kd := 1) (n := 0) ha_13
            refine lv_dup hx hb dX3_answer_66 rfl ?_
            refine lv_iload_n hx hb dX3_answer_67 rfl (lv_at hl 3 rfl) ?_
            refine lv_iload_n hx hb dX3_answer_68 rfl (lv_at hl 4 rfl) ?_
            refine clIv (b := a_13) (As := [.int x2, .int x3]) (rest := [.ref a_13, .int x_8, va_rf r_12]) ⟨hx, hb, hml, hown, hts⟩ hM hE hS (ok_X0_init l D cs A a_13 x2 x3 _ _ h) (cwI 2 hts gX3_answer_X0_init rfl rfl rfl (hts (.initialized RX0) (by decide +kernel)) (hts (.methodLink RX3 100 yX0_init) (by decide +kernel)) (hts (.instanceMethod yX0_init) (by decide +kernel)) rfl (by decide +kernel) ⟨(Nat.le_of_ble_eq_true rfl), (Nat.le_of_ble_eq_true rfl)⟩) rfl hl.1 rfl (cat_le (Nat.le_of_ble_eq_true rfl)) dX3_answer_69 ⟨(Nat.le_of_ble_eq_true rfl), (Nat.le_of_ble_eq_true rfl)⟩ (fun σ_16 H locs h1 hM hS => ?_)
            replace h := h1
            clear h1
            obtain ⟨a_18, rfl, h⟩ := h
            obtain ⟨hk_19, h⟩ := h
            obtain ⟨hk_21, h⟩ := h
            obtain ⟨hv_20, h⟩ := h
            refine mm_aast9 hx hb hE.1 hM hS hk_19 hk_21 hv_20 dX3_answer_72 (fun H locs hM hS => ?_)
            replace h := h _ rfl
            refine lv_iload_n hx hb dX3_answer_73 rfl (lv_at hl 2 rfl) ?_
            refine lv_iconst (v := 1) hx hb dX3_answer_74 (by decide) ?_
            refine lv_icmp_ne (tgt := 96) hx hb dX3_answer_75 (by decide) (fun hc => ?_) (fun hc => ?_)
            · replace h := h.1 hc
              refine lv_aload_n hx hb dX3_answer_96 rfl (lv_at hl 1 rfl) ?_
              refine lv_dup hx hb dX3_answer_97 rfl ?_
              obtain ⟨hk_23, h⟩ := h
              refine gf3_6 hx hb hts inX3_answer_3 hown hE.1 hM hk_23 (hts (.fieldLink RX3 38 "WorkCoder" "answers" "I") (by decide +kernel)) dX3_answer_98 ?_
              refine lv_iconst (v := 1) hx hb dX3_answer_101 (by decide) ?_
              refine lv_iadd hx hb dX3_answer_102 ?_
              refine pf3_6 hx hb hts inX3_answer_3 hown hE.1 hM hS hk_23 (hts (.fieldLink RX3 38 "WorkCoder" "answers" "I") (by decide +kernel)) dX3_answer_103 (fun H locs hM hS => ?_)
              replace h := h _ rfl
              refine lv_aload_n hx hb dX3_answer_106 rfl (lv_at hl 1 rfl) ?_
              refine gf3_6 hx hb hts inX3_answer_3 hown hE.1 hM hk_23 (hts (.fieldLink RX3 38 "WorkCoder" "answers" "I") (by decide +kernel)) dX3_answer_107 ?_
              refine lv_iconst (v := 1) hx hb dX3_answer_110 (by decide) ?_
              refine lv_isub hx hb dX3_answer_111 ?_
              refine W.widen (k := 2) (n := 24) (Nat.le_of_ble_eq_true rfl) (Nat.le_of_ble_eq_true rfl) ?_
              exact W.iret (v := (mI (sI (sR σ_16 a_18 (ix x_8) (some a_13)) t 6 ((mI (sR σ_16 a_18 (ix x_8) (some a_13)) t 6) + 1)) t 6) - 1) hx hb hr (fun t_ ht hW => ⟨⟨_, _, rfl, h, mB_of ht hM⟩, hS.F ht⟩) hS.2.2 dX3_answer_112
            · replace h := h.2 hc
              refine lv_aload_n hx hb dX3_answer_78 rfl (lv_at hl 1 rfl) ?_
              obtain ⟨hk_25, h⟩ := h
              refine gf3_5 hx hb hts inX3_answer_3 hown hE.1 hM hk_25 (hts (.fieldLink RX3 34 "WorkCoder" "items" "[LWorkCoder$Item;") (by decide +kernel)) dX3_answer_79 (fun r_26 er_26 => ?_)
              replace h := h r_26 er_26
              clear er_26
              refine lv_iload hx hb dX3_answer_82 (lv_at hl 0 rfl) ?_
              refine lv_iconst (v := 1) hx hb dX3_answer_84 (by decide) ?_
              refine lv_iadd hx hb dX3_answer_85 ?_
              refine nw0 hx hb hts inX3_answer_0 hown (hts (.classLink RX3 32 RX0) (by decide +kernel)) (hts (.instantiable RX0 12) (by decide +kernel)) (hts (.initialized RX0) (by decide +kernel)) hE.1 hM hS hE.2.1 (Nat.le_of_ble_eq_true rfl) (Nat.le_of_ble_eq_true rfl) dX3_answer_86 (fun a_27 H ha_27 hM hS => ?_)
              replace h := h a_27 ha_27 _ rfl
              have hk_19 := mK_keep (kd := 1) (n := 0) hk_19 (by decide) ha_27
              have hk_21 := mK_keep (kd := 1) (n := 0) hk_21 (by decide) ha_27
              have hk_25 := mK_keep (kd := 1) (n := 0) hk_25 (by decide) ha_27
              have hk_29 := mK_new (kd := 1) (n := 0) ha_27
              refine lv_dup hx hb dX3_answer_89 rfl ?_
              refine lv_iload_n hx hb dX3_answer_90 rfl (lv_at hl 3 rfl) ?_
              refine lv_iload_n hx hb dX3_answer_91 rfl (lv_at hl 4 rfl) ?_
              refine clIv (b := a_27) (As := [.int x2, .int x3]) (rest := [.ref a_27, .int (x_8 + 1), va_rf r_26]) ⟨hx, hb, hml, hown, hts⟩ hM hE hS (ok_X0_init l D cs A a_27 x2 x3 _ _ h) (cwI 2 hts gX3_answer_X0_init rfl rfl rfl (hts (.initialized RX0) (by decide +kernel)) (hts (.methodLink RX3 100 yX0_init) (by decide +kernel)) (hts (.instanceMethod yX0_init) (by decide +kernel)) rfl (by decide +kernel) ⟨(Nat.le_of_ble_eq_true rfl), (Nat.le_of_ble_eq_true rfl)⟩) rfl hl.1 rfl (cat_le (Nat.le_of_ble_eq_true rfl)) dX3_answer_92 ⟨(Nat.le_of_ble_eq_true rfl), (Nat.le_of_ble_eq_true rfl)⟩ (fun σ_30 H locs h1 hM hS => ?_)
              replace h := h1
              clear h1
              obtain ⟨a_32, rfl, h⟩ := h
              obtain ⟨hk_33, h⟩ := h
              obtain ⟨hk_35, h⟩ := h
              obtain ⟨hv_34, h⟩ := h
              refine mm_aast9 hx hb hE.1 hM hS hk_33 hk_35 hv_34 dX3_answer_95 (fun H locs hM hS => ?_)
              replace h := h _ rfl
              refine lv_aload_n hx hb dX3_answer_96 rfl (lv_at hl 1 rfl) ?_
              refine lv_dup hx hb dX3_answer_97 rfl ?_
              obtain ⟨hk_37, h⟩ := h
              refine gf3_6 hx hb hts inX3_answer_3 hown hE.1 hM hk_37 (hts (.fieldLink RX3 38 "WorkCoder" "answers" "I") (by decide +kernel)) dX3_answer_98 ?_
              refine lv_iconst (v := 1) hx hb dX3_answer_101 (by decide) ?_
              refine lv_iadd hx hb dX3_answer_102 ?_
              refine pf3_6 hx hb hts inX3_answer_3 hown hE.1 hM hS hk_37 (hts (.fieldLink RX3 38 "WorkCoder" "answers" "I") (by decide +kernel)) dX3_answer_103 (fun H locs hM hS => ?_)
              replace h := h _ rfl
              refine lv_aload_n hx hb dX3_answer_106 rfl (lv_at hl 1 rfl) ?_
              refine gf3_6 hx hb hts inX3_answer_3 hown hE.1 hM hk_37 (hts (.fieldLink RX3 38 "WorkCoder" "answers" "I") (by decide +kernel)) dX3_answer_107 ?_
              refine lv_iconst (v := 1) hx hb dX3_answer_110 (by decide) ?_
              refine lv_isub hx hb dX3_answer_111 ?_
              refine W.widen (k := 2) (n := 24) (Nat.le_of_ble_eq_true rfl) (Nat.le_of_ble_eq_true rfl) ?_
              exact W.iret (v := (mI (sI (sR σ_30 a_32 (ix (x_8 + 1)) (some a_27)) t 6 ((mI (sR σ_30 a_32 (ix (x_8 + 1)) (some a_27)) t 6) + 1)) t 6) - 1) hx hb hr (fun t_ ht hW => ⟨⟨_, _, rfl, h, mB_of ht hM⟩, hS.F ht⟩) hS.2.2 dX3_answer_112
          · replace h := h.2 hc
            refine lv_bipush (v := (-3)) hx hb dX3_answer_54 (by decide) ?_
            refine W.widen (k := 2) (n := 24) (Nat.le_of_ble_eq_true rfl) (Nat.le_of_ble_eq_true rfl) ?_
            exact W.iret (v := (-3)) hx hb hr (fun t_ ht hW => ⟨⟨_, _, rfl, h, mB_of ht hM⟩, hS.F ht⟩) hS.2.2 dX3_answer_56
      · replace h := h.2 hc
        refine lv_iconst (v := (-1)) hx hb dX3_answer_23 (by decide) ?_
        refine W.widen (k := 2) (n := 24) (Nat.le_of_ble_eq_true rfl) (Nat.le_of_ble_eq_true rfl) ?_
        exact W.iret (v := (-1)) hx hb hr (fun t_ ht hW => ⟨⟨_, _, rfl, h, mB_of ht hM⟩, hS.F ht⟩) hS.2.2 dX3_answer_24
end S_X3_answer
set_option maxHeartbeats 4000000 in
set_option maxRecDepth 100000 in
theorem ok_X3_answer (l : Launch) (D : va_G) (cs : CS) (A : Nat → Prop) (t : Nat) (x1 : Int32) (x2 : Int32) (x3 : Int32) (σ : MM) (k : Int32 → MM → Prop) (h : wX3_answer t x1 x2 x3 σ k) : Met l yX3_answer wsX3_answer rmX3_answer (va_Pc [.ref t, .int x1, .int x2, .int x3] (mP D cs A σ)) (va_Qi k (mB D cs A) A) 2 24 A := by
  refine Met.ofW (cc := cX3_answer) (maxL := 5) (ret := (some .int)) (by decide) rfl ?_
  intro p e s m args below meth c s₁ B hml hv
  obtain ⟨rfl, hM, hE⟩ := hv
  have CX : CXM p s m _ meth c cX3_answer 5 (some .int) "answer" RX3 wsX3_answer D cs A := ⟨B.exec, B.bytes, hml, B.returns, (name_of_methodNamed B.named B.method).1, findClass_of_methodNamed B.named, atoms_spec (ws := wsX3_answer) B.pre, B.notSynchronized, hE⟩
  have hl := lv_entry ([.ref t, .int x1, .int x2, .int x3]) (n := 5) (Nat.le_of_ble_eq_true rfl)
  rw [lg_entry_eq]
  exact oX3_answer_0 CX x1 x2 x3 σ _ _ _ h hM va_S.rf hl
/-! WorkCoder.itemAt(I)LWorkCoder$Item; -/
abbrev rmX3_itemAt : Room := { frames := 0, cells := 0, slots := 0, locals := 0 }
theorem inX3_itemAt_3 : ∀ w ∈ wsX30, w ∈ wsX3_itemAt := fun _ h => List.mem_cons_of_mem _ (List.mem_append_right _ (h))
section S_X3_itemAt
variable {p : Program} {l : Launch} {e : Env} {s : State} {m : MethodId} {args : Array Value} {below : List Frame} {meth : Method} {c : Code} {D : va_G} {cs : CS} {A : Nat → Prop}
set_option maxHeartbeats 4000000 in
set_option maxRecDepth 100000 in
theorem oX3_itemAt_0 {k : Option Nat → MM → Prop} {t : Nat} (CX : CXM p s m args meth c cX3_itemAt 2 (some (.object "WorkCoder$Item")) "itemAt" RX3 wsX3_itemAt D cs A) : ∀ (x1 : Int32) (σ : MM) (H : Heap) (locs : List Loc) (ls : Array Slot), wX3_itemAt t x1 σ k → PH D cs A σ H → va_S A s.heap H locs → lv_has ls 2 [(0, .ref t), (1, .int x1)] → W p l e (headSpec wsX3_itemAt rmX3_itemAt).room s m args below meth c H locs 0 0 (MQ below (va_Qq k (mB D cs A) A) args s 0 0 A) (F0 m 0 ls []) := by
  intro x1 σ H locs ls h hM hS hl
  have ⟨hx, hb, hml, hr, hnm, hown, hts, hlocks, hE⟩ := CX
  unfold wX3_itemAt at h
  refine lv_iload_n hx hb dX3_itemAt_0 rfl (lv_at hl 1 rfl) ?_
  refine lv_if_lt (tgt := 22) hx hb dX3_itemAt_1 (by decide) (fun hc => ?_) (fun hc => ?_)
  · replace h := h.1 hc
    refine lv_null hx hb dX3_itemAt_22 ?_
    exact W.aret (v := va_rf none) hx hb hr (Or.inl ⟨_, rfl⟩) (nl_ret none) (fun t_ ht hW => ⟨⟨none, _, rfl, h, mB_of ht hM⟩, hS.F ht⟩) hS.2.2 dX3_itemAt_23
  · replace h := h.2 hc
    refine lv_iload_n hx hb dX3_itemAt_4 rfl (lv_at hl 1 rfl) ?_
    refine lv_aload_n hx hb dX3_itemAt_5 rfl (lv_at hl 0 rfl) ?_
    obtain ⟨hk_1, h⟩ := h
    refine gf3_5 hx hb hts inX3_itemAt_3 hown hE.1 hM hk_1 (hts (.fieldLink RX3 34 "WorkCoder" "items" "[LWorkCoder$Item;") (by decide +kernel)) dX3_itemAt_6 (fun r_2 er_2 => ?_)
    replace h := h r_2 er_2
    clear er_2
    obtain ⟨a_3, rfl, h⟩ := h
    obtain ⟨hk_4, h⟩ := h
    refine mm_alen9 hx hb hE.1 hM hk_4 dX3_itemAt_9 ?_
    refine lv_icmp_ge (tgt := 22) hx hb dX3_itemAt_10 (by decide) (fun hc => ?_) (fun hc => ?_)
    · replace h := h.1 hc
      refine lv_null hx hb dX3_itemAt_22 ?_
      exact W.aret (v := va_rf none) hx hb hr (Or.inl ⟨_, rfl⟩) (nl_ret none) (fun t_ ht hW => ⟨⟨none, _, rfl, h, mB_of ht hM⟩, hS.F ht⟩) hS.2.2 dX3_itemAt_23
    · replace h := h.2 hc
      refine lv_aload_n hx hb dX3_itemAt_13 rfl (lv_at hl 0 rfl) ?_
      refine gf3_5 hx hb hts inX3_itemAt_3 hown hE.1 hM hk_1 (hts (.fieldLink RX3 34 "WorkCoder" "items" "[LWorkCoder$Item;") (by decide +kernel)) dX3_itemAt_14 (fun r_5 er_5 => ?_)
      replace h := h r_5 er_5
      clear er_5
      refine lv_iload_n hx hb dX3_itemAt_17 rfl (lv_at hl 1 rfl) ?_
      obtain ⟨a_6, rfl, h⟩ := h
      obtain ⟨hk_7, h⟩ := h
      obtain ⟨hv_8, h⟩ := h
      refine mm_aald9 hx hb hE.1 hM hk_7 hv_8 dX3_itemAt_18 (fun r_9 er_9 => ?_)
      replace h := h r_9 er_9
      clear er_9
      refine lv_goto (tgt := 23) hx hb dX3_itemAt_19 (by decide) ?_
      exact W.aret (v := va_rf r_9) hx hb hr (Or.inl ⟨_, rfl⟩) (nl_ret r_9) (fun t_ ht hW => ⟨⟨r_9, _, rfl, h, mB_of ht hM⟩, hS.F ht⟩) hS.2.2 dX3_itemAt_23
end S_X3_itemAt
set_option maxHeartbeats 4000000 in
set_option maxRecDepth 100000 in
theorem ok_X3_itemAt (l : Launch) (D : va_G) (cs : CS) (A : Nat → Prop) (t : Nat) (x1 : Int32) (σ : MM) (k : Option Nat → MM → Prop) (h : wX3_itemAt t x1 σ k) : Met l yX3_itemAt wsX3_itemAt rmX3_itemAt (va_Pc [.ref t, .int x1] (mP D cs A σ)) (va_Qq k (mB D cs A) A) 0 0 A := by
  refine Met.ofW (cc := cX3_itemAt) (maxL := 2) (ret := (some (.object "WorkCoder$Item"))) (by decide) rfl ?_
  intro p e s m args below meth c s₁ B hml hv
  obtain ⟨rfl, hM, hE⟩ := hv
  have CX : CXM p s m _ meth c cX3_itemAt 2 (some (.object "WorkCoder$Item")) "itemAt" RX3 wsX3_itemAt D cs A := ⟨B.exec, B.bytes, hml, B.returns, (name_of_methodNamed B.named B.method).1, findClass_of_methodNamed B.named, atoms_spec (ws := wsX3_itemAt) B.pre, B.notSynchronized, hE⟩
  have hl := lv_entry ([.ref t, .int x1]) (n := 2) (Nat.le_of_ble_eq_true rfl)
  rw [lg_entry_eq]
  exact oX3_itemAt_0 CX x1 σ _ _ _ h hM va_S.rf hl
/-! WorkCoder.put(II)I -/
abbrev rmX3_put : Room := { frames := 2, cells := 0, slots := 0, locals := 47 }
theorem inX3_put_0 : ∀ w ∈ wsX00, w ∈ wsX3_put := fun _ h => List.mem_cons_of_mem _ (List.mem_append_left _ (List.mem_append_right _ (h)))
section S_X3_put
variable {p : Program} {l : Launch} {e : Env} {s : State} {m : MethodId} {args : Array Value} {below : List Frame} {meth : Method} {c : Code} {D : va_G} {cs : CS} {A : Nat → Prop}
set_option maxHeartbeats 4000000 in
set_option maxRecDepth 100000 in
theorem oX3_put_0 {k : Int32 → MM → Prop} {t : Nat} (CX : CXM p s m args meth c cX3_put 4 (some .int) "put" RX3 wsX3_put D cs A) : ∀ (x1 : Int32) (x2 : Int32) (σ : MM) (H : Heap) (locs : List Loc) (ls : Array Slot), wX3_put t x1 x2 σ k → PH D cs A σ H → va_S A s.heap H locs → lv_has ls 4 [(0, .ref t), (1, .int x1), (2, .int x2)] → W p l e (headSpec wsX3_put rmX3_put).room s m args below meth c H locs 0 0 (MQ below (va_Qi k (mB D cs A) A) args s 0 0 A) (F0 m 0 ls []) := by
  intro x1 x2 σ H locs ls h hM hS hl
  have ⟨hx, hb, hml, hr, hnm, hown, hts, hlocks, hE⟩ := CX
  unfold wX3_put at h
  refine lv_aload_n hx hb dX3_put_0 rfl (lv_at hl 0 rfl) ?_
  refine lv_iload_n hx hb dX3_put_1 rfl (lv_at hl 1 rfl) ?_
  obtain ⟨hk_1, h⟩ := h
  refine clVq (C := RX3) (b := t) (As := [.int x1]) (rest := []) ⟨hx, hb, hml, hown, hts⟩ hM hE hS (ok_X3_itemAt l D cs A t x1 _ _ h) (cwV 1 hts gX3_put_X3_itemAt rfl rfl rfl (by decide +kernel) ⟨(Nat.le_of_ble_eq_true rfl), (Nat.le_of_ble_eq_true rfl)⟩) (rc3 hM hE.1 hk_1) rfl hl.1 rfl (Nat.le_of_ble_eq_true rfl) dX3_put_2 ⟨(Nat.le_of_ble_eq_true rfl), (Nat.le_of_ble_eq_true rfl)⟩ (fun r_3 σ_2 H locs h1 hM hS => ?_)
  replace h := h1
  clear h1
  refine nl_astore_n (i := 3) (lv' := [(3, va_rf r_3), (0, .ref t), (1, .int x1), (2, .int x2)]) hx hb dX3_put_5 rfl hl (by decide) rfl (fun ls hl => ?_)
  refine nl_aload_n hx hb dX3_put_6 rfl (lv_at hl 0 rfl) ?_
  refine nl_ifnull (tgt := 18) hx hb dX3_put_7 (by decide) (fun hn => ?_) (fun a_4 hn => ?_)
  · replace h := h.1 hn
    subst hn
    refine lv_iconst (v := (-1)) hx hb dX3_put_18 (by decide) ?_
    exact W.iret (v := (-1)) hx hb hr (fun t_ ht hW => ⟨⟨_, _, rfl, h, mB_of ht hM⟩, hS.F ht⟩) hS.2.2 dX3_put_19
  · replace h := h.2 a_4 hn
    subst hn
    refine lv_aload_n hx hb dX3_put_10 rfl (lv_at hl 1 rfl) ?_
    refine lv_iload_n hx hb dX3_put_11 rfl (lv_at hl 3 rfl) ?_
    obtain ⟨hk_5, h⟩ := h
    refine clVi (C := RX3) (b := t) (As := [.int x2]) (rest := []) ⟨hx, hb, hml, hown, hts⟩ hM hE hS (ok_X3_isWord l D cs A t x2 _ _ h) (cwV 1 hts gX3_put_X3_isWord rfl rfl rfl (by decide +kernel) ⟨(Nat.le_of_ble_eq_true rfl), (Nat.le_of_ble_eq_true rfl)⟩) (rc3 hM hE.1 hk_5) rfl hl.1 rfl (Nat.le_of_ble_eq_true rfl) dX3_put_12 ⟨(Nat.le_of_ble_eq_true rfl), (Nat.le_of_ble_eq_true rfl)⟩ (fun x_7 σ_6 H locs h1 hM hS => ?_)
    replace h := h1
    clear h1
    refine lv_if_ne (tgt := 20) hx hb dX3_put_15 (by decide) (fun hc => ?_) (fun hc => ?_)
    · replace h := h.1 hc
      refine lv_aload_n hx hb dX3_put_20 rfl (lv_at hl 0 rfl) ?_
      obtain ⟨hk_8, h⟩ := h
      refine gf0_4 hx hb hts inX3_put_0 hown hE.1 hM hk_8 (hts (.fieldLink RX3 107 "WorkCoder$Item" "state" "I") (by decide +kernel)) dX3_put_21 ?_
      refine lv_if_ne (tgt := 39) hx hb dX3_put_24 (by decide) (fun hc => ?_) (fun hc => ?_)
      · replace h := h.1 hc
        refine lv_bipush (v := (-2)) hx hb dX3_put_39 (by decide) ?_
        exact W.iret (v := (-2)) hx hb hr (fun t_ ht hW => ⟨⟨_, _, rfl, h, mB_of ht hM⟩, hS.F ht⟩) hS.2.2 dX3_put_41
      · replace h := h.2 hc
        refine lv_aload_n hx hb dX3_put_27 rfl (lv_at hl 0 rfl) ?_
        refine gf0_2 hx hb hts inX3_put_0 hown hE.1 hM hk_8 (hts (.fieldLink RX3 83 "WorkCoder$Item" "words" "J") (by decide +kernel)) dX3_put_28 ?_
        refine lv_iload_n hx hb dX3_put_31 rfl (lv_at hl 3 rfl) ?_
        refine clSi (As := [.long (mL σ_6 a_4 2), .int x2]) (rest := []) ⟨hx, hb, hml, hown, hts⟩ hM hE hS (ok_X3_bit l D cs A (mL σ_6 a_4 2) x2 _ _ h) (va_cwS 2 hts gX3_put_X3_bit rfl rfl rfl (by decide +kernel) ⟨(Nat.le_of_ble_eq_true rfl), (Nat.le_of_ble_eq_true rfl)⟩) rfl hl.1 rfl (Nat.le_of_ble_eq_true rfl) dX3_put_32 ⟨(Nat.le_of_ble_eq_true rfl), (Nat.le_of_ble_eq_true rfl)⟩ (fun x_10 σ_9 H locs h1 hM hS => ?_)
        replace h := h1
        clear h1
        refine lv_iconst (v := 1) hx hb dX3_put_35 (by decide) ?_
        refine lv_icmp_ne (tgt := 42) hx hb dX3_put_36 (by decide) (fun hc => ?_) (fun hc => ?_)
        · replace h := h.1 hc
          refine lv_aload_n hx hb dX3_put_42 rfl (lv_at hl 0 rfl) ?_
          refine lv_aload_n hx hb dX3_put_43 rfl (lv_at hl 0 rfl) ?_
          obtain ⟨hk_11, h⟩ := h
          refine gf0_2 hx hb hts inX3_put_0 hown hE.1 hM hk_11 (hts (.fieldLink RX3 83 "WorkCoder$Item" "words" "J") (by decide +kernel)) dX3_put_44 ?_
          refine lv_iload_n hx hb dX3_put_47 rfl (lv_at hl 3 rfl) ?_
          refine lv_iconst (v := 1) hx hb dX3_put_48 (by decide) ?_
          refine clSl (As := [.long (mL σ_9 a_4 2), .int x2, .int 1]) (rest := [.ref a_4]) ⟨hx, hb, hml, hown, hts⟩ hM hE hS (ok_X3_withBit l D cs A (mL σ_9 a_4 2) x2 1 _ _ h) (va_cwS 3 hts gX3_put_X3_withBit rfl rfl rfl (by decide +kernel) ⟨(Nat.le_of_ble_eq_true rfl), (Nat.le_of_ble_eq_true rfl)⟩) rfl hl.1 rfl (Nat.le_of_ble_eq_true rfl) dX3_put_49 ⟨(Nat.le_of_ble_eq_true rfl), (Nat.le_of_ble_eq_true rfl)⟩ (fun y_13 σ_12 H locs h1 hM hS => ?_)
          replace h := h1
          clear h1
          obtain ⟨hk_14, h⟩ := h
          refine pf0_2 hx hb hts inX3_put_0 hown hE.1 hM hS hk_14 (hts (.fieldLink RX3 83 "WorkCoder$Item" "words" "J") (by decide +kernel)) dX3_put_52 (fun H locs hM hS => ?_)
          replace h := h _ rfl
          refine lv_aload_n hx hb dX3_put_55 rfl (lv_at hl 0 rfl) ?_
          refine lv_aload_n hx hb dX3_put_56 rfl (lv_at hl 1 rfl) ?_
          refine lv_aload_n hx hb dX3_put_57 rfl (lv_at hl 0 rfl) ?_
          refine gf0_2 hx hb hts inX3_put_0 hown hE.1 hM hk_14 (hts (.fieldLink RX3 83 "WorkCoder$Item" "words" "J") (by decide +kernel)) dX3_put_58 ?_
          obtain ⟨hk_16, h⟩ := h
          refine clVl (C := RX3) (b := t) (As := [.long (mL (sL σ_12 a_4 2 y_13) a_4 2)]) (rest := [.ref a_4]) ⟨hx, hb, hml, hown, hts⟩ hM hE hS (ok_X3_setOf l D cs A t (mL (sL σ_12 a_4 2 y_13) a_4 2) _ _ h) (cwV 1 hts gX3_put_X3_setOf rfl rfl rfl (by decide +kernel) ⟨(Nat.le_of_ble_eq_true rfl), (Nat.le_of_ble_eq_true rfl)⟩) (rc3 hM hE.1 hk_16) rfl hl.1 rfl (Nat.le_of_ble_eq_true rfl) dX3_put_61 ⟨(Nat.le_of_ble_eq_true rfl), (Nat.le_of_ble_eq_true rfl)⟩ (fun y_18 σ_17 H locs h1 hM hS => ?_)
          replace h := h1
          clear h1
          obtain ⟨hk_19, h⟩ := h
          refine pf0_3 hx hb hts inX3_put_0 hown hE.1 hM hS hk_19 (hts (.fieldLink RX3 91 "WorkCoder$Item" "set" "J") (by decide +kernel)) dX3_put_64 (fun H locs hM hS => ?_)
          replace h := h _ rfl
          refine lv_aload_n hx hb dX3_put_67 rfl (lv_at hl 0 rfl) ?_
          refine gf0_2 hx hb hts inX3_put_0 hown hE.1 hM hk_19 (hts (.fieldLink RX3 83 "WorkCoder$Item" "words" "J") (by decide +kernel)) dX3_put_68 ?_
          refine clSi (As := [.long (mL (sL σ_17 a_4 3 y_18) a_4 2)]) (rest := []) ⟨hx, hb, hml, hown, hts⟩ hM hE hS (ok_J13_bitCount_95d88 l D cs A (mL (sL σ_17 a_4 3 y_18) a_4 2) _ _ h) (va_cwS 1 hts gX3_put_J13_bitCount_95d88 rfl rfl rfl (by decide +kernel) ⟨(Nat.le_of_ble_eq_true rfl), (Nat.le_of_ble_eq_true rfl)⟩) rfl hl.1 rfl (Nat.le_of_ble_eq_true rfl) dX3_put_71 ⟨(Nat.le_of_ble_eq_true rfl), (Nat.le_of_ble_eq_true rfl)⟩ (fun x_22 σ_21 H locs h1 hM hS => ?_)
          replace h := h1
          clear h1
          exact W.iret (v := x_22) hx hb hr (fun t_ ht hW => ⟨⟨_, _, rfl, h, mB_of ht hM⟩, hS.F ht⟩) hS.2.2 dX3_put_74
        · replace h := h.2 hc
          refine lv_bipush (v := (-2)) hx hb dX3_put_39 (by decide) ?_
          exact W.iret (v := (-2)) hx hb hr (fun t_ ht hW => ⟨⟨_, _, rfl, h, mB_of ht hM⟩, hS.F ht⟩) hS.2.2 dX3_put_41
    · replace h := h.2 hc
      refine lv_iconst (v := (-1)) hx hb dX3_put_18 (by decide) ?_
      exact W.iret (v := (-1)) hx hb hr (fun t_ ht hW => ⟨⟨_, _, rfl, h, mB_of ht hM⟩, hS.F ht⟩) hS.2.2 dX3_put_19
end S_X3_put
set_option maxHeartbeats 4000000 in
set_option maxRecDepth 100000 in
theorem ok_X3_put (l : Launch) (D : va_G) (cs : CS) (A : Nat → Prop) (t : Nat) (x1 : Int32) (x2 : Int32) (σ : MM) (k : Int32 → MM → Prop) (h : wX3_put t x1 x2 σ k) : Met l yX3_put wsX3_put rmX3_put (va_Pc [.ref t, .int x1, .int x2] (mP D cs A σ)) (va_Qi k (mB D cs A) A) 0 0 A := by
  refine Met.ofW (cc := cX3_put) (maxL := 4) (ret := (some .int)) (by decide) rfl ?_
  intro p e s m args below meth c s₁ B hml hv
  obtain ⟨rfl, hM, hE⟩ := hv
  have CX : CXM p s m _ meth c cX3_put 4 (some .int) "put" RX3 wsX3_put D cs A := ⟨B.exec, B.bytes, hml, B.returns, (name_of_methodNamed B.named B.method).1, findClass_of_methodNamed B.named, atoms_spec (ws := wsX3_put) B.pre, B.notSynchronized, hE⟩
  have hl := lv_entry ([.ref t, .int x1, .int x2]) (n := 4) (Nat.le_of_ble_eq_true rfl)
  rw [lg_entry_eq]
  exact oX3_put_0 CX x1 x2 σ _ _ _ h hM va_S.rf hl
/-! WorkCoder.countAlike(LWorkCoder$Item;)I -/
abbrev rmX3_countAlike : Room := { frames := 1, cells := 0, slots := 0, locals := 21 }
theorem inX3_countAlike_3 : ∀ w ∈ wsX30, w ∈ wsX3_countAlike := fun _ h => List.mem_cons_of_mem _ (List.mem_append_left _ (List.mem_append_right _ (h)))
section S_X3_countAlike
variable {p : Program} {l : Launch} {e : Env} {s : State} {m : MethodId} {args : Array Value} {below : List Frame} {meth : Method} {c : Code} {D : va_G} {cs : CS} {A : Nat → Prop}
set_option maxHeartbeats 4000000 in
set_option maxRecDepth 100000 in
theorem oX3_countAlike_4 {k : Int32 → MM → Prop} {t : Nat} (CX : CXM p s m args meth c cX3_countAlike 4 (some .int) "countAlike" RX3 wsX3_countAlike D cs A) : ∀ (n : Nat), ∀ (r1 : Option Nat) (x2 : Int32) (x3 : Int32) (σ : MM) (H : Heap) (locs : List Loc) (ls : Array Slot), wX3_countAlike_4 k t  n r1 x2 x3 σ → PH D cs A σ H → va_S A s.heap H locs → lv_has ls 4 [(0, .ref t), (1, va_rf r1), (2, .int x2), (3, .int x3)] → W p l e (headSpec wsX3_countAlike rmX3_countAlike).room s m args below meth c H locs 0 0 (MQ below (va_Qi k (mB D cs A) A) args s 0 0 A) (F0 m 4 ls []) := by
  intro n
  induction n with
  | zero => intro r1 x2 x3 σ H locs ls h; exact h.elim
  | succ n ih =>
    intro r1 x2 x3 σ H locs ls h hM hS hl
    have ⟨hx, hb, hml, hr, hnm, hown, hts, hlocks, hE⟩ := CX
    unfold wX3_countAlike_4 at h
    refine lv_iload_n hx hb dX3_countAlike_4 rfl (lv_at hl 3 rfl) ?_
    refine lv_aload_n hx hb dX3_countAlike_5 rfl (lv_at hl 0 rfl) ?_
    obtain ⟨hk_1, h⟩ := h
    refine gf3_5 hx hb hts inX3_countAlike_3 hown hE.1 hM hk_1 (hts (.fieldLink RX3 34 "WorkCoder" "items" "[LWorkCoder$Item;") (by decide +kernel)) dX3_countAlike_6 (fun r_2 er_2 => ?_)
    replace h := h r_2 er_2
    clear er_2
    obtain ⟨a_3, rfl, h⟩ := h
    obtain ⟨hk_4, h⟩ := h
    refine mm_alen9 hx hb hE.1 hM hk_4 dX3_countAlike_9 ?_
    refine lv_icmp_ge (tgt := 44) hx hb dX3_countAlike_10 (by decide) (fun hc => ?_) (fun hc => ?_)
    · replace h := h.1 hc
      refine lv_iload_n hx hb dX3_countAlike_44 rfl (lv_at hl 2 rfl) ?_
      exact W.iret (v := x2) hx hb hr (fun t_ ht hW => ⟨⟨_, _, rfl, h, mB_of ht hM⟩, hS.F ht⟩) hS.2.2 dX3_countAlike_45
    · replace h := h.2 hc
      refine lv_aload_n hx hb dX3_countAlike_13 rfl (lv_at hl 0 rfl) ?_
      refine gf3_5 hx hb hts inX3_countAlike_3 hown hE.1 hM hk_1 (hts (.fieldLink RX3 34 "WorkCoder" "items" "[LWorkCoder$Item;") (by decide +kernel)) dX3_countAlike_14 (fun r_5 er_5 => ?_)
      replace h := h r_5 er_5
      clear er_5
      refine lv_iload_n hx hb dX3_countAlike_17 rfl (lv_at hl 3 rfl) ?_
      obtain ⟨a_6, rfl, h⟩ := h
      obtain ⟨hk_7, h⟩ := h
      obtain ⟨hv_8, h⟩ := h
      refine mm_aald9 hx hb hE.1 hM hk_7 hv_8 dX3_countAlike_18 (fun r_9 er_9 => ?_)
      replace h := h r_9 er_9
      clear er_9
      refine nl_ifnull (tgt := 38) hx hb dX3_countAlike_19 (by decide) (fun hn => ?_) (fun a_10 hn => ?_)
      · replace h := h.1 hn
        subst hn
        obtain ⟨x_11, ex_11⟩ : ∃ y : Int32, y = x3 + 1 := ⟨_, rfl⟩
        replace h := h x_11 ex_11
        refine lv_iinc (v := x_11) (lv' := [(3, .int x_11), (0, .ref t), (1, va_rf r1), (2, .int x2)]) hx hb dX3_countAlike_38 hl (k := 3) rfl (by rw [ex_11]; rfl) (by decide) rfl (fun ls hl => ?_)
        refine lv_goto (tgt := 4) hx hb dX3_countAlike_41 (by decide) ?_
        exact ih _ _ _ _ _ _ _ h hM hS (lv_sub hl [1, 2, 3, 0] rfl)
      · replace h := h.2 a_10 hn
        subst hn
        refine nl_aload_n hx hb dX3_countAlike_22 rfl (lv_at hl 1 rfl) ?_
        refine lv_aload_n hx hb dX3_countAlike_23 rfl (lv_at hl 0 rfl) ?_
        refine gf3_5 hx hb hts inX3_countAlike_3 hown hE.1 hM hk_1 (hts (.fieldLink RX3 34 "WorkCoder" "items" "[LWorkCoder$Item;") (by decide +kernel)) dX3_countAlike_24 (fun r_12 er_12 => ?_)
        replace h := h r_12 er_12
        clear er_12
        refine lv_iload_n hx hb dX3_countAlike_27 rfl (lv_at hl 3 rfl) ?_
        obtain ⟨a_13, rfl, h⟩ := h
        obtain ⟨hk_14, h⟩ := h
        obtain ⟨hv_15, h⟩ := h
        refine mm_aald9 hx hb hE.1 hM hk_14 hv_15 dX3_countAlike_28 (fun r_16 er_16 => ?_)
        replace h := h r_16 er_16
        clear er_16
        obtain ⟨a_17, rfl, h⟩ := h
        obtain ⟨hk_18, h⟩ := h
        refine clVi (C := RX0) (b := a_17) (As := [va_rf r_16]) (rest := []) ⟨hx, hb, hml, hown, hts⟩ hM hE hS (ok_X0_isAlike l D cs A a_17 r_16 _ _ h) (cwV 1 hts gX3_countAlike_X0_isAlike rfl rfl rfl (by decide +kernel) ⟨(Nat.le_of_ble_eq_true rfl), (Nat.le_of_ble_eq_true rfl)⟩) (rc0 hM hE.1 hk_18) rfl hl.1 rfl (Nat.le_of_ble_eq_true rfl) dX3_countAlike_29 ⟨(Nat.le_of_ble_eq_true rfl), (Nat.le_of_ble_eq_true rfl)⟩ (fun x_20 σ_19 H locs h1 hM hS => ?_)
        replace h := h1
        clear h1
        refine lv_if_eq (tgt := 38) hx hb dX3_countAlike_32 (by decide) (fun hc => ?_) (fun hc => ?_)
        · replace h := h.1 hc
          obtain ⟨x_21, ex_21⟩ : ∃ y : Int32, y = x3 + 1 := ⟨_, rfl⟩
          replace h := h x_21 ex_21
          refine lv_iinc (v := x_21) (lv' := [(3, .int x_21), (0, .ref t), (1, .ref a_17), (2, .int x2)]) hx hb dX3_countAlike_38 hl (k := 3) rfl (by rw [ex_21]; rfl) (by decide) rfl (fun ls hl => ?_)
          refine lv_goto (tgt := 4) hx hb dX3_countAlike_41 (by decide) ?_
          exact ih _ _ _ _ _ _ _ h hM hS (lv_sub hl [1, 2, 3, 0] rfl)
        · replace h := h.2 hc
          obtain ⟨x_22, ex_22⟩ : ∃ y : Int32, y = x2 + 1 := ⟨_, rfl⟩
          replace h := h x_22 ex_22
          refine lv_iinc (v := x_22) (lv' := [(2, .int x_22), (0, .ref t), (1, .ref a_17), (3, .int x3)]) hx hb dX3_countAlike_35 hl (k := 2) rfl (by rw [ex_22]; rfl) (by decide) rfl (fun ls hl => ?_)
          obtain ⟨x_23, ex_23⟩ : ∃ y : Int32, y = x3 + 1 := ⟨_, rfl⟩
          replace h := h x_23 ex_23
          refine lv_iinc (v := x_23) (lv' := [(3, .int x_23), (2, .int x_22), (0, .ref t), (1, .ref a_17)]) hx hb dX3_countAlike_38 hl (k := 3) rfl (by rw [ex_23]; rfl) (by decide) rfl (fun ls hl => ?_)
          refine lv_goto (tgt := 4) hx hb dX3_countAlike_41 (by decide) ?_
          exact ih _ _ _ _ _ _ _ h hM hS (lv_sub hl [2, 3, 1, 0] rfl)
set_option maxHeartbeats 4000000 in
set_option maxRecDepth 100000 in
theorem oX3_countAlike_0 {k : Int32 → MM → Prop} {t : Nat} (CX : CXM p s m args meth c cX3_countAlike 4 (some .int) "countAlike" RX3 wsX3_countAlike D cs A) : ∀ (r1 : Option Nat) (σ : MM) (H : Heap) (locs : List Loc) (ls : Array Slot), wX3_countAlike t r1 σ k → PH D cs A σ H → va_S A s.heap H locs → lv_has ls 4 [(0, .ref t), (1, va_rf r1)] → W p l e (headSpec wsX3_countAlike rmX3_countAlike).room s m args below meth c H locs 0 0 (MQ below (va_Qi k (mB D cs A) A) args s 0 0 A) (F0 m 0 ls []) := by
  intro r1 σ H locs ls h hM hS hl
  have ⟨hx, hb, hml, hr, hnm, hown, hts, hlocks, hE⟩ := CX
  unfold wX3_countAlike at h
  refine lv_iconst (v := 0) hx hb dX3_countAlike_0 (by decide) ?_
  refine lv_istore_n (i := 2) (lv' := [(2, .int 0), (0, .ref t), (1, va_rf r1)]) hx hb dX3_countAlike_1 rfl hl (by decide) (by simp [nl_cat] <;> rfl) (fun ls hl => ?_)
  refine lv_iconst (v := 0) hx hb dX3_countAlike_2 (by decide) ?_
  refine lv_istore_n (i := 3) (lv' := [(3, .int 0), (2, .int 0), (0, .ref t), (1, va_rf r1)]) hx hb dX3_countAlike_3 rfl hl (by decide) rfl (fun ls hl => ?_)
  obtain ⟨n0, h⟩ := h
  exact oX3_countAlike_4 CX  n0 _ _ _ _ _ _ _ h hM hS (lv_sub hl [2, 3, 1, 0] rfl)
end S_X3_countAlike
set_option maxHeartbeats 4000000 in
set_option maxRecDepth 100000 in
theorem ok_X3_countAlike (l : Launch) (D : va_G) (cs : CS) (A : Nat → Prop) (t : Nat) (r1 : Option Nat) (σ : MM) (k : Int32 → MM → Prop) (h : wX3_countAlike t r1 σ k) : Met l yX3_countAlike wsX3_countAlike rmX3_countAlike (va_Pc [.ref t, va_rf r1] (mP D cs A σ)) (va_Qi k (mB D cs A) A) 0 0 A := by
  refine Met.ofW (cc := cX3_countAlike) (maxL := 4) (ret := (some .int)) (by decide) rfl ?_
  intro p e s m args below meth c s₁ B hml hv
  obtain ⟨rfl, hM, hE⟩ := hv
  have CX : CXM p s m _ meth c cX3_countAlike 4 (some .int) "countAlike" RX3 wsX3_countAlike D cs A := ⟨B.exec, B.bytes, hml, B.returns, (name_of_methodNamed B.named B.method).1, findClass_of_methodNamed B.named, atoms_spec (ws := wsX3_countAlike) B.pre, B.notSynchronized, hE⟩
  cases r1 with
  | none =>
    have hl := lv_entry ([.ref t, va_rf none]) (n := 4) (Nat.le_of_ble_eq_true rfl)
    rw [lg_entry_eq]
    exact oX3_countAlike_0 CX none σ _ _ _ h hM va_S.rf hl
  | some a0 =>
    have hl := lv_entry ([.ref t, va_rf (some a0)]) (n := 4) (Nat.le_of_ble_eq_true rfl)
    rw [lg_entry_eq]
    exact oX3_countAlike_0 CX (some a0) σ _ _ _ h hM va_S.rf hl
/-! WorkCoder.set(II)I -/
abbrev rmX3_set : Room := { frames := 2, cells := 0, slots := 0, locals := 44 }
theorem inX3_set_0 : ∀ w ∈ wsX00, w ∈ wsX3_set := fun _ h => List.mem_cons_of_mem _ (List.mem_append_left _ (List.mem_append_right _ (h)))
section S_X3_set
variable {p : Program} {l : Launch} {e : Env} {s : State} {m : MethodId} {args : Array Value} {below : List Frame} {meth : Method} {c : Code} {D : va_G} {cs : CS} {A : Nat → Prop}
set_option maxHeartbeats 4000000 in
set_option maxRecDepth 100000 in
theorem oX3_set_0 {k : Int32 → MM → Prop} {t : Nat} (CX : CXM p s m args meth c cX3_set 4 (some .int) "set" RX3 wsX3_set D cs A) : ∀ (x1 : Int32) (x2 : Int32) (σ : MM) (H : Heap) (locs : List Loc) (ls : Array Slot), wX3_set t x1 x2 σ k → PH D cs A σ H → va_S A s.heap H locs → lv_has ls 4 [(0, .ref t), (1, .int x1), (2, .int x2)] → W p l e (headSpec wsX3_set rmX3_set).room s m args below meth c H locs 0 0 (MQ below (va_Qi k (mB D cs A) A) args s 0 0 A) (F0 m 0 ls []) := by
  intro x1 x2 σ H locs ls h hM hS hl
  have ⟨hx, hb, hml, hr, hnm, hown, hts, hlocks, hE⟩ := CX
  unfold wX3_set at h
  refine lv_aload_n hx hb dX3_set_0 rfl (lv_at hl 0 rfl) ?_
  refine lv_iload_n hx hb dX3_set_1 rfl (lv_at hl 1 rfl) ?_
  obtain ⟨hk_1, h⟩ := h
  refine clVq (C := RX3) (b := t) (As := [.int x1]) (rest := []) ⟨hx, hb, hml, hown, hts⟩ hM hE hS (ok_X3_itemAt l D cs A t x1 _ _ h) (cwV 1 hts gX3_set_X3_itemAt rfl rfl rfl (by decide +kernel) ⟨(Nat.le_of_ble_eq_true rfl), (Nat.le_of_ble_eq_true rfl)⟩) (rc3 hM hE.1 hk_1) rfl hl.1 rfl (Nat.le_of_ble_eq_true rfl) dX3_set_2 ⟨(Nat.le_of_ble_eq_true rfl), (Nat.le_of_ble_eq_true rfl)⟩ (fun r_3 σ_2 H locs h1 hM hS => ?_)
  replace h := h1
  clear h1
  refine nl_astore_n (i := 3) (lv' := [(3, va_rf r_3), (0, .ref t), (1, .int x1), (2, .int x2)]) hx hb dX3_set_5 rfl hl (by decide) rfl (fun ls hl => ?_)
  refine nl_aload_n hx hb dX3_set_6 rfl (lv_at hl 0 rfl) ?_
  refine nl_ifnull (tgt := 19) hx hb dX3_set_7 (by decide) (fun hn => ?_) (fun a_4 hn => ?_)
  · replace h := h.1 hn
    subst hn
    refine lv_iconst (v := (-1)) hx hb dX3_set_19 (by decide) ?_
    exact W.iret (v := (-1)) hx hb hr (fun t_ ht hW => ⟨⟨_, _, rfl, h, mB_of ht hM⟩, hS.F ht⟩) hS.2.2 dX3_set_20
  · replace h := h.2 a_4 hn
    subst hn
    refine lv_iload_n hx hb dX3_set_10 rfl (lv_at hl 3 rfl) ?_
    refine lv_iconst (v := 0) hx hb dX3_set_11 (by decide) ?_
    refine lv_iconst (v := 1) hx hb dX3_set_12 (by decide) ?_
    refine clSi (As := [.int x2, .int 0, .int 1]) (rest := []) ⟨hx, hb, hml, hown, hts⟩ hM hE hS (ok_X3_isIn l D cs A x2 0 1 _ _ h) (va_cwS 3 hts gX3_set_X3_isIn rfl rfl rfl (by decide +kernel) ⟨(Nat.le_of_ble_eq_true rfl), (Nat.le_of_ble_eq_true rfl)⟩) rfl hl.1 rfl (Nat.le_of_ble_eq_true rfl) dX3_set_13 ⟨(Nat.le_of_ble_eq_true rfl), (Nat.le_of_ble_eq_true rfl)⟩ (fun x_6 σ_5 H locs h1 hM hS => ?_)
    replace h := h1
    clear h1
    refine lv_if_ne (tgt := 21) hx hb dX3_set_16 (by decide) (fun hc => ?_) (fun hc => ?_)
    · replace h := h.1 hc
      refine lv_iload_n hx hb dX3_set_21 rfl (lv_at hl 3 rfl) ?_
      refine lv_if_ne (tgt := 35) hx hb dX3_set_22 (by decide) (fun hc => ?_) (fun hc => ?_)
      · replace h := h.1 hc
        refine lv_aload_n hx hb dX3_set_35 rfl (lv_at hl 1 rfl) ?_
        refine lv_aload_n hx hb dX3_set_36 rfl (lv_at hl 0 rfl) ?_
        obtain ⟨hk_7, h⟩ := h
        refine clVi (C := RX3) (b := t) (As := [.ref a_4]) (rest := []) ⟨hx, hb, hml, hown, hts⟩ hM hE hS (ok_X3_countAlike l D cs A t (some a_4) _ _ h) (cwV 1 hts gX3_set_X3_countAlike rfl rfl rfl (by decide +kernel) ⟨(Nat.le_of_ble_eq_true rfl), (Nat.le_of_ble_eq_true rfl)⟩) (rc3 hM hE.1 hk_7) rfl hl.1 rfl (Nat.le_of_ble_eq_true rfl) dX3_set_37 ⟨(Nat.le_of_ble_eq_true rfl), (Nat.le_of_ble_eq_true rfl)⟩ (fun x_9 σ_8 H locs h1 hM hS => ?_)
        replace h := h1
        clear h1
        exact W.iret (v := x_9) hx hb hr (fun t_ ht hW => ⟨⟨_, _, rfl, h, mB_of ht hM⟩, hS.F ht⟩) hS.2.2 dX3_set_40
      · replace h := h.2 hc
        refine lv_aload_n hx hb dX3_set_25 rfl (lv_at hl 0 rfl) ?_
        obtain ⟨hk_10, h⟩ := h
        refine gf0_3 hx hb hts inX3_set_0 hown hE.1 hM hk_10 (hts (.fieldLink RX3 91 "WorkCoder$Item" "set" "J") (by decide +kernel)) dX3_set_26 ?_
        refine clSi (As := [.long (mL σ_5 a_4 3)]) (rest := []) ⟨hx, hb, hml, hown, hts⟩ hM hE hS (ok_J13_bitCount_95d88 l D cs A (mL σ_5 a_4 3) _ _ h) (va_cwS 1 hts gX3_set_J13_bitCount_95d88 rfl rfl rfl (by decide +kernel) ⟨(Nat.le_of_ble_eq_true rfl), (Nat.le_of_ble_eq_true rfl)⟩) rfl hl.1 rfl (Nat.le_of_ble_eq_true rfl) dX3_set_29 ⟨(Nat.le_of_ble_eq_true rfl), (Nat.le_of_ble_eq_true rfl)⟩ (fun x_12 σ_11 H locs h1 hM hS => ?_)
        replace h := h1
        clear h1
        refine lv_goto (tgt := 40) hx hb dX3_set_32 (by decide) ?_
        exact W.iret (v := x_12) hx hb hr (fun t_ ht hW => ⟨⟨_, _, rfl, h, mB_of ht hM⟩, hS.F ht⟩) hS.2.2 dX3_set_40
    · replace h := h.2 hc
      refine lv_iconst (v := (-1)) hx hb dX3_set_19 (by decide) ?_
      exact W.iret (v := (-1)) hx hb hr (fun t_ ht hW => ⟨⟨_, _, rfl, h, mB_of ht hM⟩, hS.F ht⟩) hS.2.2 dX3_set_20
end S_X3_set
set_option maxHeartbeats 4000000 in
set_option maxRecDepth 100000 in
theorem ok_X3_set (l : Launch) (D : va_G) (cs : CS) (A : Nat → Prop) (t : Nat) (x1 : Int32) (x2 : Int32) (σ : MM) (k : Int32 → MM → Prop) (h : wX3_set t x1 x2 σ k) : Met l yX3_set wsX3_set rmX3_set (va_Pc [.ref t, .int x1, .int x2] (mP D cs A σ)) (va_Qi k (mB D cs A) A) 0 0 A := by
  refine Met.ofW (cc := cX3_set) (maxL := 4) (ret := (some .int)) (by decide) rfl ?_
  intro p e s m args below meth c s₁ B hml hv
  obtain ⟨rfl, hM, hE⟩ := hv
  have CX : CXM p s m _ meth c cX3_set 4 (some .int) "set" RX3 wsX3_set D cs A := ⟨B.exec, B.bytes, hml, B.returns, (name_of_methodNamed B.named B.method).1, findClass_of_methodNamed B.named, atoms_spec (ws := wsX3_set) B.pre, B.notSynchronized, hE⟩
  have hl := lv_entry ([.ref t, .int x1, .int x2]) (n := 4) (Nat.le_of_ble_eq_true rfl)
  rw [lg_entry_eq]
  exact oX3_set_0 CX x1 x2 σ _ _ _ h hM va_S.rf hl
/-! WorkCoder.rule(III)I -/
abbrev rmX3_rule : Room := { frames := 2, cells := 1, slots := 6, locals := 43 }
theorem inX3_rule_1 : ∀ w ∈ wsX10, w ∈ wsX3_rule := fun _ h => List.mem_cons_of_mem _ (List.mem_append_left _ (List.mem_append_right _ (h)))
theorem inX3_rule_3 : ∀ w ∈ wsX30, w ∈ wsX3_rule := fun _ h => List.mem_cons_of_mem _ (List.mem_append_left _ (List.mem_append_left _ (List.mem_append_right _ (h))))
section S_X3_rule
variable {p : Program} {l : Launch} {e : Env} {s : State} {m : MethodId} {args : Array Value} {below : List Frame} {meth : Method} {c : Code} {D : va_G} {cs : CS} {A : Nat → Prop}
set_option maxHeartbeats 4000000 in
set_option maxRecDepth 100000 in
theorem oX3_rule_0 {k : Int32 → MM → Prop} {t : Nat} (CX : CXM p s m args meth c cX3_rule 4 (some .int) "rule" RX3 wsX3_rule D cs A) : ∀ (x1 : Int32) (x2 : Int32) (x3 : Int32) (σ : MM) (H : Heap) (locs : List Loc) (ls : Array Slot), wX3_rule t x1 x2 x3 σ k → PH D cs A σ H → va_S A s.heap H locs → lv_has ls 4 [(0, .ref t), (1, .int x1), (2, .int x2), (3, .int x3)] → W p l e (headSpec wsX3_rule rmX3_rule).room s m args below meth c H locs 0 0 (MQ below (va_Qi k (mB D cs A) A) args s 1 6 A) (F0 m 0 ls []) := by
  intro x1 x2 x3 σ H locs ls h hM hS hl
  have ⟨hx, hb, hml, hr, hnm, hown, hts, hlocks, hE⟩ := CX
  unfold wX3_rule at h
  refine lv_iload_n hx hb dX3_rule_0 rfl (lv_at hl 1 rfl) ?_
  refine clSi (As := [.int x1]) (rest := []) ⟨hx, hb, hml, hown, hts⟩ hM hE hS (ok_X3_isDigit l D cs A x1 _ _ h) (va_cwS 1 hts gX3_rule_X3_isDigit rfl rfl rfl (by decide +kernel) ⟨(Nat.le_of_ble_eq_true rfl), (Nat.le_of_ble_eq_true rfl)⟩) rfl hl.1 rfl (Nat.le_of_ble_eq_true rfl) dX3_rule_1 ⟨(Nat.le_of_ble_eq_true rfl), (Nat.le_of_ble_eq_true rfl)⟩ (fun x_2 σ_1 H locs h1 hM hS => ?_)
  replace h := h1
  clear h1
  refine lv_if_eq (tgt := 26) hx hb dX3_rule_4 (by decide) (fun hc => ?_) (fun hc => ?_)
  · replace h := h.1 hc
    refine lv_iconst (v := (-1)) hx hb dX3_rule_26 (by decide) ?_
    refine W.widen (k := 1) (n := 6) (Nat.le_of_ble_eq_true rfl) (Nat.le_of_ble_eq_true rfl) ?_
    exact W.iret (v := (-1)) hx hb hr (fun t_ ht hW => ⟨⟨_, _, rfl, h, mB_of ht hM⟩, hS.F ht⟩) hS.2.2 dX3_rule_27
  · replace h := h.2 hc
    refine lv_aload_n hx hb dX3_rule_7 rfl (lv_at hl 0 rfl) ?_
    refine lv_iload_n hx hb dX3_rule_8 rfl (lv_at hl 2 rfl) ?_
    obtain ⟨hk_3, h⟩ := h
    refine clVi (C := RX3) (b := t) (As := [.int x2]) (rest := []) ⟨hx, hb, hml, hown, hts⟩ hM hE hS (ok_X3_isCode l D cs A t x2 _ _ h) (cwV 1 hts gX3_rule_X3_isCode rfl rfl rfl (by decide +kernel) ⟨(Nat.le_of_ble_eq_true rfl), (Nat.le_of_ble_eq_true rfl)⟩) (rc3 hM hE.1 hk_3) rfl hl.1 rfl (Nat.le_of_ble_eq_true rfl) dX3_rule_9 ⟨(Nat.le_of_ble_eq_true rfl), (Nat.le_of_ble_eq_true rfl)⟩ (fun x_5 σ_4 H locs h1 hM hS => ?_)
    replace h := h1
    clear h1
    refine lv_if_eq (tgt := 26) hx hb dX3_rule_12 (by decide) (fun hc => ?_) (fun hc => ?_)
    · replace h := h.1 hc
      refine lv_iconst (v := (-1)) hx hb dX3_rule_26 (by decide) ?_
      refine W.widen (k := 1) (n := 6) (Nat.le_of_ble_eq_true rfl) (Nat.le_of_ble_eq_true rfl) ?_
      exact W.iret (v := (-1)) hx hb hr (fun t_ ht hW => ⟨⟨_, _, rfl, h, mB_of ht hM⟩, hS.F ht⟩) hS.2.2 dX3_rule_27
    · replace h := h.2 hc
      refine lv_iload_n hx hb dX3_rule_15 rfl (lv_at hl 3 rfl) ?_
      refine lv_iconst (v := 0) hx hb dX3_rule_16 (by decide) ?_
      refine lv_sipush (v := 1023) hx hb dX3_rule_17 (by decide) ?_
      refine clSi (As := [.int x3, .int 0, .int 1023]) (rest := []) ⟨hx, hb, hml, hown, hts⟩ hM hE hS (ok_X3_isIn l D cs A x3 0 1023 _ _ h) (va_cwS 3 hts gX3_rule_X3_isIn rfl rfl rfl (by decide +kernel) ⟨(Nat.le_of_ble_eq_true rfl), (Nat.le_of_ble_eq_true rfl)⟩) rfl hl.1 rfl (Nat.le_of_ble_eq_true rfl) dX3_rule_20 ⟨(Nat.le_of_ble_eq_true rfl), (Nat.le_of_ble_eq_true rfl)⟩ (fun x_7 σ_6 H locs h1 hM hS => ?_)
      replace h := h1
      clear h1
      refine lv_if_ne (tgt := 28) hx hb dX3_rule_23 (by decide) (fun hc => ?_) (fun hc => ?_)
      · replace h := h.1 hc
        refine lv_aload_n hx hb dX3_rule_28 rfl (lv_at hl 0 rfl) ?_
        obtain ⟨hk_8, h⟩ := h
        refine gf3_8 hx hb hts inX3_rule_3 hown hE.1 hM hk_8 (hts (.fieldLink RX3 48 "WorkCoder" "ruleCount" "I") (by decide +kernel)) dX3_rule_29 ?_
        refine lv_aload_n hx hb dX3_rule_32 rfl (lv_at hl 0 rfl) ?_
        refine gf3_7 hx hb hts inX3_rule_3 hown hE.1 hM hk_8 (hts (.fieldLink RX3 44 "WorkCoder" "rules" "[LWorkCoder$Rule;") (by decide +kernel)) dX3_rule_33 (fun r_9 er_9 => ?_)
        replace h := h r_9 er_9
        clear er_9
        obtain ⟨a_10, rfl, h⟩ := h
        obtain ⟨hk_11, h⟩ := h
        refine mm_alen10 hx hb hE.1 hM hk_11 dX3_rule_36 ?_
        refine lv_icmp_lt (tgt := 43) hx hb dX3_rule_37 (by decide) (fun hc => ?_) (fun hc => ?_)
        · replace h := h.1 hc
          refine lv_aload_n hx hb dX3_rule_43 rfl (lv_at hl 0 rfl) ?_
          refine gf3_7 hx hb hts inX3_rule_3 hown hE.1 hM hk_8 (hts (.fieldLink RX3 44 "WorkCoder" "rules" "[LWorkCoder$Rule;") (by decide +kernel)) dX3_rule_44 (fun r_12 er_12 => ?_)
          replace h := h r_12 er_12
          clear er_12
          refine lv_aload_n hx hb dX3_rule_47 rfl (lv_at hl 0 rfl) ?_
          refine gf3_8 hx hb hts inX3_rule_3 hown hE.1 hM hk_8 (hts (.fieldLink RX3 48 "WorkCoder" "ruleCount" "I") (by decide +kernel)) dX3_rule_48 ?_
          refine nw1 hx hb hts inX3_rule_1 hown (hts (.classLink RX3 42 RX1) (by decide +kernel)) (hts (.instantiable RX1 6) (by decide +kernel)) (hts (.initialized RX1) (by decide +kernel)) hE.1 hM hS hE.2.1 (Nat.le_of_ble_eq_true rfl) (Nat.le_of_ble_eq_true rfl) dX3_rule_51 (fun a_13 H ha_13 hM hS => ?_)
          replace h := h a_13 ha_13 _ rfl
          have hk_8 := mK_keep (kd := 2) (n := 0) hk_8 (by decide) ha_13
          have hk_11 := mK_keep (kd := 2) (n := 0) hk_11 (by decide) ha_13
          have hk_15 := mK_new (kd := 2) (n := 0) ha_13
          refine lv_dup hx hb dX3_rule_54 rfl ?_
          refine lv_iload_n hx hb dX3_rule_55 rfl (lv_at hl 1 rfl) ?_
          refine lv_iload_n hx hb dX3_rule_56 rfl (lv_at hl 2 rfl) ?_
          refine lv_iload_n hx hb dX3_rule_57 rfl (lv_at hl 3 rfl) ?_
          refine clIv (b := a_13) (As := [.int x1, .int x2, .int x3]) (rest := [.ref a_13, .int (mI σ_6 t 8), va_rf r_12]) ⟨hx, hb, hml, hown, hts⟩ hM hE hS (ok_X1_init l D cs A a_13 x1 x2 x3 _ _ h) (cwI 3 hts gX3_rule_X1_init rfl rfl rfl (hts (.initialized RX1) (by decide +kernel)) (hts (.methodLink RX3 120 yX1_init) (by decide +kernel)) (hts (.instanceMethod yX1_init) (by decide +kernel)) rfl (by decide +kernel) ⟨(Nat.le_of_ble_eq_true rfl), (Nat.le_of_ble_eq_true rfl)⟩) rfl hl.1 rfl (cat_le (Nat.le_of_ble_eq_true rfl)) dX3_rule_58 ⟨(Nat.le_of_ble_eq_true rfl), (Nat.le_of_ble_eq_true rfl)⟩ (fun σ_16 H locs h1 hM hS => ?_)
          replace h := h1
          clear h1
          obtain ⟨a_18, rfl, h⟩ := h
          obtain ⟨hk_19, h⟩ := h
          obtain ⟨hk_21, h⟩ := h
          obtain ⟨hv_20, h⟩ := h
          refine mm_aast10 hx hb hE.1 hM hS hk_19 hk_21 hv_20 dX3_rule_61 (fun H locs hM hS => ?_)
          replace h := h _ rfl
          refine lv_aload_n hx hb dX3_rule_62 rfl (lv_at hl 0 rfl) ?_
          refine lv_dup hx hb dX3_rule_63 rfl ?_
          obtain ⟨hk_23, h⟩ := h
          refine gf3_8 hx hb hts inX3_rule_3 hown hE.1 hM hk_23 (hts (.fieldLink RX3 48 "WorkCoder" "ruleCount" "I") (by decide +kernel)) dX3_rule_64 ?_
          refine lv_iconst (v := 1) hx hb dX3_rule_67 (by decide) ?_
          refine lv_iadd hx hb dX3_rule_68 ?_
          refine pf3_8 hx hb hts inX3_rule_3 hown hE.1 hM hS hk_23 (hts (.fieldLink RX3 48 "WorkCoder" "ruleCount" "I") (by decide +kernel)) dX3_rule_69 (fun H locs hM hS => ?_)
          replace h := h _ rfl
          refine lv_aload_n hx hb dX3_rule_72 rfl (lv_at hl 0 rfl) ?_
          refine gf3_8 hx hb hts inX3_rule_3 hown hE.1 hM hk_23 (hts (.fieldLink RX3 48 "WorkCoder" "ruleCount" "I") (by decide +kernel)) dX3_rule_73 ?_
          refine lv_iconst (v := 1) hx hb dX3_rule_76 (by decide) ?_
          refine lv_isub hx hb dX3_rule_77 ?_
          refine W.widen (k := 1) (n := 6) (Nat.le_of_ble_eq_true rfl) (Nat.le_of_ble_eq_true rfl) ?_
          exact W.iret (v := (mI (sI (sR σ_16 a_18 (ix (mI σ_6 t 8)) (some a_13)) t 8 ((mI (sR σ_16 a_18 (ix (mI σ_6 t 8)) (some a_13)) t 8) + 1)) t 8) - 1) hx hb hr (fun t_ ht hW => ⟨⟨_, _, rfl, h, mB_of ht hM⟩, hS.F ht⟩) hS.2.2 dX3_rule_78
        · replace h := h.2 hc
          refine lv_bipush (v := (-3)) hx hb dX3_rule_40 (by decide) ?_
          refine W.widen (k := 1) (n := 6) (Nat.le_of_ble_eq_true rfl) (Nat.le_of_ble_eq_true rfl) ?_
          exact W.iret (v := (-3)) hx hb hr (fun t_ ht hW => ⟨⟨_, _, rfl, h, mB_of ht hM⟩, hS.F ht⟩) hS.2.2 dX3_rule_42
      · replace h := h.2 hc
        refine lv_iconst (v := (-1)) hx hb dX3_rule_26 (by decide) ?_
        refine W.widen (k := 1) (n := 6) (Nat.le_of_ble_eq_true rfl) (Nat.le_of_ble_eq_true rfl) ?_
        exact W.iret (v := (-1)) hx hb hr (fun t_ ht hW => ⟨⟨_, _, rfl, h, mB_of ht hM⟩, hS.F ht⟩) hS.2.2 dX3_rule_27
end S_X3_rule
set_option maxHeartbeats 4000000 in
set_option maxRecDepth 100000 in
theorem ok_X3_rule (l : Launch) (D : va_G) (cs : CS) (A : Nat → Prop) (t : Nat) (x1 : Int32) (x2 : Int32) (x3 : Int32) (σ : MM) (k : Int32 → MM → Prop) (h : wX3_rule t x1 x2 x3 σ k) : Met l yX3_rule wsX3_rule rmX3_rule (va_Pc [.ref t, .int x1, .int x2, .int x3] (mP D cs A σ)) (va_Qi k (mB D cs A) A) 1 6 A := by
  refine Met.ofW (cc := cX3_rule) (maxL := 4) (ret := (some .int)) (by decide) rfl ?_
  intro p e s m args below meth c s₁ B hml hv
  obtain ⟨rfl, hM, hE⟩ := hv
  have CX : CXM p s m _ meth c cX3_rule 4 (some .int) "rule" RX3 wsX3_rule D cs A := ⟨B.exec, B.bytes, hml, B.returns, (name_of_methodNamed B.named B.method).1, findClass_of_methodNamed B.named, atoms_spec (ws := wsX3_rule) B.pre, B.notSynchronized, hE⟩
  have hl := lv_entry ([.ref t, .int x1, .int x2, .int x3]) (n := 4) (Nat.le_of_ble_eq_true rfl)
  rw [lg_entry_eq]
  exact oX3_rule_0 CX x1 x2 x3 σ _ _ _ h hM va_S.rf hl
/-! WorkCoder.ruleAt(I)LWorkCoder$Rule; -/
abbrev rmX3_ruleAt : Room := { frames := 0, cells := 0, slots := 0, locals := 0 }
theorem inX3_ruleAt_3 : ∀ w ∈ wsX30, w ∈ wsX3_ruleAt := fun _ h => List.mem_cons_of_mem _ (List.mem_append_right _ (h))
section S_X3_ruleAt
variable {p : Program} {l : Launch} {e : Env} {s : State} {m : MethodId} {args : Array Value} {below : List Frame} {meth : Method} {c : Code} {D : va_G} {cs : CS} {A : Nat → Prop}
set_option maxHeartbeats 4000000 in
set_option maxRecDepth 100000 in
theorem oX3_ruleAt_0 {k : Option Nat → MM → Prop} {t : Nat} (CX : CXM p s m args meth c cX3_ruleAt 2 (some (.object "WorkCoder$Rule")) "ruleAt" RX3 wsX3_ruleAt D cs A) : ∀ (x1 : Int32) (σ : MM) (H : Heap) (locs : List Loc) (ls : Array Slot), wX3_ruleAt t x1 σ k → PH D cs A σ H → va_S A s.heap H locs → lv_has ls 2 [(0, .ref t), (1, .int x1)] → W p l e (headSpec wsX3_ruleAt rmX3_ruleAt).room s m args below meth c H locs 0 0 (MQ below (va_Qq k (mB D cs A) A) args s 0 0 A) (F0 m 0 ls []) := by
  intro x1 σ H locs ls h hM hS hl
  have ⟨hx, hb, hml, hr, hnm, hown, hts, hlocks, hE⟩ := CX
  unfold wX3_ruleAt at h
  refine lv_iload_n hx hb dX3_ruleAt_0 rfl (lv_at hl 1 rfl) ?_
  refine lv_if_lt (tgt := 22) hx hb dX3_ruleAt_1 (by decide) (fun hc => ?_) (fun hc => ?_)
  · replace h := h.1 hc
    refine lv_null hx hb dX3_ruleAt_22 ?_
    exact W.aret (v := va_rf none) hx hb hr (Or.inl ⟨_, rfl⟩) (nl_ret none) (fun t_ ht hW => ⟨⟨none, _, rfl, h, mB_of ht hM⟩, hS.F ht⟩) hS.2.2 dX3_ruleAt_23
  · replace h := h.2 hc
    refine lv_iload_n hx hb dX3_ruleAt_4 rfl (lv_at hl 1 rfl) ?_
    refine lv_aload_n hx hb dX3_ruleAt_5 rfl (lv_at hl 0 rfl) ?_
    obtain ⟨hk_1, h⟩ := h
    refine gf3_7 hx hb hts inX3_ruleAt_3 hown hE.1 hM hk_1 (hts (.fieldLink RX3 44 "WorkCoder" "rules" "[LWorkCoder$Rule;") (by decide +kernel)) dX3_ruleAt_6 (fun r_2 er_2 => ?_)
    replace h := h r_2 er_2
    clear er_2
    obtain ⟨a_3, rfl, h⟩ := h
    obtain ⟨hk_4, h⟩ := h
    refine mm_alen10 hx hb hE.1 hM hk_4 dX3_ruleAt_9 ?_
    refine lv_icmp_ge (tgt := 22) hx hb dX3_ruleAt_10 (by decide) (fun hc => ?_) (fun hc => ?_)
    · replace h := h.1 hc
      refine lv_null hx hb dX3_ruleAt_22 ?_
      exact W.aret (v := va_rf none) hx hb hr (Or.inl ⟨_, rfl⟩) (nl_ret none) (fun t_ ht hW => ⟨⟨none, _, rfl, h, mB_of ht hM⟩, hS.F ht⟩) hS.2.2 dX3_ruleAt_23
    · replace h := h.2 hc
      refine lv_aload_n hx hb dX3_ruleAt_13 rfl (lv_at hl 0 rfl) ?_
      refine gf3_7 hx hb hts inX3_ruleAt_3 hown hE.1 hM hk_1 (hts (.fieldLink RX3 44 "WorkCoder" "rules" "[LWorkCoder$Rule;") (by decide +kernel)) dX3_ruleAt_14 (fun r_5 er_5 => ?_)
      replace h := h r_5 er_5
      clear er_5
      refine lv_iload_n hx hb dX3_ruleAt_17 rfl (lv_at hl 1 rfl) ?_
      obtain ⟨a_6, rfl, h⟩ := h
      obtain ⟨hk_7, h⟩ := h
      obtain ⟨hv_8, h⟩ := h
      refine mm_aald10 hx hb hE.1 hM hk_7 hv_8 dX3_ruleAt_18 (fun r_9 er_9 => ?_)
      replace h := h r_9 er_9
      clear er_9
      refine lv_goto (tgt := 23) hx hb dX3_ruleAt_19 (by decide) ?_
      exact W.aret (v := va_rf r_9) hx hb hr (Or.inl ⟨_, rfl⟩) (nl_ret r_9) (fun t_ ht hW => ⟨⟨r_9, _, rfl, h, mB_of ht hM⟩, hS.F ht⟩) hS.2.2 dX3_ruleAt_23
end S_X3_ruleAt
set_option maxHeartbeats 4000000 in
set_option maxRecDepth 100000 in
theorem ok_X3_ruleAt (l : Launch) (D : va_G) (cs : CS) (A : Nat → Prop) (t : Nat) (x1 : Int32) (σ : MM) (k : Option Nat → MM → Prop) (h : wX3_ruleAt t x1 σ k) : Met l yX3_ruleAt wsX3_ruleAt rmX3_ruleAt (va_Pc [.ref t, .int x1] (mP D cs A σ)) (va_Qq k (mB D cs A) A) 0 0 A := by
  refine Met.ofW (cc := cX3_ruleAt) (maxL := 2) (ret := (some (.object "WorkCoder$Rule"))) (by decide) rfl ?_
  intro p e s m args below meth c s₁ B hml hv
  obtain ⟨rfl, hM, hE⟩ := hv
  have CX : CXM p s m _ meth c cX3_ruleAt 2 (some (.object "WorkCoder$Rule")) "ruleAt" RX3 wsX3_ruleAt D cs A := ⟨B.exec, B.bytes, hml, B.returns, (name_of_methodNamed B.named B.method).1, findClass_of_methodNamed B.named, atoms_spec (ws := wsX3_ruleAt) B.pre, B.notSynchronized, hE⟩
  have hl := lv_entry ([.ref t, .int x1]) (n := 2) (Nat.le_of_ble_eq_true rfl)
  rw [lg_entry_eq]
  exact oX3_ruleAt_0 CX x1 σ _ _ _ h hM va_S.rf hl
/-! WorkCoder.with(III)I -/
abbrev rmX3_with : Room := { frames := 2, cells := 0, slots := 0, locals := 46 }
theorem inX3_with_1 : ∀ w ∈ wsX10, w ∈ wsX3_with := fun _ h => List.mem_cons_of_mem _ (List.mem_append_left _ (List.mem_append_right _ (h)))
section S_X3_with
variable {p : Program} {l : Launch} {e : Env} {s : State} {m : MethodId} {args : Array Value} {below : List Frame} {meth : Method} {c : Code} {D : va_G} {cs : CS} {A : Nat → Prop}
set_option maxHeartbeats 4000000 in
set_option maxRecDepth 100000 in
theorem oX3_with_0 {k : Int32 → MM → Prop} {t : Nat} (CX : CXM p s m args meth c cX3_with 5 (some .int) "with" RX3 wsX3_with D cs A) : ∀ (x1 : Int32) (x2 : Int32) (x3 : Int32) (σ : MM) (H : Heap) (locs : List Loc) (ls : Array Slot), wX3_with t x1 x2 x3 σ k → PH D cs A σ H → va_S A s.heap H locs → lv_has ls 5 [(0, .ref t), (1, .int x1), (2, .int x2), (3, .int x3)] → W p l e (headSpec wsX3_with rmX3_with).room s m args below meth c H locs 0 0 (MQ below (va_Qi k (mB D cs A) A) args s 0 0 A) (F0 m 0 ls []) := by
  intro x1 x2 x3 σ H locs ls h hM hS hl
  have ⟨hx, hb, hml, hr, hnm, hown, hts, hlocks, hE⟩ := CX
  unfold wX3_with at h
  refine lv_aload_n hx hb dX3_with_0 rfl (lv_at hl 0 rfl) ?_
  refine lv_iload_n hx hb dX3_with_1 rfl (lv_at hl 1 rfl) ?_
  obtain ⟨hk_1, h⟩ := h
  refine clVq (C := RX3) (b := t) (As := [.int x1]) (rest := []) ⟨hx, hb, hml, hown, hts⟩ hM hE hS (ok_X3_ruleAt l D cs A t x1 _ _ h) (cwV 1 hts gX3_with_X3_ruleAt rfl rfl rfl (by decide +kernel) ⟨(Nat.le_of_ble_eq_true rfl), (Nat.le_of_ble_eq_true rfl)⟩) (rc3 hM hE.1 hk_1) rfl hl.1 rfl (Nat.le_of_ble_eq_true rfl) dX3_with_2 ⟨(Nat.le_of_ble_eq_true rfl), (Nat.le_of_ble_eq_true rfl)⟩ (fun r_3 σ_2 H locs h1 hM hS => ?_)
  replace h := h1
  clear h1
  refine nl_astore (i := 4) (lv' := [(4, va_rf r_3), (0, .ref t), (1, .int x1), (2, .int x2), (3, .int x3)]) hx hb dX3_with_5 hl (by decide) rfl (fun ls hl => ?_)
  refine nl_aload hx hb dX3_with_7 (lv_at hl 0 rfl) ?_
  refine nl_ifnull (tgt := 37) hx hb dX3_with_9 (by decide) (fun hn => ?_) (fun a_4 hn => ?_)
  · replace h := h.1 hn
    subst hn
    refine lv_iconst (v := (-1)) hx hb dX3_with_37 (by decide) ?_
    exact W.iret (v := (-1)) hx hb hr (fun t_ ht hW => ⟨⟨_, _, rfl, h, mB_of ht hM⟩, hS.F ht⟩) hS.2.2 dX3_with_38
  · replace h := h.2 a_4 hn
    subst hn
    refine lv_aload hx hb dX3_with_12 (lv_at hl 0 rfl) ?_
    obtain ⟨hk_5, h⟩ := h
    refine gf1_5 hx hb hts inX3_with_1 hown hE.1 hM hk_5 (hts (.fieldLink RX3 127 "WorkCoder$Rule" "dropped" "Z") (by decide +kernel)) dX3_with_14 ?_
    refine lv_if_ne (tgt := 37) hx hb dX3_with_17 (by decide) (fun hc => ?_) (fun hc => ?_)
    · replace h := h.1 hc
      refine lv_iconst (v := (-1)) hx hb dX3_with_37 (by decide) ?_
      exact W.iret (v := (-1)) hx hb hr (fun t_ ht hW => ⟨⟨_, _, rfl, h, mB_of ht hM⟩, hS.F ht⟩) hS.2.2 dX3_with_38
    · replace h := h.2 hc
      refine lv_aload_n hx hb dX3_with_20 rfl (lv_at hl 1 rfl) ?_
      refine lv_iload_n hx hb dX3_with_21 rfl (lv_at hl 3 rfl) ?_
      obtain ⟨hk_6, h⟩ := h
      refine clVi (C := RX3) (b := t) (As := [.int x2]) (rest := []) ⟨hx, hb, hml, hown, hts⟩ hM hE hS (ok_X3_isWord l D cs A t x2 _ _ h) (cwV 1 hts gX3_with_X3_isWord rfl rfl rfl (by decide +kernel) ⟨(Nat.le_of_ble_eq_true rfl), (Nat.le_of_ble_eq_true rfl)⟩) (rc3 hM hE.1 hk_6) rfl hl.1 rfl (Nat.le_of_ble_eq_true rfl) dX3_with_22 ⟨(Nat.le_of_ble_eq_true rfl), (Nat.le_of_ble_eq_true rfl)⟩ (fun x_8 σ_7 H locs h1 hM hS => ?_)
      replace h := h1
      clear h1
      refine lv_if_eq (tgt := 37) hx hb dX3_with_25 (by decide) (fun hc => ?_) (fun hc => ?_)
      · replace h := h.1 hc
        refine lv_iconst (v := (-1)) hx hb dX3_with_37 (by decide) ?_
        exact W.iret (v := (-1)) hx hb hr (fun t_ ht hW => ⟨⟨_, _, rfl, h, mB_of ht hM⟩, hS.F ht⟩) hS.2.2 dX3_with_38
      · replace h := h.2 hc
        refine lv_iload_n hx hb dX3_with_28 rfl (lv_at hl 4 rfl) ?_
        refine lv_iconst (v := 0) hx hb dX3_with_29 (by decide) ?_
        refine lv_iconst (v := 2) hx hb dX3_with_30 (by decide) ?_
        refine clSi (As := [.int x3, .int 0, .int 2]) (rest := []) ⟨hx, hb, hml, hown, hts⟩ hM hE hS (ok_X3_isIn l D cs A x3 0 2 _ _ h) (va_cwS 3 hts gX3_with_X3_isIn rfl rfl rfl (by decide +kernel) ⟨(Nat.le_of_ble_eq_true rfl), (Nat.le_of_ble_eq_true rfl)⟩) rfl hl.1 rfl (Nat.le_of_ble_eq_true rfl) dX3_with_31 ⟨(Nat.le_of_ble_eq_true rfl), (Nat.le_of_ble_eq_true rfl)⟩ (fun x_10 σ_9 H locs h1 hM hS => ?_)
        replace h := h1
        clear h1
        refine lv_if_ne (tgt := 39) hx hb dX3_with_34 (by decide) (fun hc => ?_) (fun hc => ?_)
        · replace h := h.1 hc
          refine lv_aload hx hb dX3_with_39 (lv_at hl 0 rfl) ?_
          refine lv_iload_n hx hb dX3_with_41 rfl (lv_at hl 3 rfl) ?_
          refine lv_iload_n hx hb dX3_with_42 rfl (lv_at hl 4 rfl) ?_
          obtain ⟨hk_11, h⟩ := h
          refine clVi (C := RX1) (b := a_4) (As := [.int x2, .int x3]) (rest := []) ⟨hx, hb, hml, hown, hts⟩ hM hE hS (ok_X1_treat l D cs A a_4 x2 x3 _ _ h) (cwV 2 hts gX3_with_X1_treat rfl rfl rfl (by decide +kernel) ⟨(Nat.le_of_ble_eq_true rfl), (Nat.le_of_ble_eq_true rfl)⟩) (rc1 hM hE.1 hk_11) rfl hl.1 rfl (Nat.le_of_ble_eq_true rfl) dX3_with_43 ⟨(Nat.le_of_ble_eq_true rfl), (Nat.le_of_ble_eq_true rfl)⟩ (fun x_13 σ_12 H locs h1 hM hS => ?_)
          replace h := h1
          clear h1
          exact W.iret (v := x_13) hx hb hr (fun t_ ht hW => ⟨⟨_, _, rfl, h, mB_of ht hM⟩, hS.F ht⟩) hS.2.2 dX3_with_46
        · replace h := h.2 hc
          refine lv_iconst (v := (-1)) hx hb dX3_with_37 (by decide) ?_
          exact W.iret (v := (-1)) hx hb hr (fun t_ ht hW => ⟨⟨_, _, rfl, h, mB_of ht hM⟩, hS.F ht⟩) hS.2.2 dX3_with_38
end S_X3_with
set_option maxHeartbeats 4000000 in
set_option maxRecDepth 100000 in
theorem ok_X3_with (l : Launch) (D : va_G) (cs : CS) (A : Nat → Prop) (t : Nat) (x1 : Int32) (x2 : Int32) (x3 : Int32) (σ : MM) (k : Int32 → MM → Prop) (h : wX3_with t x1 x2 x3 σ k) : Met l yX3_with wsX3_with rmX3_with (va_Pc [.ref t, .int x1, .int x2, .int x3] (mP D cs A σ)) (va_Qi k (mB D cs A) A) 0 0 A := by
  refine Met.ofW (cc := cX3_with) (maxL := 5) (ret := (some .int)) (by decide) rfl ?_
  intro p e s m args below meth c s₁ B hml hv
  obtain ⟨rfl, hM, hE⟩ := hv
  have CX : CXM p s m _ meth c cX3_with 5 (some .int) "with" RX3 wsX3_with D cs A := ⟨B.exec, B.bytes, hml, B.returns, (name_of_methodNamed B.named B.method).1, findClass_of_methodNamed B.named, atoms_spec (ws := wsX3_with) B.pre, B.notSynchronized, hE⟩
  have hl := lv_entry ([.ref t, .int x1, .int x2, .int x3]) (n := 5) (Nat.le_of_ble_eq_true rfl)
  rw [lg_entry_eq]
  exact oX3_with_0 CX x1 x2 x3 σ _ _ _ h hM va_S.rf hl
/-! WorkCoder.drop(I)I -/
abbrev rmX3_drop : Room := { frames := 1, cells := 0, slots := 0, locals := 21 }
theorem inX3_drop_1 : ∀ w ∈ wsX10, w ∈ wsX3_drop := fun _ h => List.mem_cons_of_mem _ (List.mem_append_left _ (List.mem_append_right _ (h)))
section S_X3_drop
variable {p : Program} {l : Launch} {e : Env} {s : State} {m : MethodId} {args : Array Value} {below : List Frame} {meth : Method} {c : Code} {D : va_G} {cs : CS} {A : Nat → Prop}
set_option maxHeartbeats 4000000 in
set_option maxRecDepth 100000 in
theorem oX3_drop_0 {k : Int32 → MM → Prop} {t : Nat} (CX : CXM p s m args meth c cX3_drop 3 (some .int) "drop" RX3 wsX3_drop D cs A) : ∀ (x1 : Int32) (σ : MM) (H : Heap) (locs : List Loc) (ls : Array Slot), wX3_drop t x1 σ k → PH D cs A σ H → va_S A s.heap H locs → lv_has ls 3 [(0, .ref t), (1, .int x1)] → W p l e (headSpec wsX3_drop rmX3_drop).room s m args below meth c H locs 0 0 (MQ below (va_Qi k (mB D cs A) A) args s 0 0 A) (F0 m 0 ls []) := by
  intro x1 σ H locs ls h hM hS hl
  have ⟨hx, hb, hml, hr, hnm, hown, hts, hlocks, hE⟩ := CX
  unfold wX3_drop at h
  refine lv_aload_n hx hb dX3_drop_0 rfl (lv_at hl 0 rfl) ?_
  refine lv_iload_n hx hb dX3_drop_1 rfl (lv_at hl 1 rfl) ?_
  obtain ⟨hk_1, h⟩ := h
  refine clVq (C := RX3) (b := t) (As := [.int x1]) (rest := []) ⟨hx, hb, hml, hown, hts⟩ hM hE hS (ok_X3_ruleAt l D cs A t x1 _ _ h) (cwV 1 hts gX3_drop_X3_ruleAt rfl rfl rfl (by decide +kernel) ⟨(Nat.le_of_ble_eq_true rfl), (Nat.le_of_ble_eq_true rfl)⟩) (rc3 hM hE.1 hk_1) rfl hl.1 rfl (Nat.le_of_ble_eq_true rfl) dX3_drop_2 ⟨(Nat.le_of_ble_eq_true rfl), (Nat.le_of_ble_eq_true rfl)⟩ (fun r_3 σ_2 H locs h1 hM hS => ?_)
  replace h := h1
  clear h1
  refine nl_astore_n (i := 2) (lv' := [(2, va_rf r_3), (0, .ref t), (1, .int x1)]) hx hb dX3_drop_5 rfl hl (by decide) rfl (fun ls hl => ?_)
  refine nl_aload_n hx hb dX3_drop_6 rfl (lv_at hl 0 rfl) ?_
  refine nl_ifnonnull (tgt := 12) hx hb dX3_drop_7 (by decide) (fun a_4 hn => ?_) (fun hn => ?_)
  · replace h := h.1 a_4 hn
    subst hn
    refine lv_aload_n hx hb dX3_drop_12 rfl (lv_at hl 0 rfl) ?_
    obtain ⟨hk_5, h⟩ := h
    refine gf1_5 hx hb hts inX3_drop_1 hown hE.1 hM hk_5 (hts (.fieldLink RX3 127 "WorkCoder$Rule" "dropped" "Z") (by decide +kernel)) dX3_drop_13 ?_
    refine lv_if_eq (tgt := 22) hx hb dX3_drop_16 (by decide) (fun hc => ?_) (fun hc => ?_)
    · replace h := h.1 hc
      refine lv_aload_n hx hb dX3_drop_22 rfl (lv_at hl 0 rfl) ?_
      refine lv_iconst (v := 1) hx hb dX3_drop_23 (by decide) ?_
      refine pf1_5 hx hb hts inX3_drop_1 hown hE.1 hM hS (v := 1) (by unfold bz; decide) hk_5 (hts (.fieldLink RX3 127 "WorkCoder$Rule" "dropped" "Z") (by decide +kernel)) dX3_drop_24 (fun H locs hM hS => ?_)
      replace h := h _ rfl
      refine lv_iconst (v := 1) hx hb dX3_drop_27 (by decide) ?_
      exact W.iret (v := 1) hx hb hr (fun t_ ht hW => ⟨⟨_, _, rfl, h, mB_of ht hM⟩, hS.F ht⟩) hS.2.2 dX3_drop_28
    · replace h := h.2 hc
      refine lv_bipush (v := (-2)) hx hb dX3_drop_19 (by decide) ?_
      exact W.iret (v := (-2)) hx hb hr (fun t_ ht hW => ⟨⟨_, _, rfl, h, mB_of ht hM⟩, hS.F ht⟩) hS.2.2 dX3_drop_21
  · replace h := h.2 hn
    subst hn
    refine lv_iconst (v := (-1)) hx hb dX3_drop_10 (by decide) ?_
    exact W.iret (v := (-1)) hx hb hr (fun t_ ht hW => ⟨⟨_, _, rfl, h, mB_of ht hM⟩, hS.F ht⟩) hS.2.2 dX3_drop_11
end S_X3_drop
set_option maxHeartbeats 4000000 in
set_option maxRecDepth 100000 in
theorem ok_X3_drop (l : Launch) (D : va_G) (cs : CS) (A : Nat → Prop) (t : Nat) (x1 : Int32) (σ : MM) (k : Int32 → MM → Prop) (h : wX3_drop t x1 σ k) : Met l yX3_drop wsX3_drop rmX3_drop (va_Pc [.ref t, .int x1] (mP D cs A σ)) (va_Qi k (mB D cs A) A) 0 0 A := by
  refine Met.ofW (cc := cX3_drop) (maxL := 3) (ret := (some .int)) (by decide) rfl ?_
  intro p e s m args below meth c s₁ B hml hv
  obtain ⟨rfl, hM, hE⟩ := hv
  have CX : CXM p s m _ meth c cX3_drop 3 (some .int) "drop" RX3 wsX3_drop D cs A := ⟨B.exec, B.bytes, hml, B.returns, (name_of_methodNamed B.named B.method).1, findClass_of_methodNamed B.named, atoms_spec (ws := wsX3_drop) B.pre, B.notSynchronized, hE⟩
  have hl := lv_entry ([.ref t, .int x1]) (n := 3) (Nat.le_of_ble_eq_true rfl)
  rw [lg_entry_eq]
  exact oX3_drop_0 CX x1 σ _ _ _ h hM va_S.rf hl
/-! WorkCoder.holds(II)I -/
abbrev rmX3_holds : Room := { frames := 2, cells := 0, slots := 0, locals := 43 }
section S_X3_holds
variable {p : Program} {l : Launch} {e : Env} {s : State} {m : MethodId} {args : Array Value} {below : List Frame} {meth : Method} {c : Code} {D : va_G} {cs : CS} {A : Nat → Prop}
set_option maxHeartbeats 4000000 in
set_option maxRecDepth 100000 in
theorem oX3_holds_0 {k : Int32 → MM → Prop} {t : Nat} (CX : CXM p s m args meth c cX3_holds 5 (some .int) "holds" RX3 wsX3_holds D cs A) : ∀ (x1 : Int32) (x2 : Int32) (σ : MM) (H : Heap) (locs : List Loc) (ls : Array Slot), wX3_holds t x1 x2 σ k → PH D cs A σ H → va_S A s.heap H locs → lv_has ls 5 [(0, .ref t), (1, .int x1), (2, .int x2)] → W p l e (headSpec wsX3_holds rmX3_holds).room s m args below meth c H locs 0 0 (MQ below (va_Qi k (mB D cs A) A) args s 0 0 A) (F0 m 0 ls []) := by
  intro x1 x2 σ H locs ls h hM hS hl
  have ⟨hx, hb, hml, hr, hnm, hown, hts, hlocks, hE⟩ := CX
  unfold wX3_holds at h
  refine lv_aload_n hx hb dX3_holds_0 rfl (lv_at hl 0 rfl) ?_
  refine lv_iload_n hx hb dX3_holds_1 rfl (lv_at hl 1 rfl) ?_
  obtain ⟨hk_1, h⟩ := h
  refine clVq (C := RX3) (b := t) (As := [.int x1]) (rest := []) ⟨hx, hb, hml, hown, hts⟩ hM hE hS (ok_X3_ruleAt l D cs A t x1 _ _ h) (cwV 1 hts gX3_holds_X3_ruleAt rfl rfl rfl (by decide +kernel) ⟨(Nat.le_of_ble_eq_true rfl), (Nat.le_of_ble_eq_true rfl)⟩) (rc3 hM hE.1 hk_1) rfl hl.1 rfl (Nat.le_of_ble_eq_true rfl) dX3_holds_2 ⟨(Nat.le_of_ble_eq_true rfl), (Nat.le_of_ble_eq_true rfl)⟩ (fun r_3 σ_2 H locs h1 hM hS => ?_)
  replace h := h1
  clear h1
  refine nl_astore_n (i := 3) (lv' := [(3, va_rf r_3), (0, .ref t), (1, .int x1), (2, .int x2)]) hx hb dX3_holds_5 rfl hl (by decide) rfl (fun ls hl => ?_)
  refine lv_aload_n hx hb dX3_holds_6 rfl (lv_at hl 1 rfl) ?_
  refine lv_iload_n hx hb dX3_holds_7 rfl (lv_at hl 3 rfl) ?_
  obtain ⟨hk_4, h⟩ := h
  refine clVq (C := RX3) (b := t) (As := [.int x2]) (rest := []) ⟨hx, hb, hml, hown, hts⟩ hM hE hS (ok_X3_itemAt l D cs A t x2 _ _ h) (cwV 1 hts gX3_holds_X3_itemAt rfl rfl rfl (by decide +kernel) ⟨(Nat.le_of_ble_eq_true rfl), (Nat.le_of_ble_eq_true rfl)⟩) (rc3 hM hE.1 hk_4) rfl hl.1 rfl (Nat.le_of_ble_eq_true rfl) dX3_holds_8 ⟨(Nat.le_of_ble_eq_true rfl), (Nat.le_of_ble_eq_true rfl)⟩ (fun r_6 σ_5 H locs h1 hM hS => ?_)
  replace h := h1
  clear h1
  refine nl_astore (i := 4) (lv' := [(4, va_rf r_6), (3, va_rf r_3), (0, .ref t), (1, .int x1), (2, .int x2)]) hx hb dX3_holds_11 hl (by decide) (by simp [nl_cat] <;> rfl) (fun ls hl => ?_)
  refine nl_aload_n hx hb dX3_holds_13 rfl (lv_at hl 1 rfl) ?_
  refine nl_ifnull (tgt := 22) hx hb dX3_holds_14 (by decide) (fun hn => ?_) (fun a_7 hn => ?_)
  · replace h := h.1 hn
    subst hn
    refine lv_iconst (v := (-1)) hx hb dX3_holds_22 (by decide) ?_
    exact W.iret (v := (-1)) hx hb hr (fun t_ ht hW => ⟨⟨_, _, rfl, h, mB_of ht hM⟩, hS.F ht⟩) hS.2.2 dX3_holds_23
  · replace h := h.2 a_7 hn
    subst hn
    refine nl_aload hx hb dX3_holds_17 (lv_at hl 0 rfl) ?_
    refine nl_ifnonnull (tgt := 24) hx hb dX3_holds_19 (by decide) (fun a_8 hn => ?_) (fun hn => ?_)
    · replace h := h.1 a_8 hn
      subst hn
      refine lv_aload_n hx hb dX3_holds_24 rfl (lv_at hl 1 rfl) ?_
      refine lv_aload hx hb dX3_holds_25 (lv_at hl 0 rfl) ?_
      obtain ⟨hk_9, h⟩ := h
      refine clVi (C := RX1) (b := a_7) (As := [.ref a_8]) (rest := []) ⟨hx, hb, hml, hown, hts⟩ hM hE hS (ok_X1_fits l D cs A a_7 (some a_8) _ _ h) (cwV 1 hts gX3_holds_X1_fits rfl rfl rfl (by decide +kernel) ⟨(Nat.le_of_ble_eq_true rfl), (Nat.le_of_ble_eq_true rfl)⟩) (rc1 hM hE.1 hk_9) rfl hl.1 rfl (Nat.le_of_ble_eq_true rfl) dX3_holds_27 ⟨(Nat.le_of_ble_eq_true rfl), (Nat.le_of_ble_eq_true rfl)⟩ (fun x_11 σ_10 H locs h1 hM hS => ?_)
      replace h := h1
      clear h1
      refine lv_if_eq (tgt := 37) hx hb dX3_holds_30 (by decide) (fun hc => ?_) (fun hc => ?_)
      · replace h := h.1 hc
        refine lv_iconst (v := 0) hx hb dX3_holds_37 (by decide) ?_
        exact W.iret (v := 0) hx hb hr (fun t_ ht hW => ⟨⟨_, _, rfl, h, mB_of ht hM⟩, hS.F ht⟩) hS.2.2 dX3_holds_38
      · replace h := h.2 hc
        refine lv_iconst (v := 1) hx hb dX3_holds_33 (by decide) ?_
        refine lv_goto (tgt := 38) hx hb dX3_holds_34 (by decide) ?_
        exact W.iret (v := 1) hx hb hr (fun t_ ht hW => ⟨⟨_, _, rfl, h, mB_of ht hM⟩, hS.F ht⟩) hS.2.2 dX3_holds_38
    · replace h := h.2 hn
      subst hn
      refine lv_iconst (v := (-1)) hx hb dX3_holds_22 (by decide) ?_
      exact W.iret (v := (-1)) hx hb hr (fun t_ ht hW => ⟨⟨_, _, rfl, h, mB_of ht hM⟩, hS.F ht⟩) hS.2.2 dX3_holds_23
end S_X3_holds
set_option maxHeartbeats 4000000 in
set_option maxRecDepth 100000 in
theorem ok_X3_holds (l : Launch) (D : va_G) (cs : CS) (A : Nat → Prop) (t : Nat) (x1 : Int32) (x2 : Int32) (σ : MM) (k : Int32 → MM → Prop) (h : wX3_holds t x1 x2 σ k) : Met l yX3_holds wsX3_holds rmX3_holds (va_Pc [.ref t, .int x1, .int x2] (mP D cs A σ)) (va_Qi k (mB D cs A) A) 0 0 A := by
  refine Met.ofW (cc := cX3_holds) (maxL := 5) (ret := (some .int)) (by decide) rfl ?_
  intro p e s m args below meth c s₁ B hml hv
  obtain ⟨rfl, hM, hE⟩ := hv
  have CX : CXM p s m _ meth c cX3_holds 5 (some .int) "holds" RX3 wsX3_holds D cs A := ⟨B.exec, B.bytes, hml, B.returns, (name_of_methodNamed B.named B.method).1, findClass_of_methodNamed B.named, atoms_spec (ws := wsX3_holds) B.pre, B.notSynchronized, hE⟩
  have hl := lv_entry ([.ref t, .int x1, .int x2]) (n := 5) (Nat.le_of_ble_eq_true rfl)
  rw [lg_entry_eq]
  exact oX3_holds_0 CX x1 x2 σ _ _ _ h hM va_S.rf hl
/-! WorkCoder.leaderFor(LWorkCoder$Item;I)I -/
abbrev rmX3_leaderFor : Room := { frames := 2, cells := 0, slots := 0, locals := 43 }
theorem inX3_leaderFor_1 : ∀ w ∈ wsX10, w ∈ wsX3_leaderFor := fun _ h => List.mem_cons_of_mem _ (List.mem_append_left _ (List.mem_append_right _ (h)))
theorem inX3_leaderFor_3 : ∀ w ∈ wsX30, w ∈ wsX3_leaderFor := fun _ h => List.mem_cons_of_mem _ (List.mem_append_left _ (List.mem_append_left _ (List.mem_append_right _ (h))))
section S_X3_leaderFor
variable {p : Program} {l : Launch} {e : Env} {s : State} {m : MethodId} {args : Array Value} {below : List Frame} {meth : Method} {c : Code} {D : va_G} {cs : CS} {A : Nat → Prop}
set_option maxHeartbeats 4000000 in
set_option maxRecDepth 100000 in
theorem oX3_leaderFor_9 {k : Int32 → MM → Prop} {t : Nat} (CX : CXM p s m args meth c cX3_leaderFor 7 (some .int) "leaderFor" RX3 wsX3_leaderFor D cs A) : ∀ (n : Nat), ∀ (r1 : Option Nat) (x2 : Int32) (x3 : Int32) (x4 : Int32) (x5 : Int32) (σ : MM) (H : Heap) (locs : List Loc) (ls : Array Slot), wX3_leaderFor_9 k t  n r1 x2 x3 x4 x5 σ → PH D cs A σ H → va_S A s.heap H locs → lv_has ls 7 [(0, .ref t), (1, va_rf r1), (2, .int x2), (3, .int x3), (4, .int x4), (5, .int x5)] → W p l e (headSpec wsX3_leaderFor rmX3_leaderFor).room s m args below meth c H locs 0 0 (MQ below (va_Qi k (mB D cs A) A) args s 0 0 A) (F0 m 9 ls []) := by
  intro n
  induction n with
  | zero => intro r1 x2 x3 x4 x5 σ H locs ls h; exact h.elim
  | succ n ih =>
    intro r1 x2 x3 x4 x5 σ H locs ls h hM hS hl
    have ⟨hx, hb, hml, hr, hnm, hown, hts, hlocks, hE⟩ := CX
    unfold wX3_leaderFor_9 at h
    refine lv_iload hx hb dX3_leaderFor_9 (lv_at hl 5 rfl) ?_
    refine lv_aload_n hx hb dX3_leaderFor_11 rfl (lv_at hl 0 rfl) ?_
    obtain ⟨hk_1, h⟩ := h
    refine gf3_7 hx hb hts inX3_leaderFor_3 hown hE.1 hM hk_1 (hts (.fieldLink RX3 44 "WorkCoder" "rules" "[LWorkCoder$Rule;") (by decide +kernel)) dX3_leaderFor_12 (fun r_2 er_2 => ?_)
    replace h := h r_2 er_2
    clear er_2
    obtain ⟨a_3, rfl, h⟩ := h
    obtain ⟨hk_4, h⟩ := h
    refine mm_alen10 hx hb hE.1 hM hk_4 dX3_leaderFor_15 ?_
    refine lv_icmp_ge (tgt := 74) hx hb dX3_leaderFor_16 (by decide) (fun hc => ?_) (fun hc => ?_)
    · replace h := h.1 hc
      refine lv_iload_n hx hb dX3_leaderFor_74 rfl (lv_at hl 3 rfl) ?_
      exact W.iret (v := x3) hx hb hr (fun t_ ht hW => ⟨⟨_, _, rfl, h, mB_of ht hM⟩, hS.F ht⟩) hS.2.2 dX3_leaderFor_75
    · replace h := h.2 hc
      refine lv_aload_n hx hb dX3_leaderFor_19 rfl (lv_at hl 0 rfl) ?_
      refine gf3_7 hx hb hts inX3_leaderFor_3 hown hE.1 hM hk_1 (hts (.fieldLink RX3 44 "WorkCoder" "rules" "[LWorkCoder$Rule;") (by decide +kernel)) dX3_leaderFor_20 (fun r_5 er_5 => ?_)
      replace h := h r_5 er_5
      clear er_5
      refine lv_iload hx hb dX3_leaderFor_23 (lv_at hl 5 rfl) ?_
      obtain ⟨a_6, rfl, h⟩ := h
      obtain ⟨hk_7, h⟩ := h
      obtain ⟨hv_8, h⟩ := h
      refine mm_aald10 hx hb hE.1 hM hk_7 hv_8 dX3_leaderFor_25 (fun r_9 er_9 => ?_)
      replace h := h r_9 er_9
      clear er_9
      refine nl_astore (i := 6) (lv' := [(6, va_rf r_9), (0, .ref t), (1, va_rf r1), (2, .int x2), (3, .int x3), (4, .int x4), (5, .int x5)]) hx hb dX3_leaderFor_26 hl (by decide) rfl (fun ls hl => ?_)
      refine lv_iload hx hb dX3_leaderFor_28 (lv_at hl 6 rfl) ?_
      refine lv_iload_n hx hb dX3_leaderFor_30 rfl (lv_at hl 3 rfl) ?_
      refine lv_icmp_eq (tgt := 68) hx hb dX3_leaderFor_31 (by decide) (fun hc => ?_) (fun hc => ?_)
      · replace h := h.1 hc
        obtain ⟨x_10, ex_10⟩ : ∃ y : Int32, y = x5 + 1 := ⟨_, rfl⟩
        replace h := h x_10 ex_10
        refine lv_iinc (v := x_10) (lv' := [(5, .int x_10), (6, va_rf r_9), (0, .ref t), (1, va_rf r1), (2, .int x2), (3, .int x3), (4, .int x4)]) hx hb dX3_leaderFor_68 hl (k := 6) rfl (by rw [ex_10]; rfl) (by decide) rfl (fun ls hl => ?_)
        refine lv_goto (tgt := 9) hx hb dX3_leaderFor_71 (by decide) ?_
        exact ih _ _ _ _ _ _ _ _ _ h hM hS (lv_sub hl [2, 3, 4, 5, 6, 0] rfl)
      · replace h := h.2 hc
        refine nl_aload hx hb dX3_leaderFor_34 (lv_at hl 0 rfl) ?_
        refine nl_ifnull (tgt := 68) hx hb dX3_leaderFor_36 (by decide) (fun hn => ?_) (fun a_11 hn => ?_)
        · replace h := h.1 hn
          subst hn
          obtain ⟨x_12, ex_12⟩ : ∃ y : Int32, y = x5 + 1 := ⟨_, rfl⟩
          replace h := h x_12 ex_12
          refine lv_iinc (v := x_12) (lv' := [(5, .int x_12), (6, .null), (0, .ref t), (1, va_rf r1), (2, .int x2), (3, .int x3), (4, .int x4)]) hx hb dX3_leaderFor_68 hl (k := 6) rfl (by rw [ex_12]; rfl) (by decide) rfl (fun ls hl => ?_)
          refine lv_goto (tgt := 9) hx hb dX3_leaderFor_71 (by decide) ?_
          exact ih _ _ _ _ _ _ _ _ _ h hM hS (lv_sub hl [2, 3, 4, 5, 6, 0] rfl)
        · replace h := h.2 a_11 hn
          subst hn
          refine lv_aload hx hb dX3_leaderFor_39 (lv_at hl 0 rfl) ?_
          obtain ⟨hk_13, h⟩ := h
          refine gf1_0 hx hb hts inX3_leaderFor_1 hown hE.1 hM hk_13 (hts (.fieldLink RX3 233 "WorkCoder$Rule" "rank" "I") (by decide +kernel)) dX3_leaderFor_41 ?_
          refine lv_iload hx hb dX3_leaderFor_44 (lv_at hl 5 rfl) ?_
          refine lv_icmp_ge (tgt := 68) hx hb dX3_leaderFor_46 (by decide) (fun hc => ?_) (fun hc => ?_)
          · replace h := h.1 hc
            obtain ⟨x_14, ex_14⟩ : ∃ y : Int32, y = x5 + 1 := ⟨_, rfl⟩
            replace h := h x_14 ex_14
            refine lv_iinc (v := x_14) (lv' := [(5, .int x_14), (6, .ref a_11), (0, .ref t), (1, va_rf r1), (2, .int x2), (3, .int x3), (4, .int x4)]) hx hb dX3_leaderFor_68 hl (k := 6) rfl (by rw [ex_14]; rfl) (by decide) rfl (fun ls hl => ?_)
            refine lv_goto (tgt := 9) hx hb dX3_leaderFor_71 (by decide) ?_
            exact ih _ _ _ _ _ _ _ _ _ h hM hS (lv_sub hl [2, 3, 4, 5, 6, 0] rfl)
          · replace h := h.2 hc
            refine lv_aload hx hb dX3_leaderFor_49 (lv_at hl 0 rfl) ?_
            refine nl_aload_n hx hb dX3_leaderFor_51 rfl (lv_at hl 2 rfl) ?_
            refine clVi (C := RX1) (b := a_11) (As := [va_rf r1]) (rest := []) ⟨hx, hb, hml, hown, hts⟩ hM hE hS (ok_X1_fits l D cs A a_11 r1 _ _ h) (cwV 1 hts gX3_leaderFor_X1_fits rfl rfl rfl (by decide +kernel) ⟨(Nat.le_of_ble_eq_true rfl), (Nat.le_of_ble_eq_true rfl)⟩) (rc1 hM hE.1 hk_13) rfl hl.1 rfl (Nat.le_of_ble_eq_true rfl) dX3_leaderFor_52 ⟨(Nat.le_of_ble_eq_true rfl), (Nat.le_of_ble_eq_true rfl)⟩ (fun x_16 σ_15 H locs h1 hM hS => ?_)
            replace h := h1
            clear h1
            refine lv_if_eq (tgt := 68) hx hb dX3_leaderFor_55 (by decide) (fun hc => ?_) (fun hc => ?_)
            · replace h := h.1 hc
              obtain ⟨x_17, ex_17⟩ : ∃ y : Int32, y = x5 + 1 := ⟨_, rfl⟩
              replace h := h x_17 ex_17
              refine lv_iinc (v := x_17) (lv' := [(5, .int x_17), (6, .ref a_11), (0, .ref t), (1, va_rf r1), (2, .int x2), (3, .int x3), (4, .int x4)]) hx hb dX3_leaderFor_68 hl (k := 6) rfl (by rw [ex_17]; rfl) (by decide) rfl (fun ls hl => ?_)
              refine lv_goto (tgt := 9) hx hb dX3_leaderFor_71 (by decide) ?_
              exact ih _ _ _ _ _ _ _ _ _ h hM hS (lv_sub hl [2, 3, 4, 5, 6, 0] rfl)
            · replace h := h.2 hc
              refine lv_iload hx hb dX3_leaderFor_58 (lv_at hl 6 rfl) ?_
              refine lv_istore_n (i := 3) (lv' := [(3, .int x5), (6, .ref a_11), (0, .ref t), (1, va_rf r1), (2, .int x2), (4, .int x4), (5, .int x5)]) hx hb dX3_leaderFor_60 rfl hl (by decide) rfl (fun ls hl => ?_)
              refine lv_aload hx hb dX3_leaderFor_61 (lv_at hl 1 rfl) ?_
              obtain ⟨hk_18, h⟩ := h
              refine gf1_0 hx hb hts inX3_leaderFor_1 hown hE.1 hM hk_18 (hts (.fieldLink RX3 233 "WorkCoder$Rule" "rank" "I") (by decide +kernel)) dX3_leaderFor_63 ?_
              refine lv_topi (fun x_19 ex_19 => ?_)
              replace h := h x_19 ex_19
              refine lv_istore (i := 4) (lv' := [(4, .int x_19), (3, .int x5), (6, .ref a_11), (0, .ref t), (1, va_rf r1), (2, .int x2), (5, .int x5)]) hx hb dX3_leaderFor_66 hl (by decide) rfl (fun ls hl => ?_)
              obtain ⟨x_20, ex_20⟩ : ∃ y : Int32, y = x5 + 1 := ⟨_, rfl⟩
              replace h := h x_20 ex_20
              refine lv_iinc (v := x_20) (lv' := [(5, .int x_20), (4, .int x_19), (3, .int x5), (6, .ref a_11), (0, .ref t), (1, va_rf r1), (2, .int x2)]) hx hb dX3_leaderFor_68 hl (k := 6) rfl (by rw [ex_20]; rfl) (by decide) rfl (fun ls hl => ?_)
              refine lv_goto (tgt := 9) hx hb dX3_leaderFor_71 (by decide) ?_
              exact ih _ _ _ _ _ _ _ _ _ h hM hS (lv_sub hl [4, 5, 6, 2, 1, 0] rfl)
set_option maxHeartbeats 4000000 in
set_option maxRecDepth 100000 in
theorem oX3_leaderFor_0 {k : Int32 → MM → Prop} {t : Nat} (CX : CXM p s m args meth c cX3_leaderFor 7 (some .int) "leaderFor" RX3 wsX3_leaderFor D cs A) : ∀ (r1 : Option Nat) (x2 : Int32) (σ : MM) (H : Heap) (locs : List Loc) (ls : Array Slot), wX3_leaderFor t r1 x2 σ k → PH D cs A σ H → va_S A s.heap H locs → lv_has ls 7 [(0, .ref t), (1, va_rf r1), (2, .int x2)] → W p l e (headSpec wsX3_leaderFor rmX3_leaderFor).room s m args below meth c H locs 0 0 (MQ below (va_Qi k (mB D cs A) A) args s 0 0 A) (F0 m 0 ls []) := by
  intro r1 x2 σ H locs ls h hM hS hl
  have ⟨hx, hb, hml, hr, hnm, hown, hts, hlocks, hE⟩ := CX
  unfold wX3_leaderFor at h
  refine lv_iconst (v := (-1)) hx hb dX3_leaderFor_0 (by decide) ?_
  refine lv_istore_n (i := 3) (lv' := [(3, .int (-1)), (0, .ref t), (1, va_rf r1), (2, .int x2)]) hx hb dX3_leaderFor_1 rfl hl (by decide) rfl (fun ls hl => ?_)
  refine lv_bipush (v := 10) hx hb dX3_leaderFor_2 (by decide) ?_
  refine lv_istore (i := 4) (lv' := [(4, .int 10), (3, .int (-1)), (0, .ref t), (1, va_rf r1), (2, .int x2)]) hx hb dX3_leaderFor_4 hl (by decide) rfl (fun ls hl => ?_)
  refine lv_iconst (v := 0) hx hb dX3_leaderFor_6 (by decide) ?_
  refine lv_istore (i := 5) (lv' := [(5, .int 0), (4, .int 10), (3, .int (-1)), (0, .ref t), (1, va_rf r1), (2, .int x2)]) hx hb dX3_leaderFor_7 hl (by decide) rfl (fun ls hl => ?_)
  obtain ⟨n0, h⟩ := h
  exact oX3_leaderFor_9 CX  n0 _ _ _ _ _ _ _ _ _ h hM hS (lv_sub hl [3, 4, 5, 2, 1, 0] rfl)
end S_X3_leaderFor
set_option maxHeartbeats 4000000 in
set_option maxRecDepth 100000 in
theorem ok_X3_leaderFor (l : Launch) (D : va_G) (cs : CS) (A : Nat → Prop) (t : Nat) (r1 : Option Nat) (x2 : Int32) (σ : MM) (k : Int32 → MM → Prop) (h : wX3_leaderFor t r1 x2 σ k) : Met l yX3_leaderFor wsX3_leaderFor rmX3_leaderFor (va_Pc [.ref t, va_rf r1, .int x2] (mP D cs A σ)) (va_Qi k (mB D cs A) A) 0 0 A := by
  refine Met.ofW (cc := cX3_leaderFor) (maxL := 7) (ret := (some .int)) (by decide) rfl ?_
  intro p e s m args below meth c s₁ B hml hv
  obtain ⟨rfl, hM, hE⟩ := hv
  have CX : CXM p s m _ meth c cX3_leaderFor 7 (some .int) "leaderFor" RX3 wsX3_leaderFor D cs A := ⟨B.exec, B.bytes, hml, B.returns, (name_of_methodNamed B.named B.method).1, findClass_of_methodNamed B.named, atoms_spec (ws := wsX3_leaderFor) B.pre, B.notSynchronized, hE⟩
  cases r1 with
  | none =>
    have hl := lv_entry ([.ref t, va_rf none, .int x2]) (n := 7) (Nat.le_of_ble_eq_true rfl)
    rw [lg_entry_eq]
    exact oX3_leaderFor_0 CX none x2 σ _ _ _ h hM va_S.rf hl
  | some a0 =>
    have hl := lv_entry ([.ref t, va_rf (some a0), .int x2]) (n := 7) (Nat.le_of_ble_eq_true rfl)
    rw [lg_entry_eq]
    exact oX3_leaderFor_0 CX (some a0) x2 σ _ _ _ h hM va_S.rf hl
/-! WorkCoder.byRules(LWorkCoder$Item;I)I -/
abbrev rmX3_byRules : Room := { frames := 3, cells := 0, slots := 0, locals := 69 }
theorem inX3_byRules_1 : ∀ w ∈ wsX10, w ∈ wsX3_byRules := fun _ h => List.mem_cons_of_mem _ (List.mem_append_left _ (List.mem_append_right _ (h)))
theorem inX3_byRules_3 : ∀ w ∈ wsX30, w ∈ wsX3_byRules := fun _ h => List.mem_cons_of_mem _ (List.mem_append_left _ (List.mem_append_left _ (List.mem_append_right _ (h))))
section S_X3_byRules
variable {p : Program} {l : Launch} {e : Env} {s : State} {m : MethodId} {args : Array Value} {below : List Frame} {meth : Method} {c : Code} {D : va_G} {cs : CS} {A : Nat → Prop}
set_option maxHeartbeats 4000000 in
set_option maxRecDepth 100000 in
theorem oX3_byRules_21 {k : Int32 → MM → Prop} {t : Nat} (CX : CXM p s m args meth c cX3_byRules 6 (some .int) "byRules" RX3 wsX3_byRules D cs A) : ∀ (n : Nat), ∀ (r1 : Option Nat) (x2 : Int32) (r3 : Option Nat) (x4 : Int32) (σ : MM) (H : Heap) (locs : List Loc) (ls : Array Slot), wX3_byRules_21 k t  n r1 x2 r3 x4 σ → PH D cs A σ H → va_S A s.heap H locs → lv_has ls 6 [(0, .ref t), (1, va_rf r1), (2, .int x2), (3, va_rf r3), (4, .int x4)] → W p l e (headSpec wsX3_byRules rmX3_byRules).room s m args below meth c H locs 0 0 (MQ below (va_Qi k (mB D cs A) A) args s 0 0 A) (F0 m 21 ls []) := by
  intro n
  induction n with
  | zero => intro r1 x2 r3 x4 σ H locs ls h; exact h.elim
  | succ n ih =>
    intro r1 x2 r3 x4 σ H locs ls h hM hS hl
    have ⟨hx, hb, hml, hr, hnm, hown, hts, hlocks, hE⟩ := CX
    unfold wX3_byRules_21 at h
    refine lv_iload hx hb dX3_byRules_21 (lv_at hl 4 rfl) ?_
    refine lv_aload_n hx hb dX3_byRules_23 rfl (lv_at hl 0 rfl) ?_
    obtain ⟨hk_1, h⟩ := h
    refine gf3_7 hx hb hts inX3_byRules_3 hown hE.1 hM hk_1 (hts (.fieldLink RX3 44 "WorkCoder" "rules" "[LWorkCoder$Rule;") (by decide +kernel)) dX3_byRules_24 (fun r_2 er_2 => ?_)
    replace h := h r_2 er_2
    clear er_2
    obtain ⟨a_3, rfl, h⟩ := h
    obtain ⟨hk_4, h⟩ := h
    refine mm_alen10 hx hb hE.1 hM hk_4 dX3_byRules_27 ?_
    refine lv_icmp_ge (tgt := 93) hx hb dX3_byRules_28 (by decide) (fun hc => ?_) (fun hc => ?_)
    · replace h := h.1 hc
      refine nl_aload_n hx hb dX3_byRules_93 rfl (lv_at hl 3 rfl) ?_
      obtain ⟨a_5, rfl, h⟩ := h
      obtain ⟨hk_6, h⟩ := h
      refine gf1_1 hx hb hts inX3_byRules_1 hown hE.1 hM hk_6 (hts (.fieldLink RX3 236 "WorkCoder$Rule" "code" "I") (by decide +kernel)) dX3_byRules_94 ?_
      exact W.iret (v := mI σ a_5 1) hx hb hr (fun t_ ht hW => ⟨⟨_, _, rfl, h, mB_of ht hM⟩, hS.F ht⟩) hS.2.2 dX3_byRules_97
    · replace h := h.2 hc
      refine lv_aload_n hx hb dX3_byRules_31 rfl (lv_at hl 0 rfl) ?_
      refine gf3_7 hx hb hts inX3_byRules_3 hown hE.1 hM hk_1 (hts (.fieldLink RX3 44 "WorkCoder" "rules" "[LWorkCoder$Rule;") (by decide +kernel)) dX3_byRules_32 (fun r_7 er_7 => ?_)
      replace h := h r_7 er_7
      clear er_7
      refine lv_iload hx hb dX3_byRules_35 (lv_at hl 4 rfl) ?_
      obtain ⟨a_8, rfl, h⟩ := h
      obtain ⟨hk_9, h⟩ := h
      obtain ⟨hv_10, h⟩ := h
      refine mm_aald10 hx hb hE.1 hM hk_9 hv_10 dX3_byRules_37 (fun r_11 er_11 => ?_)
      replace h := h r_11 er_11
      clear er_11
      refine nl_astore (i := 5) (lv' := [(5, va_rf r_11), (0, .ref t), (1, va_rf r1), (2, .int x2), (3, va_rf r3), (4, .int x4)]) hx hb dX3_byRules_38 hl (by decide) rfl (fun ls hl => ?_)
      refine lv_iload hx hb dX3_byRules_40 (lv_at hl 5 rfl) ?_
      refine lv_iload_n hx hb dX3_byRules_42 rfl (lv_at hl 3 rfl) ?_
      refine lv_icmp_eq (tgt := 87) hx hb dX3_byRules_43 (by decide) (fun hc => ?_) (fun hc => ?_)
      · replace h := h.1 hc
        obtain ⟨x_12, ex_12⟩ : ∃ y : Int32, y = x4 + 1 := ⟨_, rfl⟩
        replace h := h x_12 ex_12
        refine lv_iinc (v := x_12) (lv' := [(4, .int x_12), (5, va_rf r_11), (0, .ref t), (1, va_rf r1), (2, .int x2), (3, va_rf r3)]) hx hb dX3_byRules_87 hl (k := 5) rfl (by rw [ex_12]; rfl) (by decide) (by simp [nl_cat] <;> rfl) (fun ls hl => ?_)
        refine lv_goto (tgt := 21) hx hb dX3_byRules_90 (by decide) ?_
        exact ih _ _ _ _ _ _ _ _ h hM hS (lv_sub hl [2, 3, 4, 5, 0] rfl)
      · replace h := h.2 hc
        refine nl_aload hx hb dX3_byRules_46 (lv_at hl 0 rfl) ?_
        refine nl_ifnull (tgt := 87) hx hb dX3_byRules_48 (by decide) (fun hn => ?_) (fun a_13 hn => ?_)
        · replace h := h.1 hn
          subst hn
          obtain ⟨x_14, ex_14⟩ : ∃ y : Int32, y = x4 + 1 := ⟨_, rfl⟩
          replace h := h x_14 ex_14
          refine lv_iinc (v := x_14) (lv' := [(4, .int x_14), (5, .null), (0, .ref t), (1, va_rf r1), (2, .int x2), (3, va_rf r3)]) hx hb dX3_byRules_87 hl (k := 5) rfl (by rw [ex_14]; rfl) (by decide) (by simp [nl_cat] <;> rfl) (fun ls hl => ?_)
          refine lv_goto (tgt := 21) hx hb dX3_byRules_90 (by decide) ?_
          exact ih _ _ _ _ _ _ _ _ h hM hS (lv_sub hl [2, 3, 4, 5, 0] rfl)
        · replace h := h.2 a_13 hn
          subst hn
          refine lv_aload hx hb dX3_byRules_51 (lv_at hl 0 rfl) ?_
          obtain ⟨hk_15, h⟩ := h
          refine gf1_0 hx hb hts inX3_byRules_1 hown hE.1 hM hk_15 (hts (.fieldLink RX3 233 "WorkCoder$Rule" "rank" "I") (by decide +kernel)) dX3_byRules_53 ?_
          refine nl_aload_n hx hb dX3_byRules_56 rfl (lv_at hl 4 rfl) ?_
          obtain ⟨a_16, rfl, h⟩ := h
          obtain ⟨hk_17, h⟩ := h
          refine gf1_0 hx hb hts inX3_byRules_1 hown hE.1 hM hk_17 (hts (.fieldLink RX3 233 "WorkCoder$Rule" "rank" "I") (by decide +kernel)) dX3_byRules_57 ?_
          refine lv_icmp_ne (tgt := 87) hx hb dX3_byRules_60 (by decide) (fun hc => ?_) (fun hc => ?_)
          · replace h := h.1 hc
            obtain ⟨x_18, ex_18⟩ : ∃ y : Int32, y = x4 + 1 := ⟨_, rfl⟩
            replace h := h x_18 ex_18
            refine lv_iinc (v := x_18) (lv' := [(4, .int x_18), (5, .ref a_13), (0, .ref t), (1, va_rf r1), (2, .int x2), (3, .ref a_16)]) hx hb dX3_byRules_87 hl (k := 5) rfl (by rw [ex_18]; rfl) (by decide) rfl (fun ls hl => ?_)
            refine lv_goto (tgt := 21) hx hb dX3_byRules_90 (by decide) ?_
            exact ih _ _ _ _ _ _ _ _ h hM hS (lv_sub hl [2, 3, 4, 5, 0] rfl)
          · replace h := h.2 hc
            refine lv_aload hx hb dX3_byRules_63 (lv_at hl 0 rfl) ?_
            refine gf1_1 hx hb hts inX3_byRules_1 hown hE.1 hM hk_15 (hts (.fieldLink RX3 236 "WorkCoder$Rule" "code" "I") (by decide +kernel)) dX3_byRules_65 ?_
            refine lv_aload_n hx hb dX3_byRules_68 rfl (lv_at hl 4 rfl) ?_
            refine gf1_1 hx hb hts inX3_byRules_1 hown hE.1 hM hk_17 (hts (.fieldLink RX3 236 "WorkCoder$Rule" "code" "I") (by decide +kernel)) dX3_byRules_69 ?_
            refine lv_icmp_eq (tgt := 87) hx hb dX3_byRules_72 (by decide) (fun hc => ?_) (fun hc => ?_)
            · replace h := h.1 hc
              obtain ⟨x_19, ex_19⟩ : ∃ y : Int32, y = x4 + 1 := ⟨_, rfl⟩
              replace h := h x_19 ex_19
              refine lv_iinc (v := x_19) (lv' := [(4, .int x_19), (5, .ref a_13), (0, .ref t), (1, va_rf r1), (2, .int x2), (3, .ref a_16)]) hx hb dX3_byRules_87 hl (k := 5) rfl (by rw [ex_19]; rfl) (by decide) rfl (fun ls hl => ?_)
              refine lv_goto (tgt := 21) hx hb dX3_byRules_90 (by decide) ?_
              exact ih _ _ _ _ _ _ _ _ h hM hS (lv_sub hl [2, 3, 4, 5, 0] rfl)
            · replace h := h.2 hc
              refine lv_aload hx hb dX3_byRules_75 (lv_at hl 0 rfl) ?_
              refine nl_aload_n hx hb dX3_byRules_77 rfl (lv_at hl 2 rfl) ?_
              refine clVi (C := RX1) (b := a_13) (As := [va_rf r1]) (rest := []) ⟨hx, hb, hml, hown, hts⟩ hM hE hS (ok_X1_fits l D cs A a_13 r1 _ _ h) (cwV 1 hts gX3_byRules_X1_fits rfl rfl rfl (by decide +kernel) ⟨(Nat.le_of_ble_eq_true rfl), (Nat.le_of_ble_eq_true rfl)⟩) (rc1 hM hE.1 hk_15) rfl hl.1 rfl (Nat.le_of_ble_eq_true rfl) dX3_byRules_78 ⟨(Nat.le_of_ble_eq_true rfl), (Nat.le_of_ble_eq_true rfl)⟩ (fun x_21 σ_20 H locs h1 hM hS => ?_)
              replace h := h1
              clear h1
              refine lv_if_eq (tgt := 87) hx hb dX3_byRules_81 (by decide) (fun hc => ?_) (fun hc => ?_)
              · replace h := h.1 hc
                obtain ⟨x_22, ex_22⟩ : ∃ y : Int32, y = x4 + 1 := ⟨_, rfl⟩
                replace h := h x_22 ex_22
                refine lv_iinc (v := x_22) (lv' := [(4, .int x_22), (5, .ref a_13), (0, .ref t), (1, va_rf r1), (2, .int x2), (3, .ref a_16)]) hx hb dX3_byRules_87 hl (k := 5) rfl (by rw [ex_22]; rfl) (by decide) rfl (fun ls hl => ?_)
                refine lv_goto (tgt := 21) hx hb dX3_byRules_90 (by decide) ?_
                exact ih _ _ _ _ _ _ _ _ h hM hS (lv_sub hl [2, 3, 4, 5, 0] rfl)
              · replace h := h.2 hc
                refine lv_bipush (v := (-5)) hx hb dX3_byRules_84 (by decide) ?_
                exact W.iret (v := (-5)) hx hb hr (fun t_ ht hW => ⟨⟨_, _, rfl, h, mB_of ht hM⟩, hS.F ht⟩) hS.2.2 dX3_byRules_86
set_option maxHeartbeats 4000000 in
set_option maxRecDepth 100000 in
theorem oX3_byRules_0 {k : Int32 → MM → Prop} {t : Nat} (CX : CXM p s m args meth c cX3_byRules 6 (some .int) "byRules" RX3 wsX3_byRules D cs A) : ∀ (r1 : Option Nat) (x2 : Int32) (σ : MM) (H : Heap) (locs : List Loc) (ls : Array Slot), wX3_byRules t r1 x2 σ k → PH D cs A σ H → va_S A s.heap H locs → lv_has ls 6 [(0, .ref t), (1, va_rf r1), (2, .int x2)] → W p l e (headSpec wsX3_byRules rmX3_byRules).room s m args below meth c H locs 0 0 (MQ below (va_Qi k (mB D cs A) A) args s 0 0 A) (F0 m 0 ls []) := by
  intro r1 x2 σ H locs ls h hM hS hl
  have ⟨hx, hb, hml, hr, hnm, hown, hts, hlocks, hE⟩ := CX
  unfold wX3_byRules at h
  refine lv_aload_n hx hb dX3_byRules_0 rfl (lv_at hl 0 rfl) ?_
  refine lv_aload_n hx hb dX3_byRules_1 rfl (lv_at hl 0 rfl) ?_
  refine nl_aload_n hx hb dX3_byRules_2 rfl (lv_at hl 1 rfl) ?_
  refine lv_iload_n hx hb dX3_byRules_3 rfl (lv_at hl 2 rfl) ?_
  obtain ⟨hk_1, h⟩ := h
  refine clVi (C := RX3) (b := t) (As := [va_rf r1, .int x2]) (rest := [.ref t]) ⟨hx, hb, hml, hown, hts⟩ hM hE hS (ok_X3_leaderFor l D cs A t r1 x2 _ _ h) (cwV 2 hts gX3_byRules_X3_leaderFor rfl rfl rfl (by decide +kernel) ⟨(Nat.le_of_ble_eq_true rfl), (Nat.le_of_ble_eq_true rfl)⟩) (rc3 hM hE.1 hk_1) rfl hl.1 rfl (Nat.le_of_ble_eq_true rfl) dX3_byRules_4 ⟨(Nat.le_of_ble_eq_true rfl), (Nat.le_of_ble_eq_true rfl)⟩ (fun x_3 σ_2 H locs h1 hM hS => ?_)
  replace h := h1
  clear h1
  obtain ⟨hk_4, h⟩ := h
  refine clVq (C := RX3) (b := t) (As := [.int x_3]) (rest := []) ⟨hx, hb, hml, hown, hts⟩ hM hE hS (ok_X3_ruleAt l D cs A t x_3 _ _ h) (cwV 1 hts gX3_byRules_X3_ruleAt rfl rfl rfl (by decide +kernel) ⟨(Nat.le_of_ble_eq_true rfl), (Nat.le_of_ble_eq_true rfl)⟩) (rc3 hM hE.1 hk_4) rfl hl.1 rfl (Nat.le_of_ble_eq_true rfl) dX3_byRules_7 ⟨(Nat.le_of_ble_eq_true rfl), (Nat.le_of_ble_eq_true rfl)⟩ (fun r_6 σ_5 H locs h1 hM hS => ?_)
  replace h := h1
  clear h1
  refine nl_astore_n (i := 3) (lv' := [(3, va_rf r_6), (0, .ref t), (1, va_rf r1), (2, .int x2)]) hx hb dX3_byRules_10 rfl hl (by decide) rfl (fun ls hl => ?_)
  refine nl_aload_n hx hb dX3_byRules_11 rfl (lv_at hl 0 rfl) ?_
  refine nl_ifnonnull (tgt := 18) hx hb dX3_byRules_12 (by decide) (fun a_7 hn => ?_) (fun hn => ?_)
  · replace h := h.1 a_7 hn
    subst hn
    refine lv_iconst (v := 0) hx hb dX3_byRules_18 (by decide) ?_
    refine lv_istore (i := 4) (lv' := [(4, .int 0), (3, .ref a_7), (0, .ref t), (1, va_rf r1), (2, .int x2)]) hx hb dX3_byRules_19 hl (by decide) rfl (fun ls hl => ?_)
    obtain ⟨n0, h⟩ := h
    exact oX3_byRules_21 CX  n0 _ _ _ _ _ _ _ _ h hM hS (lv_sub hl [2, 3, 4, 1, 0] rfl)
  · replace h := h.2 hn
    subst hn
    refine lv_bipush (v := (-2)) hx hb dX3_byRules_15 (by decide) ?_
    exact W.iret (v := (-2)) hx hb hr (fun t_ ht hW => ⟨⟨_, _, rfl, h, mB_of ht hM⟩, hS.F ht⟩) hS.2.2 dX3_byRules_17
end S_X3_byRules
set_option maxHeartbeats 4000000 in
set_option maxRecDepth 100000 in
theorem ok_X3_byRules (l : Launch) (D : va_G) (cs : CS) (A : Nat → Prop) (t : Nat) (r1 : Option Nat) (x2 : Int32) (σ : MM) (k : Int32 → MM → Prop) (h : wX3_byRules t r1 x2 σ k) : Met l yX3_byRules wsX3_byRules rmX3_byRules (va_Pc [.ref t, va_rf r1, .int x2] (mP D cs A σ)) (va_Qi k (mB D cs A) A) 0 0 A := by
  refine Met.ofW (cc := cX3_byRules) (maxL := 6) (ret := (some .int)) (by decide) rfl ?_
  intro p e s m args below meth c s₁ B hml hv
  obtain ⟨rfl, hM, hE⟩ := hv
  have CX : CXM p s m _ meth c cX3_byRules 6 (some .int) "byRules" RX3 wsX3_byRules D cs A := ⟨B.exec, B.bytes, hml, B.returns, (name_of_methodNamed B.named B.method).1, findClass_of_methodNamed B.named, atoms_spec (ws := wsX3_byRules) B.pre, B.notSynchronized, hE⟩
  cases r1 with
  | none =>
    have hl := lv_entry ([.ref t, va_rf none, .int x2]) (n := 6) (Nat.le_of_ble_eq_true rfl)
    rw [lg_entry_eq]
    exact oX3_byRules_0 CX none x2 σ _ _ _ h hM va_S.rf hl
  | some a0 =>
    have hl := lv_entry ([.ref t, va_rf (some a0), .int x2]) (n := 6) (Nat.le_of_ble_eq_true rfl)
    rw [lg_entry_eq]
    exact oX3_byRules_0 CX (some a0) x2 σ _ _ _ h hM va_S.rf hl
/-! WorkCoder.ruled(I)I -/
abbrev rmX3_ruled : Room := { frames := 4, cells := 0, slots := 0, locals := 94 }
section S_X3_ruled
variable {p : Program} {l : Launch} {e : Env} {s : State} {m : MethodId} {args : Array Value} {below : List Frame} {meth : Method} {c : Code} {D : va_G} {cs : CS} {A : Nat → Prop}
set_option maxHeartbeats 4000000 in
set_option maxRecDepth 100000 in
theorem oX3_ruled_0 {k : Int32 → MM → Prop} {t : Nat} (CX : CXM p s m args meth c cX3_ruled 3 (some .int) "ruled" RX3 wsX3_ruled D cs A) : ∀ (x1 : Int32) (σ : MM) (H : Heap) (locs : List Loc) (ls : Array Slot), wX3_ruled t x1 σ k → PH D cs A σ H → va_S A s.heap H locs → lv_has ls 3 [(0, .ref t), (1, .int x1)] → W p l e (headSpec wsX3_ruled rmX3_ruled).room s m args below meth c H locs 0 0 (MQ below (va_Qi k (mB D cs A) A) args s 0 0 A) (F0 m 0 ls []) := by
  intro x1 σ H locs ls h hM hS hl
  have ⟨hx, hb, hml, hr, hnm, hown, hts, hlocks, hE⟩ := CX
  unfold wX3_ruled at h
  refine lv_aload_n hx hb dX3_ruled_0 rfl (lv_at hl 0 rfl) ?_
  refine lv_iload_n hx hb dX3_ruled_1 rfl (lv_at hl 1 rfl) ?_
  obtain ⟨hk_1, h⟩ := h
  refine clVq (C := RX3) (b := t) (As := [.int x1]) (rest := []) ⟨hx, hb, hml, hown, hts⟩ hM hE hS (ok_X3_itemAt l D cs A t x1 _ _ h) (cwV 1 hts gX3_ruled_X3_itemAt rfl rfl rfl (by decide +kernel) ⟨(Nat.le_of_ble_eq_true rfl), (Nat.le_of_ble_eq_true rfl)⟩) (rc3 hM hE.1 hk_1) rfl hl.1 rfl (Nat.le_of_ble_eq_true rfl) dX3_ruled_2 ⟨(Nat.le_of_ble_eq_true rfl), (Nat.le_of_ble_eq_true rfl)⟩ (fun r_3 σ_2 H locs h1 hM hS => ?_)
  replace h := h1
  clear h1
  refine nl_astore_n (i := 2) (lv' := [(2, va_rf r_3), (0, .ref t), (1, .int x1)]) hx hb dX3_ruled_5 rfl hl (by decide) rfl (fun ls hl => ?_)
  refine nl_aload_n hx hb dX3_ruled_6 rfl (lv_at hl 0 rfl) ?_
  refine nl_ifnonnull (tgt := 14) hx hb dX3_ruled_7 (by decide) (fun a_4 hn => ?_) (fun hn => ?_)
  · replace h := h.1 a_4 hn
    subst hn
    refine lv_aload_n hx hb dX3_ruled_14 rfl (lv_at hl 1 rfl) ?_
    refine lv_aload_n hx hb dX3_ruled_15 rfl (lv_at hl 0 rfl) ?_
    refine lv_iconst (v := (-1)) hx hb dX3_ruled_16 (by decide) ?_
    obtain ⟨hk_5, h⟩ := h
    refine clVi (C := RX3) (b := t) (As := [.ref a_4, .int (-1)]) (rest := []) ⟨hx, hb, hml, hown, hts⟩ hM hE hS (ok_X3_byRules l D cs A t (some a_4) (-1) _ _ h) (cwV 2 hts gX3_ruled_X3_byRules rfl rfl rfl (by decide +kernel) ⟨(Nat.le_of_ble_eq_true rfl), (Nat.le_of_ble_eq_true rfl)⟩) (rc3 hM hE.1 hk_5) rfl hl.1 rfl (Nat.le_of_ble_eq_true rfl) dX3_ruled_17 ⟨(Nat.le_of_ble_eq_true rfl), (Nat.le_of_ble_eq_true rfl)⟩ (fun x_7 σ_6 H locs h1 hM hS => ?_)
    replace h := h1
    clear h1
    exact W.iret (v := x_7) hx hb hr (fun t_ ht hW => ⟨⟨_, _, rfl, h, mB_of ht hM⟩, hS.F ht⟩) hS.2.2 dX3_ruled_20
  · replace h := h.2 hn
    subst hn
    refine lv_iconst (v := (-1)) hx hb dX3_ruled_10 (by decide) ?_
    refine lv_goto (tgt := 20) hx hb dX3_ruled_11 (by decide) ?_
    exact W.iret (v := (-1)) hx hb hr (fun t_ ht hW => ⟨⟨_, _, rfl, h, mB_of ht hM⟩, hS.F ht⟩) hS.2.2 dX3_ruled_20
end S_X3_ruled
set_option maxHeartbeats 4000000 in
set_option maxRecDepth 100000 in
theorem ok_X3_ruled (l : Launch) (D : va_G) (cs : CS) (A : Nat → Prop) (t : Nat) (x1 : Int32) (σ : MM) (k : Int32 → MM → Prop) (h : wX3_ruled t x1 σ k) : Met l yX3_ruled wsX3_ruled rmX3_ruled (va_Pc [.ref t, .int x1] (mP D cs A σ)) (va_Qi k (mB D cs A) A) 0 0 A := by
  refine Met.ofW (cc := cX3_ruled) (maxL := 3) (ret := (some .int)) (by decide) rfl ?_
  intro p e s m args below meth c s₁ B hml hv
  obtain ⟨rfl, hM, hE⟩ := hv
  have CX : CXM p s m _ meth c cX3_ruled 3 (some .int) "ruled" RX3 wsX3_ruled D cs A := ⟨B.exec, B.bytes, hml, B.returns, (name_of_methodNamed B.named B.method).1, findClass_of_methodNamed B.named, atoms_spec (ws := wsX3_ruled) B.pre, B.notSynchronized, hE⟩
  have hl := lv_entry ([.ref t, .int x1]) (n := 3) (Nat.le_of_ble_eq_true rfl)
  rw [lg_entry_eq]
  exact oX3_ruled_0 CX x1 σ _ _ _ h hM va_S.rf hl
/-! WorkCoder.doQuarrel(II)Z -/
abbrev rmX3_doQuarrel : Room := { frames := 1, cells := 0, slots := 0, locals := 21 }
section S_X3_doQuarrel
variable {p : Program} {l : Launch} {e : Env} {s : State} {m : MethodId} {args : Array Value} {below : List Frame} {meth : Method} {c : Code} {D : va_G} {cs : CS} {A : Nat → Prop}
set_option maxHeartbeats 4000000 in
set_option maxRecDepth 100000 in
theorem oX3_doQuarrel_0 {k : Int32 → MM → Prop} {t : Nat} (CX : CXM p s m args meth c cX3_doQuarrel 5 (some .boolean) "doQuarrel" RX3 wsX3_doQuarrel D cs A) : ∀ (x1 : Int32) (x2 : Int32) (σ : MM) (H : Heap) (locs : List Loc) (ls : Array Slot), wX3_doQuarrel t x1 x2 σ k → PH D cs A σ H → va_S A s.heap H locs → lv_has ls 5 [(0, .ref t), (1, .int x1), (2, .int x2)] → W p l e (headSpec wsX3_doQuarrel rmX3_doQuarrel).room s m args below meth c H locs 0 0 (MQ below (va_Qi k (mB D cs A) A) args s 0 0 A) (F0 m 0 ls []) := by
  intro x1 x2 σ H locs ls h hM hS hl
  have ⟨hx, hb, hml, hr, hnm, hown, hts, hlocks, hE⟩ := CX
  unfold wX3_doQuarrel at h
  refine lv_aload_n hx hb dX3_doQuarrel_0 rfl (lv_at hl 0 rfl) ?_
  refine lv_iload_n hx hb dX3_doQuarrel_1 rfl (lv_at hl 1 rfl) ?_
  obtain ⟨hk_1, h⟩ := h
  refine clVq (C := RX3) (b := t) (As := [.int x1]) (rest := []) ⟨hx, hb, hml, hown, hts⟩ hM hE hS (ok_X3_ruleAt l D cs A t x1 _ _ h) (cwV 1 hts gX3_doQuarrel_X3_ruleAt rfl rfl rfl (by decide +kernel) ⟨(Nat.le_of_ble_eq_true rfl), (Nat.le_of_ble_eq_true rfl)⟩) (rc3 hM hE.1 hk_1) rfl hl.1 rfl (Nat.le_of_ble_eq_true rfl) dX3_doQuarrel_2 ⟨(Nat.le_of_ble_eq_true rfl), (Nat.le_of_ble_eq_true rfl)⟩ (fun r_3 σ_2 H locs h1 hM hS => ?_)
  replace h := h1
  clear h1
  refine nl_astore_n (i := 3) (lv' := [(3, va_rf r_3), (0, .ref t), (1, .int x1), (2, .int x2)]) hx hb dX3_doQuarrel_5 rfl hl (by decide) rfl (fun ls hl => ?_)
  refine lv_aload_n hx hb dX3_doQuarrel_6 rfl (lv_at hl 1 rfl) ?_
  refine lv_iload_n hx hb dX3_doQuarrel_7 rfl (lv_at hl 3 rfl) ?_
  obtain ⟨hk_4, h⟩ := h
  refine clVq (C := RX3) (b := t) (As := [.int x2]) (rest := []) ⟨hx, hb, hml, hown, hts⟩ hM hE hS (ok_X3_ruleAt l D cs A t x2 _ _ h) (cwV 1 hts gX3_doQuarrel_X3_ruleAt rfl rfl rfl (by decide +kernel) ⟨(Nat.le_of_ble_eq_true rfl), (Nat.le_of_ble_eq_true rfl)⟩) (rc3 hM hE.1 hk_4) rfl hl.1 rfl (Nat.le_of_ble_eq_true rfl) dX3_doQuarrel_8 ⟨(Nat.le_of_ble_eq_true rfl), (Nat.le_of_ble_eq_true rfl)⟩ (fun r_6 σ_5 H locs h1 hM hS => ?_)
  replace h := h1
  clear h1
  refine nl_astore (i := 4) (lv' := [(4, va_rf r_6), (3, va_rf r_3), (0, .ref t), (1, .int x1), (2, .int x2)]) hx hb dX3_doQuarrel_11 hl (by decide) (by simp [nl_cat] <;> rfl) (fun ls hl => ?_)
  refine nl_aload_n hx hb dX3_doQuarrel_13 rfl (lv_at hl 1 rfl) ?_
  refine nl_ifnull (tgt := 35) hx hb dX3_doQuarrel_14 (by decide) (fun hn => ?_) (fun a_7 hn => ?_)
  · replace h := h.1 hn
    subst hn
    refine lv_iconst (v := 0) hx hb dX3_doQuarrel_35 (by decide) ?_
    exact W.zret (v := 0) (ty := .boolean) hx hb hr rfl (fun t_ ht hW => ⟨⟨_, _, rfl, h, mB_of ht hM⟩, hS.F ht⟩) hS.2.2 dX3_doQuarrel_36
  · replace h := h.2 a_7 hn
    subst hn
    refine nl_aload hx hb dX3_doQuarrel_17 (lv_at hl 0 rfl) ?_
    refine nl_ifnull (tgt := 35) hx hb dX3_doQuarrel_19 (by decide) (fun hn => ?_) (fun a_8 hn => ?_)
    · replace h := h.1 hn
      subst hn
      refine lv_iconst (v := 0) hx hb dX3_doQuarrel_35 (by decide) ?_
      exact W.zret (v := 0) (ty := .boolean) hx hb hr rfl (fun t_ ht hW => ⟨⟨_, _, rfl, h, mB_of ht hM⟩, hS.F ht⟩) hS.2.2 dX3_doQuarrel_36
    · replace h := h.2 a_8 hn
      subst hn
      refine lv_aload_n hx hb dX3_doQuarrel_22 rfl (lv_at hl 1 rfl) ?_
      refine lv_aload hx hb dX3_doQuarrel_23 (lv_at hl 0 rfl) ?_
      obtain ⟨hk_9, h⟩ := h
      refine clVi (C := RX1) (b := a_7) (As := [.ref a_8]) (rest := []) ⟨hx, hb, hml, hown, hts⟩ hM hE hS (ok_X1_quarrelsWith l D cs A a_7 (some a_8) _ _ h) (cwV 1 hts gX3_doQuarrel_X1_quarrelsWith rfl rfl rfl (by decide +kernel) ⟨(Nat.le_of_ble_eq_true rfl), (Nat.le_of_ble_eq_true rfl)⟩) (rc1 hM hE.1 hk_9) rfl hl.1 rfl (Nat.le_of_ble_eq_true rfl) dX3_doQuarrel_25 ⟨(Nat.le_of_ble_eq_true rfl), (Nat.le_of_ble_eq_true rfl)⟩ (fun x_11 σ_10 H locs h1 hM hS => ?_)
      replace h := h1
      clear h1
      refine lv_if_eq (tgt := 35) hx hb dX3_doQuarrel_28 (by decide) (fun hc => ?_) (fun hc => ?_)
      · replace h := h.1 hc
        refine lv_iconst (v := 0) hx hb dX3_doQuarrel_35 (by decide) ?_
        exact W.zret (v := 0) (ty := .boolean) hx hb hr rfl (fun t_ ht hW => ⟨⟨_, _, rfl, h, mB_of ht hM⟩, hS.F ht⟩) hS.2.2 dX3_doQuarrel_36
      · replace h := h.2 hc
        refine lv_iconst (v := 1) hx hb dX3_doQuarrel_31 (by decide) ?_
        refine lv_goto (tgt := 36) hx hb dX3_doQuarrel_32 (by decide) ?_
        exact W.zret (v := 1) (ty := .boolean) hx hb hr rfl (fun t_ ht hW => ⟨⟨_, _, rfl, h, mB_of ht hM⟩, hS.F ht⟩) hS.2.2 dX3_doQuarrel_36
end S_X3_doQuarrel
set_option maxHeartbeats 4000000 in
set_option maxRecDepth 100000 in
theorem ok_X3_doQuarrel (l : Launch) (D : va_G) (cs : CS) (A : Nat → Prop) (t : Nat) (x1 : Int32) (x2 : Int32) (σ : MM) (k : Int32 → MM → Prop) (h : wX3_doQuarrel t x1 x2 σ k) : Met l yX3_doQuarrel wsX3_doQuarrel rmX3_doQuarrel (va_Pc [.ref t, .int x1, .int x2] (mP D cs A σ)) (va_Qi k (mB D cs A) A) 0 0 A := by
  refine Met.ofW (cc := cX3_doQuarrel) (maxL := 5) (ret := (some .boolean)) (by decide) rfl ?_
  intro p e s m args below meth c s₁ B hml hv
  obtain ⟨rfl, hM, hE⟩ := hv
  have CX : CXM p s m _ meth c cX3_doQuarrel 5 (some .boolean) "doQuarrel" RX3 wsX3_doQuarrel D cs A := ⟨B.exec, B.bytes, hml, B.returns, (name_of_methodNamed B.named B.method).1, findClass_of_methodNamed B.named, atoms_spec (ws := wsX3_doQuarrel) B.pre, B.notSynchronized, hE⟩
  have hl := lv_entry ([.ref t, .int x1, .int x2]) (n := 5) (Nat.le_of_ble_eq_true rfl)
  rw [lg_entry_eq]
  exact oX3_doQuarrel_0 CX x1 x2 σ _ _ _ h hM va_S.rf hl
/-! WorkCoder.quarrel(I)I -/
abbrev rmX3_quarrel : Room := { frames := 2, cells := 0, slots := 0, locals := 45 }
theorem inX3_quarrel_3 : ∀ w ∈ wsX30, w ∈ wsX3_quarrel := fun _ h => List.mem_cons_of_mem _ (List.mem_append_left _ (List.mem_append_right _ (h)))
section S_X3_quarrel
variable {p : Program} {l : Launch} {e : Env} {s : State} {m : MethodId} {args : Array Value} {below : List Frame} {meth : Method} {c : Code} {D : va_G} {cs : CS} {A : Nat → Prop}
set_option maxHeartbeats 4000000 in
set_option maxRecDepth 100000 in
theorem oX3_quarrel_18 {k : Int32 → MM → Prop} {t : Nat} {g4 : Int32 → Int32 → Int32 → MM → Prop} (CX : CXM p s m args meth c cX3_quarrel 5 (some .int) "quarrel" RX3 wsX3_quarrel D cs A) (hg4 : ∀ (x1 : Int32) (x2 : Int32) (x3 : Int32) (σ : MM) (H : Heap) (locs : List Loc) (ls : Array Slot), g4 x1 x2 x3 σ → PH D cs A σ H → va_S A s.heap H locs → lv_has ls 5 [(0, .ref t), (1, .int x1), (2, .int x2), (3, .int x3)] → W p l e (headSpec wsX3_quarrel rmX3_quarrel).room s m args below meth c H locs 0 0 (MQ below (va_Qi k (mB D cs A) A) args s 0 0 A) (F0 m 4 ls [])) : ∀ (n : Nat), ∀ (x1 : Int32) (x2 : Int32) (x3 : Int32) (x4 : Int32) (σ : MM) (H : Heap) (locs : List Loc) (ls : Array Slot), wX3_quarrel_18 k t g4 n x1 x2 x3 x4 σ → PH D cs A σ H → va_S A s.heap H locs → lv_has ls 5 [(0, .ref t), (1, .int x1), (2, .int x2), (3, .int x3), (4, .int x4)] → W p l e (headSpec wsX3_quarrel rmX3_quarrel).room s m args below meth c H locs 0 0 (MQ below (va_Qi k (mB D cs A) A) args s 0 0 A) (F0 m 18 ls []) := by
  intro n
  induction n with
  | zero => intro x1 x2 x3 x4 σ H locs ls h; exact h.elim
  | succ n ih =>
    intro x1 x2 x3 x4 σ H locs ls h hM hS hl
    have ⟨hx, hb, hml, hr, hnm, hown, hts, hlocks, hE⟩ := CX
    unfold wX3_quarrel_18 at h
    refine lv_iload hx hb dX3_quarrel_18 (lv_at hl 4 rfl) ?_
    refine lv_aload_n hx hb dX3_quarrel_20 rfl (lv_at hl 0 rfl) ?_
    obtain ⟨hk_1, h⟩ := h
    refine gf3_7 hx hb hts inX3_quarrel_3 hown hE.1 hM hk_1 (hts (.fieldLink RX3 44 "WorkCoder" "rules" "[LWorkCoder$Rule;") (by decide +kernel)) dX3_quarrel_21 (fun r_2 er_2 => ?_)
    replace h := h r_2 er_2
    clear er_2
    obtain ⟨a_3, rfl, h⟩ := h
    obtain ⟨hk_4, h⟩ := h
    refine mm_alen10 hx hb hE.1 hM hk_4 dX3_quarrel_24 ?_
    refine lv_icmp_ge (tgt := 63) hx hb dX3_quarrel_25 (by decide) (fun hc => ?_) (fun hc => ?_)
    · replace h := h.1 hc
      obtain ⟨x_5, ex_5⟩ : ∃ y : Int32, y = x3 + 1 := ⟨_, rfl⟩
      replace h := h x_5 ex_5
      refine lv_iinc (v := x_5) (lv' := [(3, .int x_5), (0, .ref t), (1, .int x1), (2, .int x2), (4, .int x4)]) hx hb dX3_quarrel_63 hl (k := 3) rfl (by rw [ex_5]; rfl) (by decide) rfl (fun ls hl => ?_)
      refine lv_goto (tgt := 4) hx hb dX3_quarrel_66 (by decide) ?_
      exact hg4 _ _ _ _ _ _ _ h hM hS (lv_sub hl [1, 2, 3, 0] rfl)
    · replace h := h.2 hc
      refine lv_aload_n hx hb dX3_quarrel_28 rfl (lv_at hl 0 rfl) ?_
      refine lv_iload_n hx hb dX3_quarrel_29 rfl (lv_at hl 3 rfl) ?_
      refine lv_iload hx hb dX3_quarrel_30 (lv_at hl 4 rfl) ?_
      refine clVi (C := RX3) (b := t) (As := [.int x3, .int x4]) (rest := []) ⟨hx, hb, hml, hown, hts⟩ hM hE hS (ok_X3_doQuarrel l D cs A t x3 x4 _ _ h) (cwV 2 hts gX3_quarrel_X3_doQuarrel rfl rfl rfl (by decide +kernel) ⟨(Nat.le_of_ble_eq_true rfl), (Nat.le_of_ble_eq_true rfl)⟩) (rc3 hM hE.1 hk_1) rfl hl.1 rfl (Nat.le_of_ble_eq_true rfl) dX3_quarrel_32 ⟨(Nat.le_of_ble_eq_true rfl), (Nat.le_of_ble_eq_true rfl)⟩ (fun x_7 σ_6 H locs h1 hM hS => ?_)
      replace h := h1
      clear h1
      refine lv_if_ne (tgt := 41) hx hb dX3_quarrel_35 (by decide) (fun hc => ?_) (fun hc => ?_)
      · replace h := h.1 hc
        refine lv_iload_n hx hb dX3_quarrel_41 rfl (lv_at hl 2 rfl) ?_
        refine lv_iload_n hx hb dX3_quarrel_42 rfl (lv_at hl 1 rfl) ?_
        refine lv_icmp_ne (tgt := 54) hx hb dX3_quarrel_43 (by decide) (fun hc => ?_) (fun hc => ?_)
        · replace h := h.1 hc
          obtain ⟨x_8, ex_8⟩ : ∃ y : Int32, y = x2 + 1 := ⟨_, rfl⟩
          replace h := h x_8 ex_8
          refine lv_iinc (v := x_8) (lv' := [(2, .int x_8), (0, .ref t), (1, .int x1), (3, .int x3), (4, .int x4)]) hx hb dX3_quarrel_54 hl (k := 2) rfl (by rw [ex_8]; rfl) (by decide) rfl (fun ls hl => ?_)
          obtain ⟨x_9, ex_9⟩ : ∃ y : Int32, y = x4 + 1 := ⟨_, rfl⟩
          replace h := h x_9 ex_9
          refine lv_iinc (v := x_9) (lv' := [(4, .int x_9), (2, .int x_8), (0, .ref t), (1, .int x1), (3, .int x3)]) hx hb dX3_quarrel_57 hl (k := 4) rfl (by rw [ex_9]; rfl) (by decide) rfl (fun ls hl => ?_)
          refine lv_goto (tgt := 18) hx hb dX3_quarrel_60 (by decide) ?_
          exact ih _ _ _ _ _ _ _ _ h hM hS (lv_sub hl [2, 3, 1, 4, 0] rfl)
        · replace h := h.2 hc
          refine lv_bipush (v := 100) hx hb dX3_quarrel_46 (by decide) ?_
          refine lv_iload_n hx hb dX3_quarrel_48 rfl (lv_at hl 3 rfl) ?_
          refine lv_imul hx hb dX3_quarrel_49 ?_
          refine lv_iload hx hb dX3_quarrel_50 (lv_at hl 4 rfl) ?_
          refine lv_iadd hx hb dX3_quarrel_52 ?_
          exact W.iret (v := ((100 : Int32) * x3) + x4) hx hb hr (fun t_ ht hW => ⟨⟨_, _, rfl, h, mB_of ht hM⟩, hS.F ht⟩) hS.2.2 dX3_quarrel_53
      · replace h := h.2 hc
        refine lv_goto (tgt := 57) hx hb dX3_quarrel_38 (by decide) ?_
        obtain ⟨x_10, ex_10⟩ : ∃ y : Int32, y = x4 + 1 := ⟨_, rfl⟩
        replace h := h x_10 ex_10
        refine lv_iinc (v := x_10) (lv' := [(4, .int x_10), (0, .ref t), (1, .int x1), (2, .int x2), (3, .int x3)]) hx hb dX3_quarrel_57 hl (k := 4) rfl (by rw [ex_10]; rfl) (by decide) rfl (fun ls hl => ?_)
        refine lv_goto (tgt := 18) hx hb dX3_quarrel_60 (by decide) ?_
        exact ih _ _ _ _ _ _ _ _ h hM hS (lv_sub hl [1, 2, 3, 4, 0] rfl)
set_option maxHeartbeats 4000000 in
set_option maxRecDepth 100000 in
theorem oX3_quarrel_4 {k : Int32 → MM → Prop} {t : Nat} (CX : CXM p s m args meth c cX3_quarrel 5 (some .int) "quarrel" RX3 wsX3_quarrel D cs A) : ∀ (n : Nat), ∀ (x1 : Int32) (x2 : Int32) (x3 : Int32) (σ : MM) (H : Heap) (locs : List Loc) (ls : Array Slot), wX3_quarrel_4 k t  n x1 x2 x3 σ → PH D cs A σ H → va_S A s.heap H locs → lv_has ls 5 [(0, .ref t), (1, .int x1), (2, .int x2), (3, .int x3)] → W p l e (headSpec wsX3_quarrel rmX3_quarrel).room s m args below meth c H locs 0 0 (MQ below (va_Qi k (mB D cs A) A) args s 0 0 A) (F0 m 4 ls []) := by
  intro n
  induction n with
  | zero => intro x1 x2 x3 σ H locs ls h; exact h.elim
  | succ n ih =>
    intro x1 x2 x3 σ H locs ls h hM hS hl
    have ⟨hx, hb, hml, hr, hnm, hown, hts, hlocks, hE⟩ := CX
    unfold wX3_quarrel_4 at h
    refine lv_iload_n hx hb dX3_quarrel_4 rfl (lv_at hl 3 rfl) ?_
    refine lv_aload_n hx hb dX3_quarrel_5 rfl (lv_at hl 0 rfl) ?_
    obtain ⟨hk_1, h⟩ := h
    refine gf3_7 hx hb hts inX3_quarrel_3 hown hE.1 hM hk_1 (hts (.fieldLink RX3 44 "WorkCoder" "rules" "[LWorkCoder$Rule;") (by decide +kernel)) dX3_quarrel_6 (fun r_2 er_2 => ?_)
    replace h := h r_2 er_2
    clear er_2
    obtain ⟨a_3, rfl, h⟩ := h
    obtain ⟨hk_4, h⟩ := h
    refine mm_alen10 hx hb hE.1 hM hk_4 dX3_quarrel_9 ?_
    refine lv_icmp_ge (tgt := 69) hx hb dX3_quarrel_10 (by decide) (fun hc => ?_) (fun hc => ?_)
    · replace h := h.1 hc
      refine lv_iconst (v := (-1)) hx hb dX3_quarrel_69 (by decide) ?_
      exact W.iret (v := (-1)) hx hb hr (fun t_ ht hW => ⟨⟨_, _, rfl, h, mB_of ht hM⟩, hS.F ht⟩) hS.2.2 dX3_quarrel_70
    · replace h := h.2 hc
      refine lv_iload_n hx hb dX3_quarrel_13 rfl (lv_at hl 3 rfl) ?_
      refine lv_iconst (v := 1) hx hb dX3_quarrel_14 (by decide) ?_
      refine lv_iadd hx hb dX3_quarrel_15 ?_
      refine lv_topi (fun x_5 ex_5 => ?_)
      replace h := h x_5 ex_5
      refine lv_istore (i := 4) (lv' := [(4, .int x_5), (0, .ref t), (1, .int x1), (2, .int x2), (3, .int x3)]) hx hb dX3_quarrel_16 hl (by decide) rfl (fun ls hl => ?_)
      obtain ⟨n0, h⟩ := h
      exact oX3_quarrel_18 CX ih n0 _ _ _ _ _ _ _ _ h hM hS (lv_sub hl [1, 2, 3, 4, 0] rfl)
set_option maxHeartbeats 4000000 in
set_option maxRecDepth 100000 in
theorem oX3_quarrel_0 {k : Int32 → MM → Prop} {t : Nat} (CX : CXM p s m args meth c cX3_quarrel 5 (some .int) "quarrel" RX3 wsX3_quarrel D cs A) : ∀ (x1 : Int32) (σ : MM) (H : Heap) (locs : List Loc) (ls : Array Slot), wX3_quarrel t x1 σ k → PH D cs A σ H → va_S A s.heap H locs → lv_has ls 5 [(0, .ref t), (1, .int x1)] → W p l e (headSpec wsX3_quarrel rmX3_quarrel).room s m args below meth c H locs 0 0 (MQ below (va_Qi k (mB D cs A) A) args s 0 0 A) (F0 m 0 ls []) := by
  intro x1 σ H locs ls h hM hS hl
  have ⟨hx, hb, hml, hr, hnm, hown, hts, hlocks, hE⟩ := CX
  unfold wX3_quarrel at h
  refine lv_iconst (v := 0) hx hb dX3_quarrel_0 (by decide) ?_
  refine lv_istore_n (i := 2) (lv' := [(2, .int 0), (0, .ref t), (1, .int x1)]) hx hb dX3_quarrel_1 rfl hl (by decide) rfl (fun ls hl => ?_)
  refine lv_iconst (v := 0) hx hb dX3_quarrel_2 (by decide) ?_
  refine lv_istore_n (i := 3) (lv' := [(3, .int 0), (2, .int 0), (0, .ref t), (1, .int x1)]) hx hb dX3_quarrel_3 rfl hl (by decide) rfl (fun ls hl => ?_)
  obtain ⟨n0, h⟩ := h
  exact oX3_quarrel_4 CX  n0 _ _ _ _ _ _ _ h hM hS (lv_sub hl [2, 3, 1, 0] rfl)
end S_X3_quarrel
set_option maxHeartbeats 4000000 in
set_option maxRecDepth 100000 in
theorem ok_X3_quarrel (l : Launch) (D : va_G) (cs : CS) (A : Nat → Prop) (t : Nat) (x1 : Int32) (σ : MM) (k : Int32 → MM → Prop) (h : wX3_quarrel t x1 σ k) : Met l yX3_quarrel wsX3_quarrel rmX3_quarrel (va_Pc [.ref t, .int x1] (mP D cs A σ)) (va_Qi k (mB D cs A) A) 0 0 A := by
  refine Met.ofW (cc := cX3_quarrel) (maxL := 5) (ret := (some .int)) (by decide) rfl ?_
  intro p e s m args below meth c s₁ B hml hv
  obtain ⟨rfl, hM, hE⟩ := hv
  have CX : CXM p s m _ meth c cX3_quarrel 5 (some .int) "quarrel" RX3 wsX3_quarrel D cs A := ⟨B.exec, B.bytes, hml, B.returns, (name_of_methodNamed B.named B.method).1, findClass_of_methodNamed B.named, atoms_spec (ws := wsX3_quarrel) B.pre, B.notSynchronized, hE⟩
  have hl := lv_entry ([.ref t, .int x1]) (n := 5) (Nat.le_of_ble_eq_true rfl)
  rw [lg_entry_eq]
  exact oX3_quarrel_0 CX x1 σ _ _ _ h hM va_S.rf hl
/-! WorkCoder.reach(I)I -/
abbrev rmX3_reach : Room := { frames := 4, cells := 0, slots := 0, locals := 94 }
theorem inX3_reach_1 : ∀ w ∈ wsX10, w ∈ wsX3_reach := fun _ h => List.mem_cons_of_mem _ (List.mem_append_left _ (List.mem_append_left _ (List.mem_append_right _ (h))))
theorem inX3_reach_3 : ∀ w ∈ wsX30, w ∈ wsX3_reach := fun _ h => List.mem_cons_of_mem _ (List.mem_append_left _ (List.mem_append_right _ (h)))
section S_X3_reach
variable {p : Program} {l : Launch} {e : Env} {s : State} {m : MethodId} {args : Array Value} {below : List Frame} {meth : Method} {c : Code} {D : va_G} {cs : CS} {A : Nat → Prop}
set_option maxHeartbeats 4000000 in
set_option maxRecDepth 100000 in
theorem oX3_reach_24 {k : Int32 → MM → Prop} {t : Nat} (CX : CXM p s m args meth c cX3_reach 6 (some .int) "reach" RX3 wsX3_reach D cs A) : ∀ (n : Nat), ∀ (x1 : Int32) (x3 : Int32) (x4 : Int32) (σ : MM) (H : Heap) (locs : List Loc) (ls : Array Slot), wX3_reach_24 k t  n x1 x3 x4 σ → PH D cs A σ H → va_S A s.heap H locs → lv_has ls 6 [(0, .ref t), (1, .int x1), (3, .int x3), (4, .int x4)] → W p l e (headSpec wsX3_reach rmX3_reach).room s m args below meth c H locs 0 0 (MQ below (va_Qi k (mB D cs A) A) args s 0 0 A) (F0 m 24 ls []) := by
  intro n
  induction n with
  | zero => intro x1 x3 x4 σ H locs ls h; exact h.elim
  | succ n ih =>
    intro x1 x3 x4 σ H locs ls h hM hS hl
    have ⟨hx, hb, hml, hr, hnm, hown, hts, hlocks, hE⟩ := CX
    unfold wX3_reach_24 at h
    refine lv_iload hx hb dX3_reach_24 (lv_at hl 3 rfl) ?_
    refine lv_aload_n hx hb dX3_reach_26 rfl (lv_at hl 0 rfl) ?_
    obtain ⟨hk_1, h⟩ := h
    refine gf3_5 hx hb hts inX3_reach_3 hown hE.1 hM hk_1 (hts (.fieldLink RX3 34 "WorkCoder" "items" "[LWorkCoder$Item;") (by decide +kernel)) dX3_reach_27 (fun r_2 er_2 => ?_)
    replace h := h r_2 er_2
    clear er_2
    obtain ⟨a_3, rfl, h⟩ := h
    obtain ⟨hk_4, h⟩ := h
    refine mm_alen9 hx hb hE.1 hM hk_4 dX3_reach_30 ?_
    refine lv_icmp_ge (tgt := 74) hx hb dX3_reach_31 (by decide) (fun hc => ?_) (fun hc => ?_)
    · replace h := h.1 hc
      refine lv_iload_n hx hb dX3_reach_74 rfl (lv_at hl 2 rfl) ?_
      exact W.iret (v := x3) hx hb hr (fun t_ ht hW => ⟨⟨_, _, rfl, h, mB_of ht hM⟩, hS.F ht⟩) hS.2.2 dX3_reach_75
    · replace h := h.2 hc
      refine lv_aload_n hx hb dX3_reach_34 rfl (lv_at hl 0 rfl) ?_
      refine gf3_5 hx hb hts inX3_reach_3 hown hE.1 hM hk_1 (hts (.fieldLink RX3 34 "WorkCoder" "items" "[LWorkCoder$Item;") (by decide +kernel)) dX3_reach_35 (fun r_5 er_5 => ?_)
      replace h := h r_5 er_5
      clear er_5
      refine lv_iload hx hb dX3_reach_38 (lv_at hl 3 rfl) ?_
      obtain ⟨a_6, rfl, h⟩ := h
      obtain ⟨hk_7, h⟩ := h
      obtain ⟨hv_8, h⟩ := h
      refine mm_aald9 hx hb hE.1 hM hk_7 hv_8 dX3_reach_40 (fun r_9 er_9 => ?_)
      replace h := h r_9 er_9
      clear er_9
      refine nl_astore (i := 5) (lv' := [(5, va_rf r_9), (0, .ref t), (1, .int x1), (3, .int x3), (4, .int x4)]) hx hb dX3_reach_41 hl (by decide) rfl (fun ls hl => ?_)
      refine nl_aload hx hb dX3_reach_43 (lv_at hl 0 rfl) ?_
      refine nl_ifnull (tgt := 68) hx hb dX3_reach_45 (by decide) (fun hn => ?_) (fun a_10 hn => ?_)
      · replace h := h.1 hn
        subst hn
        obtain ⟨x_11, ex_11⟩ : ∃ y : Int32, y = x4 + 1 := ⟨_, rfl⟩
        replace h := h x_11 ex_11
        refine lv_iinc (v := x_11) (lv' := [(4, .int x_11), (5, .null), (0, .ref t), (1, .int x1), (3, .int x3)]) hx hb dX3_reach_68 hl (k := 4) rfl (by rw [ex_11]; rfl) (by decide) rfl (fun ls hl => ?_)
        refine lv_goto (tgt := 24) hx hb dX3_reach_71 (by decide) ?_
        exact ih _ _ _ _ _ _ _ h hM hS (lv_sub hl [2, 3, 4, 0] rfl)
      · replace h := h.2 a_10 hn
        subst hn
        refine lv_aload_n hx hb dX3_reach_48 rfl (lv_at hl 1 rfl) ?_
        refine lv_aload hx hb dX3_reach_49 (lv_at hl 0 rfl) ?_
        refine lv_iconst (v := (-1)) hx hb dX3_reach_51 (by decide) ?_
        refine clVi (C := RX3) (b := t) (As := [.ref a_10, .int (-1)]) (rest := []) ⟨hx, hb, hml, hown, hts⟩ hM hE hS (ok_X3_byRules l D cs A t (some a_10) (-1) _ _ h) (cwV 2 hts gX3_reach_X3_byRules rfl rfl rfl (by decide +kernel) ⟨(Nat.le_of_ble_eq_true rfl), (Nat.le_of_ble_eq_true rfl)⟩) (rc3 hM hE.1 hk_1) rfl hl.1 rfl (Nat.le_of_ble_eq_true rfl) dX3_reach_52 ⟨(Nat.le_of_ble_eq_true rfl), (Nat.le_of_ble_eq_true rfl)⟩ (fun x_13 σ_12 H locs h1 hM hS => ?_)
        replace h := h1
        clear h1
        refine lv_aload_n hx hb dX3_reach_55 rfl (lv_at hl 1 rfl) ?_
        refine lv_aload hx hb dX3_reach_56 (lv_at hl 0 rfl) ?_
        refine lv_iload_n hx hb dX3_reach_58 rfl (lv_at hl 2 rfl) ?_
        obtain ⟨hk_14, h⟩ := h
        refine clVi (C := RX3) (b := t) (As := [.ref a_10, .int x1]) (rest := [.int x_13]) ⟨hx, hb, hml, hown, hts⟩ hM hE hS (ok_X3_byRules l D cs A t (some a_10) x1 _ _ h) (cwV 2 hts gX3_reach_X3_byRules rfl rfl rfl (by decide +kernel) ⟨(Nat.le_of_ble_eq_true rfl), (Nat.le_of_ble_eq_true rfl)⟩) (rc3 hM hE.1 hk_14) rfl hl.1 rfl (Nat.le_of_ble_eq_true rfl) dX3_reach_59 ⟨(Nat.le_of_ble_eq_true rfl), (Nat.le_of_ble_eq_true rfl)⟩ (fun x_16 σ_15 H locs h1 hM hS => ?_)
        replace h := h1
        clear h1
        refine lv_icmp_eq (tgt := 68) hx hb dX3_reach_62 (by decide) (fun hc => ?_) (fun hc => ?_)
        · replace h := h.1 hc
          obtain ⟨x_17, ex_17⟩ : ∃ y : Int32, y = x4 + 1 := ⟨_, rfl⟩
          replace h := h x_17 ex_17
          refine lv_iinc (v := x_17) (lv' := [(4, .int x_17), (5, .ref a_10), (0, .ref t), (1, .int x1), (3, .int x3)]) hx hb dX3_reach_68 hl (k := 4) rfl (by rw [ex_17]; rfl) (by decide) rfl (fun ls hl => ?_)
          refine lv_goto (tgt := 24) hx hb dX3_reach_71 (by decide) ?_
          exact ih _ _ _ _ _ _ _ h hM hS (lv_sub hl [2, 3, 4, 0] rfl)
        · replace h := h.2 hc
          obtain ⟨x_18, ex_18⟩ : ∃ y : Int32, y = x3 + 1 := ⟨_, rfl⟩
          replace h := h x_18 ex_18
          refine lv_iinc (v := x_18) (lv' := [(3, .int x_18), (5, .ref a_10), (0, .ref t), (1, .int x1), (4, .int x4)]) hx hb dX3_reach_65 hl (k := 3) rfl (by rw [ex_18]; rfl) (by decide) rfl (fun ls hl => ?_)
          obtain ⟨x_19, ex_19⟩ : ∃ y : Int32, y = x4 + 1 := ⟨_, rfl⟩
          replace h := h x_19 ex_19
          refine lv_iinc (v := x_19) (lv' := [(4, .int x_19), (3, .int x_18), (5, .ref a_10), (0, .ref t), (1, .int x1)]) hx hb dX3_reach_68 hl (k := 4) rfl (by rw [ex_19]; rfl) (by decide) rfl (fun ls hl => ?_)
          refine lv_goto (tgt := 24) hx hb dX3_reach_71 (by decide) ?_
          exact ih _ _ _ _ _ _ _ h hM hS (lv_sub hl [3, 4, 1, 0] rfl)
set_option maxHeartbeats 4000000 in
set_option maxRecDepth 100000 in
theorem oX3_reach_0 {k : Int32 → MM → Prop} {t : Nat} (CX : CXM p s m args meth c cX3_reach 6 (some .int) "reach" RX3 wsX3_reach D cs A) : ∀ (x1 : Int32) (σ : MM) (H : Heap) (locs : List Loc) (ls : Array Slot), wX3_reach t x1 σ k → PH D cs A σ H → va_S A s.heap H locs → lv_has ls 6 [(0, .ref t), (1, .int x1)] → W p l e (headSpec wsX3_reach rmX3_reach).room s m args below meth c H locs 0 0 (MQ below (va_Qi k (mB D cs A) A) args s 0 0 A) (F0 m 0 ls []) := by
  intro x1 σ H locs ls h hM hS hl
  have ⟨hx, hb, hml, hr, hnm, hown, hts, hlocks, hE⟩ := CX
  unfold wX3_reach at h
  refine lv_aload_n hx hb dX3_reach_0 rfl (lv_at hl 0 rfl) ?_
  refine lv_iload_n hx hb dX3_reach_1 rfl (lv_at hl 1 rfl) ?_
  obtain ⟨hk_1, h⟩ := h
  refine clVq (C := RX3) (b := t) (As := [.int x1]) (rest := []) ⟨hx, hb, hml, hown, hts⟩ hM hE hS (ok_X3_ruleAt l D cs A t x1 _ _ h) (cwV 1 hts gX3_reach_X3_ruleAt rfl rfl rfl (by decide +kernel) ⟨(Nat.le_of_ble_eq_true rfl), (Nat.le_of_ble_eq_true rfl)⟩) (rc3 hM hE.1 hk_1) rfl hl.1 rfl (Nat.le_of_ble_eq_true rfl) dX3_reach_2 ⟨(Nat.le_of_ble_eq_true rfl), (Nat.le_of_ble_eq_true rfl)⟩ (fun r_3 σ_2 H locs h1 hM hS => ?_)
  replace h := h1
  clear h1
  refine nl_astore_n (i := 2) (lv' := [(2, va_rf r_3), (0, .ref t), (1, .int x1)]) hx hb dX3_reach_5 rfl hl (by decide) rfl (fun ls hl => ?_)
  refine nl_aload_n hx hb dX3_reach_6 rfl (lv_at hl 0 rfl) ?_
  refine nl_ifnull (tgt := 17) hx hb dX3_reach_7 (by decide) (fun hn => ?_) (fun a_4 hn => ?_)
  · replace h := h.1 hn
    subst hn
    refine lv_iconst (v := (-1)) hx hb dX3_reach_17 (by decide) ?_
    exact W.iret (v := (-1)) hx hb hr (fun t_ ht hW => ⟨⟨_, _, rfl, h, mB_of ht hM⟩, hS.F ht⟩) hS.2.2 dX3_reach_18
  · replace h := h.2 a_4 hn
    subst hn
    refine lv_aload_n hx hb dX3_reach_10 rfl (lv_at hl 0 rfl) ?_
    obtain ⟨hk_5, h⟩ := h
    refine gf1_5 hx hb hts inX3_reach_1 hown hE.1 hM hk_5 (hts (.fieldLink RX3 127 "WorkCoder$Rule" "dropped" "Z") (by decide +kernel)) dX3_reach_11 ?_
    refine lv_if_eq (tgt := 19) hx hb dX3_reach_14 (by decide) (fun hc => ?_) (fun hc => ?_)
    · replace h := h.1 hc
      refine lv_iconst (v := 0) hx hb dX3_reach_19 (by decide) ?_
      refine lv_istore_n (i := 3) (lv' := [(3, .int 0), (2, .ref a_4), (0, .ref t), (1, .int x1)]) hx hb dX3_reach_20 rfl hl (by decide) rfl (fun ls hl => ?_)
      refine lv_iconst (v := 0) hx hb dX3_reach_21 (by decide) ?_
      refine lv_istore (i := 4) (lv' := [(4, .int 0), (3, .int 0), (2, .ref a_4), (0, .ref t), (1, .int x1)]) hx hb dX3_reach_22 hl (by decide) rfl (fun ls hl => ?_)
      obtain ⟨n0, h⟩ := h
      exact oX3_reach_24 CX  n0 _ _ _ _ _ _ _ h hM hS (lv_sub hl [3, 4, 1, 0] rfl)
    · replace h := h.2 hc
      refine lv_iconst (v := (-1)) hx hb dX3_reach_17 (by decide) ?_
      exact W.iret (v := (-1)) hx hb hr (fun t_ ht hW => ⟨⟨_, _, rfl, h, mB_of ht hM⟩, hS.F ht⟩) hS.2.2 dX3_reach_18
end S_X3_reach
set_option maxHeartbeats 4000000 in
set_option maxRecDepth 100000 in
theorem ok_X3_reach (l : Launch) (D : va_G) (cs : CS) (A : Nat → Prop) (t : Nat) (x1 : Int32) (σ : MM) (k : Int32 → MM → Prop) (h : wX3_reach t x1 σ k) : Met l yX3_reach wsX3_reach rmX3_reach (va_Pc [.ref t, .int x1] (mP D cs A σ)) (va_Qi k (mB D cs A) A) 0 0 A := by
  refine Met.ofW (cc := cX3_reach) (maxL := 6) (ret := (some .int)) (by decide) rfl ?_
  intro p e s m args below meth c s₁ B hml hv
  obtain ⟨rfl, hM, hE⟩ := hv
  have CX : CXM p s m _ meth c cX3_reach 6 (some .int) "reach" RX3 wsX3_reach D cs A := ⟨B.exec, B.bytes, hml, B.returns, (name_of_methodNamed B.named B.method).1, findClass_of_methodNamed B.named, atoms_spec (ws := wsX3_reach) B.pre, B.notSynchronized, hE⟩
  have hl := lv_entry ([.ref t, .int x1]) (n := 6) (Nat.le_of_ble_eq_true rfl)
  rw [lg_entry_eq]
  exact oX3_reach_0 CX x1 σ _ _ _ h hM va_S.rf hl
/-! WorkCoder.gap(II)I -/
abbrev rmX3_gap : Room := { frames := 1, cells := 0, slots := 0, locals := 22 }
theorem inX3_gap_3 : ∀ w ∈ wsX30, w ∈ wsX3_gap := fun _ h => List.mem_cons_of_mem _ (List.mem_append_right _ (h))
section S_X3_gap
variable {p : Program} {l : Launch} {e : Env} {s : State} {m : MethodId} {args : Array Value} {below : List Frame} {meth : Method} {c : Code} {D : va_G} {cs : CS} {A : Nat → Prop}
set_option maxHeartbeats 4000000 in
set_option maxRecDepth 100000 in
theorem oX3_gap_0 {k : Int32 → MM → Prop} {t : Nat} (CX : CXM p s m args meth c cX3_gap 3 (some .int) "gap" RX3 wsX3_gap D cs A) : ∀ (x1 : Int32) (x2 : Int32) (σ : MM) (H : Heap) (locs : List Loc) (ls : Array Slot), wX3_gap t x1 x2 σ k → PH D cs A σ H → va_S A s.heap H locs → lv_has ls 3 [(0, .ref t), (1, .int x1), (2, .int x2)] → W p l e (headSpec wsX3_gap rmX3_gap).room s m args below meth c H locs 0 0 (MQ below (va_Qi k (mB D cs A) A) args s 0 0 A) (F0 m 0 ls []) := by
  intro x1 x2 σ H locs ls h hM hS hl
  have ⟨hx, hb, hml, hr, hnm, hown, hts, hlocks, hE⟩ := CX
  unfold wX3_gap at h
  refine lv_iload_n hx hb dX3_gap_0 rfl (lv_at hl 1 rfl) ?_
  refine lv_iconst (v := 1) hx hb dX3_gap_1 (by decide) ?_
  refine lv_sipush (v := 1000) hx hb dX3_gap_2 (by decide) ?_
  refine clSi (As := [.int x1, .int 1, .int 1000]) (rest := []) ⟨hx, hb, hml, hown, hts⟩ hM hE hS (ok_X3_isIn l D cs A x1 1 1000 _ _ h) (va_cwS 3 hts gX3_gap_X3_isIn rfl rfl rfl (by decide +kernel) ⟨(Nat.le_of_ble_eq_true rfl), (Nat.le_of_ble_eq_true rfl)⟩) rfl hl.1 rfl (Nat.le_of_ble_eq_true rfl) dX3_gap_5 ⟨(Nat.le_of_ble_eq_true rfl), (Nat.le_of_ble_eq_true rfl)⟩ (fun x_2 σ_1 H locs h1 hM hS => ?_)
  replace h := h1
  clear h1
  refine lv_if_eq (tgt := 22) hx hb dX3_gap_8 (by decide) (fun hc => ?_) (fun hc => ?_)
  · replace h := h.1 hc
    refine lv_iconst (v := (-1)) hx hb dX3_gap_22 (by decide) ?_
    exact W.iret (v := (-1)) hx hb hr (fun t_ ht hW => ⟨⟨_, _, rfl, h, mB_of ht hM⟩, hS.F ht⟩) hS.2.2 dX3_gap_23
  · replace h := h.2 hc
    refine lv_iload_n hx hb dX3_gap_11 rfl (lv_at hl 2 rfl) ?_
    refine lv_iconst (v := 0) hx hb dX3_gap_12 (by decide) ?_
    refine lv_sipush (v := 1000) hx hb dX3_gap_13 (by decide) ?_
    refine clSi (As := [.int x2, .int 0, .int 1000]) (rest := []) ⟨hx, hb, hml, hown, hts⟩ hM hE hS (ok_X3_isIn l D cs A x2 0 1000 _ _ h) (va_cwS 3 hts gX3_gap_X3_isIn rfl rfl rfl (by decide +kernel) ⟨(Nat.le_of_ble_eq_true rfl), (Nat.le_of_ble_eq_true rfl)⟩) rfl hl.1 rfl (Nat.le_of_ble_eq_true rfl) dX3_gap_16 ⟨(Nat.le_of_ble_eq_true rfl), (Nat.le_of_ble_eq_true rfl)⟩ (fun x_4 σ_3 H locs h1 hM hS => ?_)
    replace h := h1
    clear h1
    refine lv_if_ne (tgt := 24) hx hb dX3_gap_19 (by decide) (fun hc => ?_) (fun hc => ?_)
    · replace h := h.1 hc
      refine lv_aload_n hx hb dX3_gap_24 rfl (lv_at hl 0 rfl) ?_
      refine lv_iload_n hx hb dX3_gap_25 rfl (lv_at hl 1 rfl) ?_
      obtain ⟨hk_5, h⟩ := h
      refine pf3_9 hx hb hts inX3_gap_3 hown hE.1 hM hS hk_5 (hts (.fieldLink RX3 51 "WorkCoder" "least" "I") (by decide +kernel)) dX3_gap_26 (fun H locs hM hS => ?_)
      replace h := h _ rfl
      refine lv_aload_n hx hb dX3_gap_29 rfl (lv_at hl 0 rfl) ?_
      refine lv_iload_n hx hb dX3_gap_30 rfl (lv_at hl 2 rfl) ?_
      refine pf3_10 hx hb hts inX3_gap_3 hown hE.1 hM hS hk_5 (hts (.fieldLink RX3 54 "WorkCoder" "gap" "I") (by decide +kernel)) dX3_gap_31 (fun H locs hM hS => ?_)
      replace h := h _ rfl
      refine lv_iconst (v := 1) hx hb dX3_gap_34 (by decide) ?_
      exact W.iret (v := 1) hx hb hr (fun t_ ht hW => ⟨⟨_, _, rfl, h, mB_of ht hM⟩, hS.F ht⟩) hS.2.2 dX3_gap_35
    · replace h := h.2 hc
      refine lv_iconst (v := (-1)) hx hb dX3_gap_22 (by decide) ?_
      exact W.iret (v := (-1)) hx hb hr (fun t_ ht hW => ⟨⟨_, _, rfl, h, mB_of ht hM⟩, hS.F ht⟩) hS.2.2 dX3_gap_23
end S_X3_gap
set_option maxHeartbeats 4000000 in
set_option maxRecDepth 100000 in
theorem ok_X3_gap (l : Launch) (D : va_G) (cs : CS) (A : Nat → Prop) (t : Nat) (x1 : Int32) (x2 : Int32) (σ : MM) (k : Int32 → MM → Prop) (h : wX3_gap t x1 x2 σ k) : Met l yX3_gap wsX3_gap rmX3_gap (va_Pc [.ref t, .int x1, .int x2] (mP D cs A σ)) (va_Qi k (mB D cs A) A) 0 0 A := by
  refine Met.ofW (cc := cX3_gap) (maxL := 3) (ret := (some .int)) (by decide) rfl ?_
  intro p e s m args below meth c s₁ B hml hv
  obtain ⟨rfl, hM, hE⟩ := hv
  have CX : CXM p s m _ meth c cX3_gap 3 (some .int) "gap" RX3 wsX3_gap D cs A := ⟨B.exec, B.bytes, hml, B.returns, (name_of_methodNamed B.named B.method).1, findClass_of_methodNamed B.named, atoms_spec (ws := wsX3_gap) B.pre, B.notSynchronized, hE⟩
  have hl := lv_entry ([.ref t, .int x1, .int x2]) (n := 3) (Nat.le_of_ble_eq_true rfl)
  rw [lg_entry_eq]
  exact oX3_gap_0 CX x1 x2 σ _ _ _ h hM va_S.rf hl
