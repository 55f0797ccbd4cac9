/-! WorkCoder.likeness(II)I -/
abbrev rmX3_likeness : Room := { frames := 2, cells := 0, slots := 0, locals := 43 }
section S_X3_likeness
variable {p : Program} {l : Launch} {e : Env} {s : State} {m : MethodId} {args : Array Value} {below : List Frame} {meth : Method} {c : Code} {D : va_G} {cs : CS} {A : Nat → Prop}
set_option maxHeartbeats 4000000 in
set_option maxRecDepth 100000 in
theorem oX3_likeness_0 {k : Int32 → MM → Prop} {t : Nat} (CX : CXM p s m args meth c cX3_likeness 5 (some .int) "likeness" RX3 wsX3_likeness D cs A) : ∀ (x1 : Int32) (x2 : Int32) (σ : MM) (H : Heap) (locs : List Loc) (ls : Array Slot), wX3_likeness t x1 x2 σ k → PH D cs A σ H → va_S A s.heap H locs → lv_has ls 5 [(0, .ref t), (1, .int x1), (2, .int x2)] → W p l e (headSpec wsX3_likeness rmX3_likeness).room s m args below meth c H locs 0 0 (MQ below (va_Qi k (mB D cs A) A) args s 0 0 A) (F0 m 0 ls []) := by
  intro x1 x2 σ H locs ls h hM hS hl
  have ⟨hx, hb, hml, hr, hnm, hown, hts, hlocks, hE⟩ := CX
  unfold wX3_likeness at h
  refine lv_aload_n hx hb dX3_likeness_0 rfl (lv_at hl 0 rfl) ?_
  refine lv_iload_n hx hb dX3_likeness_1 rfl (lv_at hl 1 rfl) ?_
  obtain ⟨hk_1, h⟩ := h
  refine clVq (C := RX3) (b := t) (As := [.int x1]) (rest := []) ⟨hx, hb, hml, hown, hts⟩ hM hE hS (ok_X3_itemAt l D cs A t x1 _ _ h) (cwV 1 hts gX3_likeness_X3_itemAt rfl rfl rfl (by decide +kernel) ⟨(Nat.le_of_ble_eq_true rfl), (Nat.le_of_ble_eq_true rfl)⟩) (rc3 hM hE.1 hk_1) rfl hl.1 rfl (Nat.le_of_ble_eq_true rfl) dX3_likeness_2 ⟨(Nat.le_of_ble_eq_true rfl), (Nat.le_of_ble_eq_true rfl)⟩ (fun r_3 σ_2 H locs h1 hM hS => ?_)
  replace h := h1
  clear h1
  refine nl_astore_n (i := 3) (lv' := [(3, va_rf r_3), (0, .ref t), (1, .int x1), (2, .int x2)]) hx hb dX3_likeness_5 rfl hl (by decide) rfl (fun ls hl => ?_)
  refine lv_aload_n hx hb dX3_likeness_6 rfl (lv_at hl 1 rfl) ?_
  refine lv_iload_n hx hb dX3_likeness_7 rfl (lv_at hl 3 rfl) ?_
  obtain ⟨hk_4, h⟩ := h
  refine clVq (C := RX3) (b := t) (As := [.int x2]) (rest := []) ⟨hx, hb, hml, hown, hts⟩ hM hE hS (ok_X3_itemAt l D cs A t x2 _ _ h) (cwV 1 hts gX3_likeness_X3_itemAt rfl rfl rfl (by decide +kernel) ⟨(Nat.le_of_ble_eq_true rfl), (Nat.le_of_ble_eq_true rfl)⟩) (rc3 hM hE.1 hk_4) rfl hl.1 rfl (Nat.le_of_ble_eq_true rfl) dX3_likeness_8 ⟨(Nat.le_of_ble_eq_true rfl), (Nat.le_of_ble_eq_true rfl)⟩ (fun r_6 σ_5 H locs h1 hM hS => ?_)
  replace h := h1
  clear h1
  refine nl_astore (i := 4) (lv' := [(4, va_rf r_6), (3, va_rf r_3), (0, .ref t), (1, .int x1), (2, .int x2)]) hx hb dX3_likeness_11 hl (by decide) (by simp [nl_cat] <;> rfl) (fun ls hl => ?_)
  refine nl_aload_n hx hb dX3_likeness_13 rfl (lv_at hl 1 rfl) ?_
  refine nl_ifnull (tgt := 22) hx hb dX3_likeness_14 (by decide) (fun hn => ?_) (fun a_7 hn => ?_)
  · replace h := h.1 hn
    subst hn
    refine lv_iconst (v := (-1)) hx hb dX3_likeness_22 (by decide) ?_
    refine lv_goto (tgt := 32) hx hb dX3_likeness_23 (by decide) ?_
    exact W.iret (v := (-1)) hx hb hr (fun t_ ht hW => ⟨⟨_, _, rfl, h, mB_of ht hM⟩, hS.F ht⟩) hS.2.2 dX3_likeness_32
  · replace h := h.2 a_7 hn
    subst hn
    refine nl_aload hx hb dX3_likeness_17 (lv_at hl 0 rfl) ?_
    refine nl_ifnonnull (tgt := 26) hx hb dX3_likeness_19 (by decide) (fun a_8 hn => ?_) (fun hn => ?_)
    · replace h := h.1 a_8 hn
      subst hn
      refine lv_aload_n hx hb dX3_likeness_26 rfl (lv_at hl 1 rfl) ?_
      refine lv_aload hx hb dX3_likeness_27 (lv_at hl 0 rfl) ?_
      obtain ⟨hk_9, h⟩ := h
      refine clVi (C := RX0) (b := a_7) (As := [.ref a_8]) (rest := []) ⟨hx, hb, hml, hown, hts⟩ hM hE hS (ok_X0_likenessTo l D cs A a_7 (some a_8) _ _ h) (cwV 1 hts gX3_likeness_X0_likenessTo rfl rfl rfl (by decide +kernel) ⟨(Nat.le_of_ble_eq_true rfl), (Nat.le_of_ble_eq_true rfl)⟩) (rc0 hM hE.1 hk_9) rfl hl.1 rfl (Nat.le_of_ble_eq_true rfl) dX3_likeness_29 ⟨(Nat.le_of_ble_eq_true rfl), (Nat.le_of_ble_eq_true rfl)⟩ (fun x_11 σ_10 H locs h1 hM hS => ?_)
      replace h := h1
      clear h1
      exact W.iret (v := x_11) hx hb hr (fun t_ ht hW => ⟨⟨_, _, rfl, h, mB_of ht hM⟩, hS.F ht⟩) hS.2.2 dX3_likeness_32
    · replace h := h.2 hn
      subst hn
      refine lv_iconst (v := (-1)) hx hb dX3_likeness_22 (by decide) ?_
      refine lv_goto (tgt := 32) hx hb dX3_likeness_23 (by decide) ?_
      exact W.iret (v := (-1)) hx hb hr (fun t_ ht hW => ⟨⟨_, _, rfl, h, mB_of ht hM⟩, hS.F ht⟩) hS.2.2 dX3_likeness_32
end S_X3_likeness
set_option maxHeartbeats 4000000 in
set_option maxRecDepth 100000 in
theorem ok_X3_likeness (l : Launch) (D : va_G) (cs : CS) (A : Nat → Prop) (t : Nat) (x1 : Int32) (x2 : Int32) (σ : MM) (k : Int32 → MM → Prop) (h : wX3_likeness t x1 x2 σ k) : Met l yX3_likeness wsX3_likeness rmX3_likeness (va_Pc [.ref t, .int x1, .int x2] (mP D cs A σ)) (va_Qi k (mB D cs A) A) 0 0 A := by
  refine Met.ofW (cc := cX3_likeness) (maxL := 5) (ret := (some .int)) (by decide) rfl ?_
  intro p e s m args below meth c s₁ B hml hv
  obtain ⟨rfl, hM, hE⟩ := hv
  have CX : CXM p s m _ meth c cX3_likeness 5 (some .int) "likeness" RX3 wsX3_likeness D cs A := ⟨B.exec, B.bytes, hml, B.returns, (name_of_methodNamed B.named B.method).1, findClass_of_methodNamed B.named, atoms_spec (ws := wsX3_likeness) B.pre, B.notSynchronized, hE⟩
  have hl := lv_entry ([.ref t, .int x1, .int x2]) (n := 5) (Nat.le_of_ble_eq_true rfl)
  rw [lg_entry_eq]
  exact oX3_likeness_0 CX x1 x2 σ _ _ _ h hM va_S.rf hl
/-! WorkCoder.codesExcluding(J)J -/
abbrev rmX3_codesExcluding : Room := { frames := 0, cells := 0, slots := 0, locals := 0 }
theorem inX3_codesExcluding_3 : ∀ w ∈ wsX30, w ∈ wsX3_codesExcluding := fun _ h => List.mem_cons_of_mem _ (List.mem_append_right _ (h))
section S_X3_codesExcluding
variable {p : Program} {l : Launch} {e : Env} {s : State} {m : MethodId} {args : Array Value} {below : List Frame} {meth : Method} {c : Code} {D : va_G} {cs : CS} {A : Nat → Prop}
set_option maxHeartbeats 4000000 in
set_option maxRecDepth 100000 in
theorem oX3_codesExcluding_5 {k : Int64 → MM → Prop} {t : Nat} (CX : CXM p s m args meth c cX3_codesExcluding 6 (some .long) "codesExcluding" RX3 wsX3_codesExcluding D cs A) : ∀ (n : Nat), ∀ (y1 : Int64) (y3 : Int64) (x5 : Int32) (σ : MM) (H : Heap) (locs : List Loc) (ls : Array Slot), wX3_codesExcluding_5 k t  n y1 y3 x5 σ → PH D cs A σ H → va_S A s.heap H locs → lv_has ls 6 [(0, .ref t), (1, .long y1), (3, .long y3), (5, .int x5)] → W p l e (headSpec wsX3_codesExcluding rmX3_codesExcluding).room s m args below meth c H locs 0 0 (MQ below (va_Ql k (mB D cs A) A) args s 0 0 A) (F0 m 5 ls []) := by
  intro n
  induction n with
  | zero => intro y1 y3 x5 σ H locs ls h; exact h.elim
  | succ n ih =>
    intro y1 y3 x5 σ H locs ls h hM hS hl
    have ⟨hx, hb, hml, hr, hnm, hown, hts, hlocks, hE⟩ := CX
    unfold wX3_codesExcluding_5 at h
    refine lv_iload hx hb dX3_codesExcluding_5 (lv_at hl 3 rfl) ?_
    refine lv_aload_n hx hb dX3_codesExcluding_7 rfl (lv_at hl 0 rfl) ?_
    obtain ⟨hk_1, h⟩ := h
    refine gf3_2 hx hb hts inX3_codesExcluding_3 hown hE.1 hM hk_1 (hts (.fieldLink RX3 21 "WorkCoder" "excluded" "[J") (by decide +kernel)) dX3_codesExcluding_8 (fun r_2 er_2 => ?_)
    replace h := h r_2 er_2
    clear er_2
    obtain ⟨a_3, rfl, h⟩ := h
    obtain ⟨hk_4, h⟩ := h
    refine mm_alen7 hx hb hE.1 hM hk_4 dX3_codesExcluding_11 ?_
    refine lv_icmp_ge (tgt := 42) hx hb dX3_codesExcluding_12 (by decide) (fun hc => ?_) (fun hc => ?_)
    · replace h := h.1 hc
      refine lv_lload_n hx hb dX3_codesExcluding_42 rfl (lv_at hl 2 rfl) ?_
      exact W.lret (v := y3) hx hb hr (fun t_ ht hW => ⟨⟨_, _, rfl, h, mB_of ht hM⟩, hS.F ht⟩) hS.2.2 dX3_codesExcluding_43
    · replace h := h.2 hc
      refine lv_aload_n hx hb dX3_codesExcluding_15 rfl (lv_at hl 0 rfl) ?_
      refine gf3_2 hx hb hts inX3_codesExcluding_3 hown hE.1 hM hk_1 (hts (.fieldLink RX3 21 "WorkCoder" "excluded" "[J") (by decide +kernel)) dX3_codesExcluding_16 (fun r_5 er_5 => ?_)
      replace h := h r_5 er_5
      clear er_5
      refine lv_iload hx hb dX3_codesExcluding_19 (lv_at hl 3 rfl) ?_
      obtain ⟨a_6, rfl, h⟩ := h
      obtain ⟨hk_7, h⟩ := h
      obtain ⟨hv_8, h⟩ := h
      refine mm_lald hx hb hE.1 hM hk_7 hv_8 dX3_codesExcluding_21 ?_
      refine lv_lload_n hx hb dX3_codesExcluding_22 rfl (lv_at hl 1 rfl) ?_
      refine lv_land hx hb dX3_codesExcluding_23 ?_
      refine lv_lconst (v := 0) hx hb dX3_codesExcluding_24 (by decide) ?_
      refine lc_eq (tgt := 36) hx hb dX3_codesExcluding_25 dX3_codesExcluding_26 (by decide) (fun hc => ?_) (fun hc => ?_)
      · replace h := h.1 hc
        obtain ⟨x_9, ex_9⟩ : ∃ y : Int32, y = x5 + 1 := ⟨_, rfl⟩
        replace h := h x_9 ex_9
        refine lv_iinc (v := x_9) (lv' := [(5, .int x_9), (0, .ref t), (1, .long y1), (3, .long y3)]) hx hb dX3_codesExcluding_36 hl (k := 3) rfl (by rw [ex_9]; rfl) (by decide) rfl (fun ls hl => ?_)
        refine lv_goto (tgt := 5) hx hb dX3_codesExcluding_39 (by decide) ?_
        exact ih _ _ _ _ _ _ _ h hM hS (lv_sub hl [1, 2, 3, 0] rfl)
      · replace h := h.2 hc
        refine lv_lload_n hx hb dX3_codesExcluding_29 rfl (lv_at hl 2 rfl) ?_
        refine lv_lconst (v := 1) hx hb dX3_codesExcluding_30 (by decide) ?_
        refine lv_iload hx hb dX3_codesExcluding_31 (lv_at hl 3 rfl) ?_
        refine lv_lshl hx hb dX3_codesExcluding_33 (v := lShl (1 : Int64) x5) rfl ?_
        refine lv_lor hx hb dX3_codesExcluding_34 ?_
        refine lv_topl (fun y_10 ey_10 => ?_)
        replace h := h y_10 ey_10
        refine lv_lstore_n (i := 3) (lv' := [(3, .long y_10), (0, .ref t), (1, .long y1), (5, .int x5)]) hx hb dX3_codesExcluding_35 rfl hl (by decide) rfl (fun ls hl => ?_)
        obtain ⟨x_11, ex_11⟩ : ∃ y : Int32, y = x5 + 1 := ⟨_, rfl⟩
        replace h := h x_11 ex_11
        refine lv_iinc (v := x_11) (lv' := [(5, .int x_11), (3, .long y_10), (0, .ref t), (1, .long y1)]) hx hb dX3_codesExcluding_36 hl (k := 3) rfl (by rw [ex_11]; rfl) (by decide) rfl (fun ls hl => ?_)
        refine lv_goto (tgt := 5) hx hb dX3_codesExcluding_39 (by decide) ?_
        exact ih _ _ _ _ _ _ _ h hM hS (lv_sub hl [2, 3, 1, 0] rfl)
set_option maxHeartbeats 4000000 in
set_option maxRecDepth 100000 in
theorem oX3_codesExcluding_0 {k : Int64 → MM → Prop} {t : Nat} (CX : CXM p s m args meth c cX3_codesExcluding 6 (some .long) "codesExcluding" RX3 wsX3_codesExcluding D cs A) : ∀ (y1 : Int64) (σ : MM) (H : Heap) (locs : List Loc) (ls : Array Slot), wX3_codesExcluding t y1 σ k → PH D cs A σ H → va_S A s.heap H locs → lv_has ls 6 [(0, .ref t), (1, .long y1)] → W p l e (headSpec wsX3_codesExcluding rmX3_codesExcluding).room s m args below meth c H locs 0 0 (MQ below (va_Ql k (mB D cs A) A) args s 0 0 A) (F0 m 0 ls []) := by
  intro y1 σ H locs ls h hM hS hl
  have ⟨hx, hb, hml, hr, hnm, hown, hts, hlocks, hE⟩ := CX
  unfold wX3_codesExcluding at h
  refine lv_lconst (v := 0) hx hb dX3_codesExcluding_0 (by decide) ?_
  refine lv_lstore_n (i := 3) (lv' := [(3, .long 0), (0, .ref t), (1, .long y1)]) hx hb dX3_codesExcluding_1 rfl hl (by decide) rfl (fun ls hl => ?_)
  refine lv_iconst (v := 0) hx hb dX3_codesExcluding_2 (by decide) ?_
  refine lv_istore (i := 5) (lv' := [(5, .int 0), (3, .long 0), (0, .ref t), (1, .long y1)]) hx hb dX3_codesExcluding_3 hl (by decide) rfl (fun ls hl => ?_)
  obtain ⟨n0, h⟩ := h
  exact oX3_codesExcluding_5 CX  n0 _ _ _ _ _ _ _ h hM hS (lv_sub hl [2, 3, 1, 0] rfl)
end S_X3_codesExcluding
set_option maxHeartbeats 4000000 in
set_option maxRecDepth 100000 in
theorem ok_X3_codesExcluding (l : Launch) (D : va_G) (cs : CS) (A : Nat → Prop) (t : Nat) (y1 : Int64) (σ : MM) (k : Int64 → MM → Prop) (h : wX3_codesExcluding t y1 σ k) : Met l yX3_codesExcluding wsX3_codesExcluding rmX3_codesExcluding (va_Pc [.ref t, .long y1] (mP D cs A σ)) (va_Ql k (mB D cs A) A) 0 0 A := by
  refine Met.ofW (cc := cX3_codesExcluding) (maxL := 6) (ret := (some .long)) (by decide) rfl ?_
  intro p e s m args below meth c s₁ B hml hv
  obtain ⟨rfl, hM, hE⟩ := hv
  have CX : CXM p s m _ meth c cX3_codesExcluding 6 (some .long) "codesExcluding" RX3 wsX3_codesExcluding D cs A := ⟨B.exec, B.bytes, hml, B.returns, (name_of_methodNamed B.named B.method).1, findClass_of_methodNamed B.named, atoms_spec (ws := wsX3_codesExcluding) B.pre, B.notSynchronized, hE⟩
  have hl := lv_entry ([.ref t, .long y1]) (n := 6) (Nat.le_of_ble_eq_true rfl)
  rw [lg_entry_eq]
  exact oX3_codesExcluding_0 CX y1 σ _ _ _ h hM va_S.rf hl
/-! WorkCoder.fillNears(LWorkCoder$Item;)V -/
abbrev rmX3_fillNears : Room := { frames := 2, cells := 0, slots := 0, locals := 47 }
theorem inX3_fillNears_0 : ∀ w ∈ wsX00, w ∈ wsX3_fillNears := fun _ h => List.mem_cons_of_mem _ (List.mem_append_left _ (List.mem_append_right _ (h)))
theorem inX3_fillNears_3 : ∀ w ∈ wsX30, w ∈ wsX3_fillNears := fun _ h => List.mem_cons_of_mem _ (List.mem_append_left _ (List.mem_append_left _ (List.mem_append_right _ (h))))
section S_X3_fillNears
variable {p : Program} {l : Launch} {e : Env} {s : State} {m : MethodId} {args : Array Value} {below : List Frame} {meth : Method} {c : Code} {D : va_G} {cs : CS} {A : Nat → Prop}
set_option maxHeartbeats 4000000 in
set_option maxRecDepth 100000 in
theorem oX3_fillNears_43 {k : MM → Prop} {t : Nat} (CX : CXM p s m args meth c cX3_fillNears 6 none "fillNears" RX3 wsX3_fillNears D cs A) : ∀ (n : Nat), ∀ (r1 : Option Nat) (y2 : Int64) (x4 : Int32) (σ : MM) (H : Heap) (locs : List Loc) (ls : Array Slot), wX3_fillNears_43 k t  n r1 y2 x4 σ → PH D cs A σ H → va_S A s.heap H locs → lv_has ls 6 [(0, .ref t), (1, va_rf r1), (2, .long y2), (4, .int x4)] → W p l e (headSpec wsX3_fillNears rmX3_fillNears).room s m args below meth c H locs 0 0 (MQ below (va_Qv k (mB D cs A) A) args s 0 0 A) (F0 m 43 ls []) := by
  intro n
  induction n with
  | zero => intro r1 y2 x4 σ H locs ls h; exact h.elim
  | succ n ih =>
    intro r1 y2 x4 σ H locs ls h hM hS hl
    have ⟨hx, hb, hml, hr, hnm, hown, hts, hlocks, hE⟩ := CX
    unfold wX3_fillNears_43 at h
    refine lv_iload hx hb dX3_fillNears_43 (lv_at hl 3 rfl) ?_
    refine lv_aload_n hx hb dX3_fillNears_45 rfl (lv_at hl 0 rfl) ?_
    obtain ⟨hk_1, h⟩ := h
    refine gf3_5 hx hb hts inX3_fillNears_3 hown hE.1 hM hk_1 (hts (.fieldLink RX3 34 "WorkCoder" "items" "[LWorkCoder$Item;") (by decide +kernel)) dX3_fillNears_46 (fun r_2 er_2 => ?_)
    replace h := h r_2 er_2
    clear er_2
    obtain ⟨a_3, rfl, h⟩ := h
    obtain ⟨hk_4, h⟩ := h
    refine mm_alen9 hx hb hE.1 hM hk_4 dX3_fillNears_49 ?_
    refine lv_icmp_ge (tgt := 132) hx hb dX3_fillNears_50 (by decide) (fun hc => ?_) (fun hc => ?_)
    · replace h := h.1 hc
      exact W.vret hx hb hr (fun t_ ht hW => ⟨⟨_, rfl, h, mB_of ht hM⟩, hS.F ht⟩) hS.2.2 dX3_fillNears_132
    · replace h := h.2 hc
      refine lv_aload_n hx hb dX3_fillNears_53 rfl (lv_at hl 0 rfl) ?_
      refine gf3_5 hx hb hts inX3_fillNears_3 hown hE.1 hM hk_1 (hts (.fieldLink RX3 34 "WorkCoder" "items" "[LWorkCoder$Item;") (by decide +kernel)) dX3_fillNears_54 (fun r_5 er_5 => ?_)
      replace h := h r_5 er_5
      clear er_5
      refine lv_iload hx hb dX3_fillNears_57 (lv_at hl 3 rfl) ?_
      obtain ⟨a_6, rfl, h⟩ := h
      obtain ⟨hk_7, h⟩ := h
      obtain ⟨hv_8, h⟩ := h
      refine mm_aald9 hx hb hE.1 hM hk_7 hv_8 dX3_fillNears_59 (fun r_9 er_9 => ?_)
      replace h := h r_9 er_9
      clear er_9
      refine nl_astore (i := 5) (lv' := [(5, va_rf r_9), (0, .ref t), (1, va_rf r1), (2, .long y2), (4, .int x4)]) hx hb dX3_fillNears_60 hl (by decide) rfl (fun ls hl => ?_)
      refine nl_aload hx hb dX3_fillNears_62 (lv_at hl 0 rfl) ?_
      refine nl_ifnull (tgt := 126) hx hb dX3_fillNears_64 (by decide) (fun hn => ?_) (fun a_10 hn => ?_)
      · replace h := h.1 hn
        subst hn
        obtain ⟨x_11, ex_11⟩ : ∃ y : Int32, y = x4 + 1 := ⟨_, rfl⟩
        replace h := h x_11 ex_11
        refine lv_iinc (v := x_11) (lv' := [(4, .int x_11), (5, .null), (0, .ref t), (1, va_rf r1), (2, .long y2)]) hx hb dX3_fillNears_126 hl (k := 4) rfl (by rw [ex_11]; rfl) (by decide) rfl (fun ls hl => ?_)
        refine lv_goto (tgt := 43) hx hb dX3_fillNears_129 (by decide) ?_
        exact ih _ _ _ _ _ _ _ h hM hS (lv_sub hl [2, 3, 4, 0] rfl)
      · replace h := h.2 a_10 hn
        subst hn
        refine lv_aload hx hb dX3_fillNears_67 (lv_at hl 0 rfl) ?_
        refine nl_aload_n hx hb dX3_fillNears_69 rfl (lv_at hl 2 rfl) ?_
        refine lv_acmp_eq (rx := (some a_10)) (ry := r1) (tgt := 126) hx hb dX3_fillNears_70 (by decide) (fun hc => ?_) (fun hc => ?_)
        · replace h := h.1 hc
          obtain ⟨x_12, ex_12⟩ : ∃ y : Int32, y = x4 + 1 := ⟨_, rfl⟩
          replace h := h x_12 ex_12
          refine lv_iinc (v := x_12) (lv' := [(4, .int x_12), (5, .ref a_10), (0, .ref t), (1, va_rf r1), (2, .long y2)]) hx hb dX3_fillNears_126 hl (k := 4) rfl (by rw [ex_12]; rfl) (by decide) rfl (fun ls hl => ?_)
          refine lv_goto (tgt := 43) hx hb dX3_fillNears_129 (by decide) ?_
          exact ih _ _ _ _ _ _ _ h hM hS (lv_sub hl [2, 3, 4, 0] rfl)
        · replace h := h.2 hc
          refine lv_aload_n hx hb dX3_fillNears_73 rfl (lv_at hl 1 rfl) ?_
          refine lv_aload hx hb dX3_fillNears_74 (lv_at hl 0 rfl) ?_
          obtain ⟨hk_13, h⟩ := h
          refine gf0_5 hx hb hts inX3_fillNears_0 hown hE.1 hM hk_13 (hts (.fieldLink RX3 194 "WorkCoder$Item" "code" "I") (by decide +kernel)) dX3_fillNears_76 ?_
          refine clVi (C := RX3) (b := t) (As := [.int (mI σ a_10 5)]) (rest := []) ⟨hx, hb, hml, hown, hts⟩ hM hE hS (ok_X3_isCode l D cs A t (mI σ a_10 5) _ _ h) (cwV 1 hts gX3_fillNears_X3_isCode rfl rfl rfl (by decide +kernel) ⟨(Nat.le_of_ble_eq_true rfl), (Nat.le_of_ble_eq_true rfl)⟩) (rc3 hM hE.1 hk_1) rfl hl.1 rfl (Nat.le_of_ble_eq_true rfl) dX3_fillNears_79 ⟨(Nat.le_of_ble_eq_true rfl), (Nat.le_of_ble_eq_true rfl)⟩ (fun x_15 σ_14 H locs h1 hM hS => ?_)
          replace h := h1
          clear h1
          refine lv_if_eq (tgt := 126) hx hb dX3_fillNears_82 (by decide) (fun hc => ?_) (fun hc => ?_)
          · replace h := h.1 hc
            obtain ⟨x_16, ex_16⟩ : ∃ y : Int32, y = x4 + 1 := ⟨_, rfl⟩
            replace h := h x_16 ex_16
            refine lv_iinc (v := x_16) (lv' := [(4, .int x_16), (5, .ref a_10), (0, .ref t), (1, va_rf r1), (2, .long y2)]) hx hb dX3_fillNears_126 hl (k := 4) rfl (by rw [ex_16]; rfl) (by decide) rfl (fun ls hl => ?_)
            refine lv_goto (tgt := 43) hx hb dX3_fillNears_129 (by decide) ?_
            exact ih _ _ _ _ _ _ _ h hM hS (lv_sub hl [2, 3, 4, 0] rfl)
          · replace h := h.2 hc
            refine lv_lload_n hx hb dX3_fillNears_85 rfl (lv_at hl 3 rfl) ?_
            refine lv_aload hx hb dX3_fillNears_86 (lv_at hl 0 rfl) ?_
            obtain ⟨hk_17, h⟩ := h
            refine gf0_5 hx hb hts inX3_fillNears_0 hown hE.1 hM hk_17 (hts (.fieldLink RX3 194 "WorkCoder$Item" "code" "I") (by decide +kernel)) dX3_fillNears_88 ?_
            refine clSi (As := [.long y2, .int (mI σ_14 a_10 5)]) (rest := []) ⟨hx, hb, hml, hown, hts⟩ hM hE hS (ok_X3_bit l D cs A y2 (mI σ_14 a_10 5) _ _ h) (va_cwS 2 hts gX3_fillNears_X3_bit rfl rfl rfl (by decide +kernel) ⟨(Nat.le_of_ble_eq_true rfl), (Nat.le_of_ble_eq_true rfl)⟩) rfl hl.1 rfl (Nat.le_of_ble_eq_true rfl) dX3_fillNears_91 ⟨(Nat.le_of_ble_eq_true rfl), (Nat.le_of_ble_eq_true rfl)⟩ (fun x_19 σ_18 H locs h1 hM hS => ?_)
            replace h := h1
            clear h1
            refine lv_if_ne (tgt := 126) hx hb dX3_fillNears_94 (by decide) (fun hc => ?_) (fun hc => ?_)
            · replace h := h.1 hc
              obtain ⟨x_20, ex_20⟩ : ∃ y : Int32, y = x4 + 1 := ⟨_, rfl⟩
              replace h := h x_20 ex_20
              refine lv_iinc (v := x_20) (lv' := [(4, .int x_20), (5, .ref a_10), (0, .ref t), (1, va_rf r1), (2, .long y2)]) hx hb dX3_fillNears_126 hl (k := 4) rfl (by rw [ex_20]; rfl) (by decide) rfl (fun ls hl => ?_)
              refine lv_goto (tgt := 43) hx hb dX3_fillNears_129 (by decide) ?_
              exact ih _ _ _ _ _ _ _ h hM hS (lv_sub hl [2, 3, 4, 0] rfl)
            · replace h := h.2 hc
              refine lv_aload_n hx hb dX3_fillNears_97 rfl (lv_at hl 1 rfl) ?_
              obtain ⟨hk_21, h⟩ := h
              refine gf3_11 hx hb hts inX3_fillNears_3 hown hE.1 hM hk_21 (hts (.fieldLink RX3 57 "WorkCoder" "nears" "[I") (by decide +kernel)) dX3_fillNears_98 (fun r_22 er_22 => ?_)
              replace h := h r_22 er_22
              clear er_22
              refine lv_aload hx hb dX3_fillNears_101 (lv_at hl 0 rfl) ?_
              obtain ⟨hk_23, h⟩ := h
              refine gf0_5 hx hb hts inX3_fillNears_0 hown hE.1 hM hk_23 (hts (.fieldLink RX3 194 "WorkCoder$Item" "code" "I") (by decide +kernel)) dX3_fillNears_103 ?_
              refine lv_aload_n hx hb dX3_fillNears_106 rfl (lv_at hl 1 rfl) ?_
              refine gf3_11 hx hb hts inX3_fillNears_3 hown hE.1 hM hk_21 (hts (.fieldLink RX3 57 "WorkCoder" "nears" "[I") (by decide +kernel)) dX3_fillNears_107 (fun r_24 er_24 => ?_)
              replace h := h r_24 er_24
              clear er_24
              refine lv_aload hx hb dX3_fillNears_110 (lv_at hl 0 rfl) ?_
              refine gf0_5 hx hb hts inX3_fillNears_0 hown hE.1 hM hk_23 (hts (.fieldLink RX3 194 "WorkCoder$Item" "code" "I") (by decide +kernel)) dX3_fillNears_112 ?_
              obtain ⟨a_25, rfl, h⟩ := h
              obtain ⟨hk_26, h⟩ := h
              obtain ⟨hv_27, h⟩ := h
              refine mm_iald hx hb hE.1 hM hk_26 hv_27 dX3_fillNears_115 ?_
              refine nl_aload_n hx hb dX3_fillNears_116 rfl (lv_at hl 2 rfl) ?_
              refine lv_aload hx hb dX3_fillNears_117 (lv_at hl 0 rfl) ?_
              obtain ⟨a_28, rfl, h⟩ := h
              obtain ⟨hk_29, h⟩ := h
              refine clVi (C := RX0) (b := a_28) (As := [.ref a_10]) (rest := [.int (mI σ_18 a_25 (ix (mI σ_18 a_10 5))), .int (mI σ_18 a_10 5), va_rf r_22]) ⟨hx, hb, hml, hown, hts⟩ hM hE hS (ok_X0_likenessTo l D cs A a_28 (some a_10) _ _ h) (cwV 1 hts gX3_fillNears_X0_likenessTo rfl rfl rfl (by decide +kernel) ⟨(Nat.le_of_ble_eq_true rfl), (Nat.le_of_ble_eq_true rfl)⟩) (rc0 hM hE.1 hk_29) rfl hl.1 rfl (cat_le (Nat.le_of_ble_eq_true rfl)) dX3_fillNears_119 ⟨(Nat.le_of_ble_eq_true rfl), (Nat.le_of_ble_eq_true rfl)⟩ (fun x_31 σ_30 H locs h1 hM hS => ?_)
              replace h := h1
              clear h1
              refine va_mmax hx hb (by rw [hml]; exact hl.1.symm) hown (hts (.methodLink RX3 244 Lib.Math.max.name) (by decide +kernel)) (hts (.static Lib.Math.max.name) (by decide +kernel)) (hts (.initialized "java/lang/Math") (by decide +kernel)) (hts (.code Lib.Math.max.name Lib.Math.max.code 2 (some .int)) (by decide +kernel)) (Nat.le_of_ble_eq_true rfl) (cat_le13 (Nat.le_of_ble_eq_true rfl)) (Nat.le_of_ble_eq_true rfl) (Nat.le_of_ble_eq_true rfl) dX3_fillNears_122 ?_
              obtain ⟨a_32, rfl, h⟩ := h
              obtain ⟨hk_33, h⟩ := h
              obtain ⟨hv_34, h⟩ := h
              refine mm_iast hx hb hE.1 hM hS hk_33 hv_34 dX3_fillNears_125 (fun H locs hM hS => ?_)
              replace h := h _ rfl
              obtain ⟨x_36, ex_36⟩ : ∃ y : Int32, y = x4 + 1 := ⟨_, rfl⟩
              replace h := h x_36 ex_36
              refine lv_iinc (v := x_36) (lv' := [(4, .int x_36), (5, .ref a_10), (0, .ref t), (1, .ref a_28), (2, .long y2)]) hx hb dX3_fillNears_126 hl (k := 4) rfl (by rw [ex_36]; rfl) (by decide) rfl (fun ls hl => ?_)
              refine lv_goto (tgt := 43) hx hb dX3_fillNears_129 (by decide) ?_
              exact ih _ _ _ _ _ _ _ h hM hS (lv_sub hl [2, 3, 4, 0] rfl)
set_option maxHeartbeats 4000000 in
set_option maxRecDepth 100000 in
theorem oX3_fillNears_2 {k : MM → Prop} {t : Nat} (CX : CXM p s m args meth c cX3_fillNears 6 none "fillNears" RX3 wsX3_fillNears D cs A) : ∀ (n : Nat), ∀ (r1 : Option Nat) (x2 : Int32) (σ : MM) (H : Heap) (locs : List Loc) (ls : Array Slot), wX3_fillNears_2 k t  n r1 x2 σ → PH D cs A σ H → va_S A s.heap H locs → lv_has ls 6 [(0, .ref t), (1, va_rf r1), (2, .int x2)] → W p l e (headSpec wsX3_fillNears rmX3_fillNears).room s m args below meth c H locs 0 0 (MQ below (va_Qv k (mB D cs A) A) args s 0 0 A) (F0 m 2 ls []) := by
  intro n
  induction n with
  | zero => intro r1 x2 σ H locs ls h; exact h.elim
  | succ n ih =>
    intro r1 x2 σ H locs ls h hM hS hl
    have ⟨hx, hb, hml, hr, hnm, hown, hts, hlocks, hE⟩ := CX
    unfold wX3_fillNears_2 at h
    refine lv_iload_n hx hb dX3_fillNears_2 rfl (lv_at hl 2 rfl) ?_
    refine lv_aload_n hx hb dX3_fillNears_3 rfl (lv_at hl 0 rfl) ?_
    obtain ⟨hk_1, h⟩ := h
    refine gf3_11 hx hb hts inX3_fillNears_3 hown hE.1 hM hk_1 (hts (.fieldLink RX3 57 "WorkCoder" "nears" "[I") (by decide +kernel)) dX3_fillNears_4 (fun r_2 er_2 => ?_)
    replace h := h r_2 er_2
    clear er_2
    obtain ⟨a_3, rfl, h⟩ := h
    obtain ⟨hk_4, h⟩ := h
    refine mm_alen6 hx hb hE.1 hM hk_4 dX3_fillNears_7 ?_
    refine lv_icmp_ge (tgt := 24) hx hb dX3_fillNears_8 (by decide) (fun hc => ?_) (fun hc => ?_)
    · replace h := h.1 hc
      refine lv_aload_n hx hb dX3_fillNears_24 rfl (lv_at hl 0 rfl) ?_
      refine gf3_0 hx hb hts inX3_fillNears_3 hown hE.1 hM hk_1 (hts (.fieldLink RX3 14 "WorkCoder" "scheme" "LWorkCoder$Scheme;") (by decide +kernel)) dX3_fillNears_25 (fun r_5 er_5 => ?_)
      replace h := h r_5 er_5
      clear er_5
      refine lv_aload_n hx hb dX3_fillNears_28 rfl (lv_at hl 0 rfl) ?_
      refine nl_aload_n hx hb dX3_fillNears_29 rfl (lv_at hl 1 rfl) ?_
      obtain ⟨a_6, rfl, h⟩ := h
      obtain ⟨hk_7, h⟩ := h
      refine gf0_3 hx hb hts inX3_fillNears_0 hown hE.1 hM hk_7 (hts (.fieldLink RX3 91 "WorkCoder$Item" "set" "J") (by decide +kernel)) dX3_fillNears_30 ?_
      refine clVl (C := RX3) (b := t) (As := [.long (mL σ a_6 3)]) (rest := [va_rf r_5]) ⟨hx, hb, hml, hown, hts⟩ hM hE hS (ok_X3_codesExcluding l D cs A t (mL σ a_6 3) _ _ h) (cwV 1 hts gX3_fillNears_X3_codesExcluding rfl rfl rfl (by decide +kernel) ⟨(Nat.le_of_ble_eq_true rfl), (Nat.le_of_ble_eq_true rfl)⟩) (rc3 hM hE.1 hk_1) rfl hl.1 rfl (cat_le (Nat.le_of_ble_eq_true rfl)) dX3_fillNears_33 ⟨(Nat.le_of_ble_eq_true rfl), (Nat.le_of_ble_eq_true rfl)⟩ (fun y_9 σ_8 H locs h1 hM hS => ?_)
      replace h := h1
      clear h1
      obtain ⟨a_10, rfl, h⟩ := h
      obtain ⟨hk_11, h⟩ := h
      refine clVl (C := RX2) (b := a_10) (As := [.long y_9]) (rest := []) ⟨hx, hb, hml, hown, hts⟩ hM hE hS (ok_X2_below l D cs A a_10 y_9 _ _ h) (cwV 1 hts gX3_fillNears_X2_below rfl rfl rfl (by decide +kernel) ⟨(Nat.le_of_ble_eq_true rfl), (Nat.le_of_ble_eq_true rfl)⟩) (rc2 hM hE.1 hk_11) rfl hl.1 rfl (Nat.le_of_ble_eq_true rfl) dX3_fillNears_36 ⟨(Nat.le_of_ble_eq_true rfl), (Nat.le_of_ble_eq_true rfl)⟩ (fun y_13 σ_12 H locs h1 hM hS => ?_)
      replace h := h1
      clear h1
      refine lv_lstore_n (i := 2) (lv' := [(2, .long y_13), (0, .ref t), (1, .ref a_6)]) hx hb dX3_fillNears_39 rfl hl (by decide) rfl (fun ls hl => ?_)
      refine lv_iconst (v := 0) hx hb dX3_fillNears_40 (by decide) ?_
      refine lv_istore (i := 4) (lv' := [(4, .int 0), (2, .long y_13), (0, .ref t), (1, .ref a_6)]) hx hb dX3_fillNears_41 hl (by decide) rfl (fun ls hl => ?_)
      obtain ⟨n0, h⟩ := h
      exact oX3_fillNears_43 CX  n0 _ _ _ _ _ _ _ h hM hS (lv_sub hl [2, 3, 1, 0] rfl)
    · replace h := h.2 hc
      refine lv_aload_n hx hb dX3_fillNears_11 rfl (lv_at hl 0 rfl) ?_
      refine gf3_11 hx hb hts inX3_fillNears_3 hown hE.1 hM hk_1 (hts (.fieldLink RX3 57 "WorkCoder" "nears" "[I") (by decide +kernel)) dX3_fillNears_12 (fun r_14 er_14 => ?_)
      replace h := h r_14 er_14
      clear er_14
      refine lv_iload_n hx hb dX3_fillNears_15 rfl (lv_at hl 2 rfl) ?_
      refine lv_iconst (v := 0) hx hb dX3_fillNears_16 (by decide) ?_
      obtain ⟨a_15, rfl, h⟩ := h
      obtain ⟨hk_16, h⟩ := h
      obtain ⟨hv_17, h⟩ := h
      refine mm_iast hx hb hE.1 hM hS hk_16 hv_17 dX3_fillNears_17 (fun H locs hM hS => ?_)
      replace h := h _ rfl
      obtain ⟨x_19, ex_19⟩ : ∃ y : Int32, y = x2 + 1 := ⟨_, rfl⟩
      replace h := h x_19 ex_19
      refine lv_iinc (v := x_19) (lv' := [(2, .int x_19), (0, .ref t), (1, va_rf r1)]) hx hb dX3_fillNears_18 hl (k := 2) rfl (by rw [ex_19]; rfl) (by decide) (by simp [nl_cat] <;> rfl) (fun ls hl => ?_)
      refine lv_goto (tgt := 2) hx hb dX3_fillNears_21 (by decide) ?_
      exact ih _ _ _ _ _ _ h hM hS (lv_sub hl [1, 2, 0] rfl)
set_option maxHeartbeats 4000000 in
set_option maxRecDepth 100000 in
theorem oX3_fillNears_0 {k : MM → Prop} {t : Nat} (CX : CXM p s m args meth c cX3_fillNears 6 none "fillNears" RX3 wsX3_fillNears D cs A) : ∀ (r1 : Option Nat) (σ : MM) (H : Heap) (locs : List Loc) (ls : Array Slot), wX3_fillNears t r1 σ k → PH D cs A σ H → va_S A s.heap H locs → lv_has ls 6 [(0, .ref t), (1, va_rf r1)] → W p l e (headSpec wsX3_fillNears rmX3_fillNears).room s m args below meth c H locs 0 0 (MQ below (va_Qv k (mB D cs A) A) args s 0 0 A) (F0 m 0 ls []) := by
  intro r1 σ H locs ls h hM hS hl
  have ⟨hx, hb, hml, hr, hnm, hown, hts, hlocks, hE⟩ := CX
  unfold wX3_fillNears at h
  refine lv_iconst (v := 0) hx hb dX3_fillNears_0 (by decide) ?_
  refine lv_istore_n (i := 2) (lv' := [(2, .int 0), (0, .ref t), (1, va_rf r1)]) hx hb dX3_fillNears_1 rfl hl (by decide) (by simp [nl_cat] <;> rfl) (fun ls hl => ?_)
  obtain ⟨n0, h⟩ := h
  exact oX3_fillNears_2 CX  n0 _ _ _ _ _ _ h hM hS (lv_sub hl [1, 2, 0] rfl)
end S_X3_fillNears
set_option maxHeartbeats 4000000 in
set_option maxRecDepth 100000 in
theorem ok_X3_fillNears (l : Launch) (D : va_G) (cs : CS) (A : Nat → Prop) (t : Nat) (r1 : Option Nat) (σ : MM) (k : MM → Prop) (h : wX3_fillNears t r1 σ k) : Met l yX3_fillNears wsX3_fillNears rmX3_fillNears (va_Pc [.ref t, va_rf r1] (mP D cs A σ)) (va_Qv k (mB D cs A) A) 0 0 A := by
  refine Met.ofW (cc := cX3_fillNears) (maxL := 6) (ret := none) (by decide) rfl ?_
  intro p e s m args below meth c s₁ B hml hv
  obtain ⟨rfl, hM, hE⟩ := hv
  have CX : CXM p s m _ meth c cX3_fillNears 6 none "fillNears" RX3 wsX3_fillNears D cs A := ⟨B.exec, B.bytes, hml, B.returns, (name_of_methodNamed B.named B.method).1, findClass_of_methodNamed B.named, atoms_spec (ws := wsX3_fillNears) B.pre, B.notSynchronized, hE⟩
  cases r1 with
  | none =>
    have hl := lv_entry ([.ref t, va_rf none]) (n := 6) (Nat.le_of_ble_eq_true rfl)
    rw [lg_entry_eq]
    exact oX3_fillNears_0 CX none σ _ _ _ h hM va_S.rf hl
  | some a0 =>
    have hl := lv_entry ([.ref t, va_rf (some a0)]) (n := 6) (Nat.le_of_ble_eq_true rfl)
    rw [lg_entry_eq]
    exact oX3_fillNears_0 CX (some a0) σ _ _ _ h hM va_S.rf hl
/-! WorkCoder.near(II)I -/
abbrev rmX3_near : Room := { frames := 3, cells := 0, slots := 0, locals := 72 }
theorem inX3_near_3 : ∀ w ∈ wsX30, w ∈ wsX3_near := fun _ h => List.mem_cons_of_mem _ (List.mem_append_left _ (List.mem_append_left _ (List.mem_append_right _ (h))))
section S_X3_near
variable {p : Program} {l : Launch} {e : Env} {s : State} {m : MethodId} {args : Array Value} {below : List Frame} {meth : Method} {c : Code} {D : va_G} {cs : CS} {A : Nat → Prop}
set_option maxHeartbeats 4000000 in
set_option maxRecDepth 100000 in
theorem oX3_near_0 {k : Int32 → MM → Prop} {t : Nat} (CX : CXM p s m args meth c cX3_near 4 (some .int) "near" RX3 wsX3_near D cs A) : ∀ (x1 : Int32) (x2 : Int32) (σ : MM) (H : Heap) (locs : List Loc) (ls : Array Slot), wX3_near t x1 x2 σ k → PH D cs A σ H → va_S A s.heap H locs → lv_has ls 4 [(0, .ref t), (1, .int x1), (2, .int x2)] → W p l e (headSpec wsX3_near rmX3_near).room s m args below meth c H locs 0 0 (MQ below (va_Qi k (mB D cs A) A) args s 0 0 A) (F0 m 0 ls []) := by
  intro x1 x2 σ H locs ls h hM hS hl
  have ⟨hx, hb, hml, hr, hnm, hown, hts, hlocks, hE⟩ := CX
  unfold wX3_near at h
  refine lv_aload_n hx hb dX3_near_0 rfl (lv_at hl 0 rfl) ?_
  refine lv_iload_n hx hb dX3_near_1 rfl (lv_at hl 2 rfl) ?_
  obtain ⟨hk_1, h⟩ := h
  refine clVq (C := RX3) (b := t) (As := [.int x2]) (rest := []) ⟨hx, hb, hml, hown, hts⟩ hM hE hS (ok_X3_itemAt l D cs A t x2 _ _ h) (cwV 1 hts gX3_near_X3_itemAt rfl rfl rfl (by decide +kernel) ⟨(Nat.le_of_ble_eq_true rfl), (Nat.le_of_ble_eq_true rfl)⟩) (rc3 hM hE.1 hk_1) rfl hl.1 rfl (Nat.le_of_ble_eq_true rfl) dX3_near_2 ⟨(Nat.le_of_ble_eq_true rfl), (Nat.le_of_ble_eq_true rfl)⟩ (fun r_3 σ_2 H locs h1 hM hS => ?_)
  replace h := h1
  clear h1
  refine nl_astore_n (i := 3) (lv' := [(3, va_rf r_3), (0, .ref t), (1, .int x1), (2, .int x2)]) hx hb dX3_near_5 rfl hl (by decide) rfl (fun ls hl => ?_)
  refine lv_aload_n hx hb dX3_near_6 rfl (lv_at hl 1 rfl) ?_
  refine lv_iload_n hx hb dX3_near_7 rfl (lv_at hl 2 rfl) ?_
  obtain ⟨hk_4, h⟩ := h
  refine clVi (C := RX3) (b := t) (As := [.int x1]) (rest := []) ⟨hx, hb, hml, hown, hts⟩ hM hE hS (ok_X3_isCode l D cs A t x1 _ _ h) (cwV 1 hts gX3_near_X3_isCode rfl rfl rfl (by decide +kernel) ⟨(Nat.le_of_ble_eq_true rfl), (Nat.le_of_ble_eq_true rfl)⟩) (rc3 hM hE.1 hk_4) rfl hl.1 rfl (Nat.le_of_ble_eq_true rfl) dX3_near_8 ⟨(Nat.le_of_ble_eq_true rfl), (Nat.le_of_ble_eq_true rfl)⟩ (fun x_6 σ_5 H locs h1 hM hS => ?_)
  replace h := h1
  clear h1
  refine lv_if_eq (tgt := 18) hx hb dX3_near_11 (by decide) (fun hc => ?_) (fun hc => ?_)
  · replace h := h.1 hc
    refine lv_iconst (v := (-1)) hx hb dX3_near_18 (by decide) ?_
    exact W.iret (v := (-1)) hx hb hr (fun t_ ht hW => ⟨⟨_, _, rfl, h, mB_of ht hM⟩, hS.F ht⟩) hS.2.2 dX3_near_19
  · replace h := h.2 hc
    refine nl_aload_n hx hb dX3_near_14 rfl (lv_at hl 0 rfl) ?_
    refine nl_ifnonnull (tgt := 20) hx hb dX3_near_15 (by decide) (fun a_7 hn => ?_) (fun hn => ?_)
    · replace h := h.1 a_7 hn
      subst hn
      refine lv_aload_n hx hb dX3_near_20 rfl (lv_at hl 1 rfl) ?_
      refine lv_aload_n hx hb dX3_near_21 rfl (lv_at hl 0 rfl) ?_
      obtain ⟨hk_8, h⟩ := h
      refine clVv (C := RX3) (b := t) (As := [.ref a_7]) (rest := []) ⟨hx, hb, hml, hown, hts⟩ hM hE hS (ok_X3_fillNears l D cs A t (some a_7) _ _ h) (cwV 1 hts gX3_near_X3_fillNears rfl rfl rfl (by decide +kernel) ⟨(Nat.le_of_ble_eq_true rfl), (Nat.le_of_ble_eq_true rfl)⟩) (rc3 hM hE.1 hk_8) rfl hl.1 rfl (Nat.le_of_ble_eq_true rfl) dX3_near_22 ⟨(Nat.le_of_ble_eq_true rfl), (Nat.le_of_ble_eq_true rfl)⟩ (fun σ_9 H locs h1 hM hS => ?_)
      replace h := h1
      clear h1
      refine lv_aload_n hx hb dX3_near_25 rfl (lv_at hl 1 rfl) ?_
      obtain ⟨hk_11, h⟩ := h
      refine gf3_11 hx hb hts inX3_near_3 hown hE.1 hM hk_11 (hts (.fieldLink RX3 57 "WorkCoder" "nears" "[I") (by decide +kernel)) dX3_near_26 (fun r_12 er_12 => ?_)
      replace h := h r_12 er_12
      clear er_12
      refine lv_iload_n hx hb dX3_near_29 rfl (lv_at hl 2 rfl) ?_
      obtain ⟨a_13, rfl, h⟩ := h
      obtain ⟨hk_14, h⟩ := h
      obtain ⟨hv_15, h⟩ := h
      refine mm_iald hx hb hE.1 hM hk_14 hv_15 dX3_near_30 ?_
      exact W.iret (v := mI σ_9 a_13 (ix x1)) hx hb hr (fun t_ ht hW => ⟨⟨_, _, rfl, h, mB_of ht hM⟩, hS.F ht⟩) hS.2.2 dX3_near_31
    · replace h := h.2 hn
      subst hn
      refine lv_iconst (v := (-1)) hx hb dX3_near_18 (by decide) ?_
      exact W.iret (v := (-1)) hx hb hr (fun t_ ht hW => ⟨⟨_, _, rfl, h, mB_of ht hM⟩, hS.F ht⟩) hS.2.2 dX3_near_19
end S_X3_near
set_option maxHeartbeats 4000000 in
set_option maxRecDepth 100000 in
theorem ok_X3_near (l : Launch) (D : va_G) (cs : CS) (A : Nat → Prop) (t : Nat) (x1 : Int32) (x2 : Int32) (σ : MM) (k : Int32 → MM → Prop) (h : wX3_near t x1 x2 σ k) : Met l yX3_near wsX3_near rmX3_near (va_Pc [.ref t, .int x1, .int x2] (mP D cs A σ)) (va_Qi k (mB D cs A) A) 0 0 A := by
  refine Met.ofW (cc := cX3_near) (maxL := 4) (ret := (some .int)) (by decide) rfl ?_
  intro p e s m args below meth c s₁ B hml hv
  obtain ⟨rfl, hM, hE⟩ := hv
  have CX : CXM p s m _ meth c cX3_near 4 (some .int) "near" RX3 wsX3_near D cs A := ⟨B.exec, B.bytes, hml, B.returns, (name_of_methodNamed B.named B.method).1, findClass_of_methodNamed B.named, atoms_spec (ws := wsX3_near) B.pre, B.notSynchronized, hE⟩
  have hl := lv_entry ([.ref t, .int x1, .int x2]) (n := 4) (Nat.le_of_ble_eq_true rfl)
  rw [lg_entry_eq]
  exact oX3_near_0 CX x1 x2 σ _ _ _ h hM va_S.rf hl
/-! WorkCoder.byLikeness(LWorkCoder$Item;)I -/
abbrev rmX3_byLikeness : Room := { frames := 3, cells := 0, slots := 0, locals := 72 }
theorem inX3_byLikeness_3 : ∀ w ∈ wsX30, w ∈ wsX3_byLikeness := fun _ h => List.mem_cons_of_mem _ (List.mem_append_left _ (List.mem_append_left _ (List.mem_append_right _ (h))))
section S_X3_byLikeness
variable {p : Program} {l : Launch} {e : Env} {s : State} {m : MethodId} {args : Array Value} {below : List Frame} {meth : Method} {c : Code} {D : va_G} {cs : CS} {A : Nat → Prop}
set_option maxHeartbeats 4000000 in
set_option maxRecDepth 100000 in
theorem oX3_byLikeness_15 {k : Int32 → MM → Prop} {t : Nat} (CX : CXM p s m args meth c cX3_byLikeness 6 (some .int) "byLikeness" RX3 wsX3_byLikeness D cs A) : ∀ (n : Nat), ∀ (x2 : Int32) (x3 : Int32) (x4 : Int32) (x5 : Int32) (σ : MM) (H : Heap) (locs : List Loc) (ls : Array Slot), wX3_byLikeness_15 k t  n x2 x3 x4 x5 σ → PH D cs A σ H → va_S A s.heap H locs → lv_has ls 6 [(0, .ref t), (2, .int x2), (3, .int x3), (4, .int x4), (5, .int x5)] → W p l e (headSpec wsX3_byLikeness rmX3_byLikeness).room s m args below meth c H locs 0 0 (MQ below (va_Qi k (mB D cs A) A) args s 0 0 A) (F0 m 15 ls []) := by
  intro n
  induction n with
  | zero => intro x2 x3 x4 x5 σ H locs ls h; exact h.elim
  | succ n ih =>
    intro x2 x3 x4 x5 σ H locs ls h hM hS hl
    have ⟨hx, hb, hml, hr, hnm, hown, hts, hlocks, hE⟩ := CX
    unfold wX3_byLikeness_15 at h
    refine lv_iload hx hb dX3_byLikeness_15 (lv_at hl 4 rfl) ?_
    refine lv_aload_n hx hb dX3_byLikeness_17 rfl (lv_at hl 0 rfl) ?_
    obtain ⟨hk_1, h⟩ := h
    refine gf3_11 hx hb hts inX3_byLikeness_3 hown hE.1 hM hk_1 (hts (.fieldLink RX3 57 "WorkCoder" "nears" "[I") (by decide +kernel)) dX3_byLikeness_18 (fun r_2 er_2 => ?_)
    replace h := h r_2 er_2
    clear er_2
    obtain ⟨a_3, rfl, h⟩ := h
    obtain ⟨hk_4, h⟩ := h
    refine mm_alen6 hx hb hE.1 hM hk_4 dX3_byLikeness_21 ?_
    refine lv_icmp_ge (tgt := 80) hx hb dX3_byLikeness_22 (by decide) (fun hc => ?_) (fun hc => ?_)
    · replace h := h.1 hc
      refine lv_iload_n hx hb dX3_byLikeness_80 rfl (lv_at hl 2 rfl) ?_
      refine lv_aload_n hx hb dX3_byLikeness_81 rfl (lv_at hl 0 rfl) ?_
      refine gf3_9 hx hb hts inX3_byLikeness_3 hown hE.1 hM hk_1 (hts (.fieldLink RX3 51 "WorkCoder" "least" "I") (by decide +kernel)) dX3_byLikeness_82 ?_
      refine lv_icmp_lt (tgt := 103) hx hb dX3_byLikeness_85 (by decide) (fun hc => ?_) (fun hc => ?_)
      · replace h := h.1 hc
        refine lv_bipush (v := (-2)) hx hb dX3_byLikeness_103 (by decide) ?_
        exact W.iret (v := (-2)) hx hb hr (fun t_ ht hW => ⟨⟨_, _, rfl, h, mB_of ht hM⟩, hS.F ht⟩) hS.2.2 dX3_byLikeness_105
      · replace h := h.2 hc
        refine lv_iload_n hx hb dX3_byLikeness_88 rfl (lv_at hl 2 rfl) ?_
        refine lv_iload hx hb dX3_byLikeness_89 (lv_at hl 3 rfl) ?_
        refine lv_isub hx hb dX3_byLikeness_91 ?_
        refine lv_aload_n hx hb dX3_byLikeness_92 rfl (lv_at hl 0 rfl) ?_
        refine gf3_10 hx hb hts inX3_byLikeness_3 hown hE.1 hM hk_1 (hts (.fieldLink RX3 54 "WorkCoder" "gap" "I") (by decide +kernel)) dX3_byLikeness_93 ?_
        refine lv_icmp_lt (tgt := 103) hx hb dX3_byLikeness_96 (by decide) (fun hc => ?_) (fun hc => ?_)
        · replace h := h.1 hc
          refine lv_bipush (v := (-2)) hx hb dX3_byLikeness_103 (by decide) ?_
          exact W.iret (v := (-2)) hx hb hr (fun t_ ht hW => ⟨⟨_, _, rfl, h, mB_of ht hM⟩, hS.F ht⟩) hS.2.2 dX3_byLikeness_105
        · replace h := h.2 hc
          refine lv_iload_n hx hb dX3_byLikeness_99 rfl (lv_at hl 1 rfl) ?_
          refine lv_goto (tgt := 105) hx hb dX3_byLikeness_100 (by decide) ?_
          exact W.iret (v := x2) hx hb hr (fun t_ ht hW => ⟨⟨_, _, rfl, h, mB_of ht hM⟩, hS.F ht⟩) hS.2.2 dX3_byLikeness_105
    · replace h := h.2 hc
      refine lv_aload_n hx hb dX3_byLikeness_25 rfl (lv_at hl 0 rfl) ?_
      refine gf3_11 hx hb hts inX3_byLikeness_3 hown hE.1 hM hk_1 (hts (.fieldLink RX3 57 "WorkCoder" "nears" "[I") (by decide +kernel)) dX3_byLikeness_26 (fun r_5 er_5 => ?_)
      replace h := h r_5 er_5
      clear er_5
      refine lv_iload hx hb dX3_byLikeness_29 (lv_at hl 4 rfl) ?_
      obtain ⟨a_6, rfl, h⟩ := h
      obtain ⟨hk_7, h⟩ := h
      obtain ⟨hv_8, h⟩ := h
      refine mm_iald hx hb hE.1 hM hk_7 hv_8 dX3_byLikeness_31 ?_
      refine lv_iload_n hx hb dX3_byLikeness_32 rfl (lv_at hl 2 rfl) ?_
      refine lv_icmp_le (tgt := 53) hx hb dX3_byLikeness_33 (by decide) (fun hc => ?_) (fun hc => ?_)
      · replace h := h.1 hc
        refine lv_aload_n hx hb dX3_byLikeness_53 rfl (lv_at hl 0 rfl) ?_
        refine gf3_11 hx hb hts inX3_byLikeness_3 hown hE.1 hM hk_1 (hts (.fieldLink RX3 57 "WorkCoder" "nears" "[I") (by decide +kernel)) dX3_byLikeness_54 (fun r_9 er_9 => ?_)
        replace h := h r_9 er_9
        clear er_9
        refine lv_iload hx hb dX3_byLikeness_57 (lv_at hl 4 rfl) ?_
        obtain ⟨a_10, rfl, h⟩ := h
        obtain ⟨hk_11, h⟩ := h
        obtain ⟨hv_12, h⟩ := h
        refine mm_iald hx hb hE.1 hM hk_11 hv_12 dX3_byLikeness_59 ?_
        refine lv_iload hx hb dX3_byLikeness_60 (lv_at hl 3 rfl) ?_
        refine lv_icmp_le (tgt := 74) hx hb dX3_byLikeness_62 (by decide) (fun hc => ?_) (fun hc => ?_)
        · replace h := h.1 hc
          obtain ⟨x_13, ex_13⟩ : ∃ y : Int32, y = x5 + 1 := ⟨_, rfl⟩
          replace h := h x_13 ex_13
          refine lv_iinc (v := x_13) (lv' := [(5, .int x_13), (0, .ref t), (2, .int x2), (3, .int x3), (4, .int x4)]) hx hb dX3_byLikeness_74 hl (k := 4) rfl (by rw [ex_13]; rfl) (by decide) rfl (fun ls hl => ?_)
          refine lv_goto (tgt := 15) hx hb dX3_byLikeness_77 (by decide) ?_
          exact ih _ _ _ _ _ _ _ _ h hM hS (lv_sub hl [1, 2, 3, 4, 0] rfl)
        · replace h := h.2 hc
          refine lv_aload_n hx hb dX3_byLikeness_65 rfl (lv_at hl 0 rfl) ?_
          refine gf3_11 hx hb hts inX3_byLikeness_3 hown hE.1 hM hk_1 (hts (.fieldLink RX3 57 "WorkCoder" "nears" "[I") (by decide +kernel)) dX3_byLikeness_66 (fun r_14 er_14 => ?_)
          replace h := h r_14 er_14
          clear er_14
          refine lv_iload hx hb dX3_byLikeness_69 (lv_at hl 4 rfl) ?_
          obtain ⟨a_15, rfl, h⟩ := h
          obtain ⟨hk_16, h⟩ := h
          obtain ⟨hv_17, h⟩ := h
          refine mm_iald hx hb hE.1 hM hk_16 hv_17 dX3_byLikeness_71 ?_
          refine lv_topi (fun x_18 ex_18 => ?_)
          replace h := h x_18 ex_18
          refine lv_istore (i := 4) (lv' := [(4, .int x_18), (0, .ref t), (2, .int x2), (3, .int x3), (5, .int x5)]) hx hb dX3_byLikeness_72 hl (by decide) rfl (fun ls hl => ?_)
          obtain ⟨x_19, ex_19⟩ : ∃ y : Int32, y = x5 + 1 := ⟨_, rfl⟩
          replace h := h x_19 ex_19
          refine lv_iinc (v := x_19) (lv' := [(5, .int x_19), (4, .int x_18), (0, .ref t), (2, .int x2), (3, .int x3)]) hx hb dX3_byLikeness_74 hl (k := 4) rfl (by rw [ex_19]; rfl) (by decide) rfl (fun ls hl => ?_)
          refine lv_goto (tgt := 15) hx hb dX3_byLikeness_77 (by decide) ?_
          exact ih _ _ _ _ _ _ _ _ h hM hS (lv_sub hl [2, 3, 4, 1, 0] rfl)
      · replace h := h.2 hc
        refine lv_iload_n hx hb dX3_byLikeness_36 rfl (lv_at hl 2 rfl) ?_
        refine lv_istore (i := 4) (lv' := [(4, .int x3), (0, .ref t), (2, .int x2), (3, .int x3), (5, .int x5)]) hx hb dX3_byLikeness_37 hl (by decide) rfl (fun ls hl => ?_)
        refine lv_aload_n hx hb dX3_byLikeness_39 rfl (lv_at hl 1 rfl) ?_
        refine gf3_11 hx hb hts inX3_byLikeness_3 hown hE.1 hM hk_1 (hts (.fieldLink RX3 57 "WorkCoder" "nears" "[I") (by decide +kernel)) dX3_byLikeness_40 (fun r_20 er_20 => ?_)
        replace h := h r_20 er_20
        clear er_20
        refine lv_iload hx hb dX3_byLikeness_43 (lv_at hl 4 rfl) ?_
        obtain ⟨a_21, rfl, h⟩ := h
        obtain ⟨hk_22, h⟩ := h
        obtain ⟨hv_23, h⟩ := h
        refine mm_iald hx hb hE.1 hM hk_22 hv_23 dX3_byLikeness_45 ?_
        refine lv_topi (fun x_24 ex_24 => ?_)
        replace h := h x_24 ex_24
        refine lv_istore_n (i := 3) (lv' := [(3, .int x_24), (4, .int x3), (0, .ref t), (2, .int x2), (5, .int x5)]) hx hb dX3_byLikeness_46 rfl hl (by decide) rfl (fun ls hl => ?_)
        refine lv_iload hx hb dX3_byLikeness_47 (lv_at hl 4 rfl) ?_
        refine lv_istore_n (i := 2) (lv' := [(2, .int x5), (3, .int x_24), (4, .int x3), (0, .ref t), (5, .int x5)]) hx hb dX3_byLikeness_49 rfl hl (by decide) rfl (fun ls hl => ?_)
        refine lv_goto (tgt := 74) hx hb dX3_byLikeness_50 (by decide) ?_
        obtain ⟨x_25, ex_25⟩ : ∃ y : Int32, y = x5 + 1 := ⟨_, rfl⟩
        replace h := h x_25 ex_25
        refine lv_iinc (v := x_25) (lv' := [(5, .int x_25), (2, .int x5), (3, .int x_24), (4, .int x3), (0, .ref t)]) hx hb dX3_byLikeness_74 hl (k := 4) rfl (by rw [ex_25]; rfl) (by decide) rfl (fun ls hl => ?_)
        refine lv_goto (tgt := 15) hx hb dX3_byLikeness_77 (by decide) ?_
        exact ih _ _ _ _ _ _ _ _ h hM hS (lv_sub hl [4, 1, 2, 3, 0] rfl)
set_option maxHeartbeats 4000000 in
set_option maxRecDepth 100000 in
theorem oX3_byLikeness_0 {k : Int32 → MM → Prop} {t : Nat} (CX : CXM p s m args meth c cX3_byLikeness 6 (some .int) "byLikeness" RX3 wsX3_byLikeness D cs A) : ∀ (r1 : Option Nat) (σ : MM) (H : Heap) (locs : List Loc) (ls : Array Slot), wX3_byLikeness t r1 σ k → PH D cs A σ H → va_S A s.heap H locs → lv_has ls 6 [(0, .ref t), (1, va_rf r1)] → W p l e (headSpec wsX3_byLikeness rmX3_byLikeness).room s m args below meth c H locs 0 0 (MQ below (va_Qi k (mB D cs A) A) args s 0 0 A) (F0 m 0 ls []) := by
  intro r1 σ H locs ls h hM hS hl
  have ⟨hx, hb, hml, hr, hnm, hown, hts, hlocks, hE⟩ := CX
  unfold wX3_byLikeness at h
  refine lv_aload_n hx hb dX3_byLikeness_0 rfl (lv_at hl 0 rfl) ?_
  refine nl_aload_n hx hb dX3_byLikeness_1 rfl (lv_at hl 1 rfl) ?_
  obtain ⟨hk_1, h⟩ := h
  refine clVv (C := RX3) (b := t) (As := [va_rf r1]) (rest := []) ⟨hx, hb, hml, hown, hts⟩ hM hE hS (ok_X3_fillNears l D cs A t r1 _ _ h) (cwV 1 hts gX3_byLikeness_X3_fillNears rfl rfl rfl (by decide +kernel) ⟨(Nat.le_of_ble_eq_true rfl), (Nat.le_of_ble_eq_true rfl)⟩) (rc3 hM hE.1 hk_1) rfl hl.1 rfl (Nat.le_of_ble_eq_true rfl) dX3_byLikeness_2 ⟨(Nat.le_of_ble_eq_true rfl), (Nat.le_of_ble_eq_true rfl)⟩ (fun σ_2 H locs h1 hM hS => ?_)
  replace h := h1
  clear h1
  refine lv_iconst (v := 0) hx hb dX3_byLikeness_5 (by decide) ?_
  refine lv_istore_n (i := 2) (lv' := [(2, .int 0), (0, .ref t), (1, va_rf r1)]) hx hb dX3_byLikeness_6 rfl hl (by decide) (by simp [nl_cat] <;> rfl) (fun ls hl => ?_)
  refine lv_iconst (v := 0) hx hb dX3_byLikeness_7 (by decide) ?_
  refine lv_istore_n (i := 3) (lv' := [(3, .int 0), (2, .int 0), (0, .ref t), (1, va_rf r1)]) hx hb dX3_byLikeness_8 rfl hl (by decide) rfl (fun ls hl => ?_)
  refine lv_iconst (v := 0) hx hb dX3_byLikeness_9 (by decide) ?_
  refine lv_istore (i := 4) (lv' := [(4, .int 0), (3, .int 0), (2, .int 0), (0, .ref t), (1, va_rf r1)]) hx hb dX3_byLikeness_10 hl (by decide) rfl (fun ls hl => ?_)
  refine lv_iconst (v := 0) hx hb dX3_byLikeness_12 (by decide) ?_
  refine lv_istore (i := 5) (lv' := [(5, .int 0), (4, .int 0), (3, .int 0), (2, .int 0), (0, .ref t), (1, va_rf r1)]) hx hb dX3_byLikeness_13 hl (by decide) rfl (fun ls hl => ?_)
  obtain ⟨n0, h⟩ := h
  exact oX3_byLikeness_15 CX  n0 _ _ _ _ _ _ _ _ h hM hS (lv_sub hl [4, 3, 2, 1, 0] rfl)
end S_X3_byLikeness
set_option maxHeartbeats 4000000 in
set_option maxRecDepth 100000 in
theorem ok_X3_byLikeness (l : Launch) (D : va_G) (cs : CS) (A : Nat → Prop) (t : Nat) (r1 : Option Nat) (σ : MM) (k : Int32 → MM → Prop) (h : wX3_byLikeness t r1 σ k) : Met l yX3_byLikeness wsX3_byLikeness rmX3_byLikeness (va_Pc [.ref t, va_rf r1] (mP D cs A σ)) (va_Qi k (mB D cs A) A) 0 0 A := by
  refine Met.ofW (cc := cX3_byLikeness) (maxL := 6) (ret := (some .int)) (by decide) rfl ?_
  intro p e s m args below meth c s₁ B hml hv
  obtain ⟨rfl, hM, hE⟩ := hv
  have CX : CXM p s m _ meth c cX3_byLikeness 6 (some .int) "byLikeness" RX3 wsX3_byLikeness D cs A := ⟨B.exec, B.bytes, hml, B.returns, (name_of_methodNamed B.named B.method).1, findClass_of_methodNamed B.named, atoms_spec (ws := wsX3_byLikeness) B.pre, B.notSynchronized, hE⟩
  cases r1 with
  | none =>
    have hl := lv_entry ([.ref t, va_rf none]) (n := 6) (Nat.le_of_ble_eq_true rfl)
    rw [lg_entry_eq]
    exact oX3_byLikeness_0 CX none σ _ _ _ h hM va_S.rf hl
  | some a0 =>
    have hl := lv_entry ([.ref t, va_rf (some a0)]) (n := 6) (Nat.le_of_ble_eq_true rfl)
    rw [lg_entry_eq]
    exact oX3_byLikeness_0 CX (some a0) σ _ _ _ h hM va_S.rf hl
/-! WorkCoder.liked(I)I -/
abbrev rmX3_liked : Room := { frames := 4, cells := 0, slots := 0, locals := 97 }
section S_X3_liked
variable {p : Program} {l : Launch} {e : Env} {s : State} {m : MethodId} {args : Array Value} {below : List Frame} {meth : Method} {c : Code} {D : va_G} {cs : CS} {A : Nat → Prop}
set_option maxHeartbeats 4000000 in
set_option maxRecDepth 100000 in
theorem oX3_liked_0 {k : Int32 → MM → Prop} {t : Nat} (CX : CXM p s m args meth c cX3_liked 3 (some .int) "liked" RX3 wsX3_liked D cs A) : ∀ (x1 : Int32) (σ : MM) (H : Heap) (locs : List Loc) (ls : Array Slot), wX3_liked t x1 σ k → PH D cs A σ H → va_S A s.heap H locs → lv_has ls 3 [(0, .ref t), (1, .int x1)] → W p l e (headSpec wsX3_liked rmX3_liked).room s m args below meth c H locs 0 0 (MQ below (va_Qi k (mB D cs A) A) args s 0 0 A) (F0 m 0 ls []) := by
  intro x1 σ H locs ls h hM hS hl
  have ⟨hx, hb, hml, hr, hnm, hown, hts, hlocks, hE⟩ := CX
  unfold wX3_liked at h
  refine lv_aload_n hx hb dX3_liked_0 rfl (lv_at hl 0 rfl) ?_
  refine lv_iload_n hx hb dX3_liked_1 rfl (lv_at hl 1 rfl) ?_
  obtain ⟨hk_1, h⟩ := h
  refine clVq (C := RX3) (b := t) (As := [.int x1]) (rest := []) ⟨hx, hb, hml, hown, hts⟩ hM hE hS (ok_X3_itemAt l D cs A t x1 _ _ h) (cwV 1 hts gX3_liked_X3_itemAt rfl rfl rfl (by decide +kernel) ⟨(Nat.le_of_ble_eq_true rfl), (Nat.le_of_ble_eq_true rfl)⟩) (rc3 hM hE.1 hk_1) rfl hl.1 rfl (Nat.le_of_ble_eq_true rfl) dX3_liked_2 ⟨(Nat.le_of_ble_eq_true rfl), (Nat.le_of_ble_eq_true rfl)⟩ (fun r_3 σ_2 H locs h1 hM hS => ?_)
  replace h := h1
  clear h1
  refine nl_astore_n (i := 2) (lv' := [(2, va_rf r_3), (0, .ref t), (1, .int x1)]) hx hb dX3_liked_5 rfl hl (by decide) rfl (fun ls hl => ?_)
  refine nl_aload_n hx hb dX3_liked_6 rfl (lv_at hl 0 rfl) ?_
  refine nl_ifnonnull (tgt := 14) hx hb dX3_liked_7 (by decide) (fun a_4 hn => ?_) (fun hn => ?_)
  · replace h := h.1 a_4 hn
    subst hn
    refine lv_aload_n hx hb dX3_liked_14 rfl (lv_at hl 1 rfl) ?_
    refine lv_aload_n hx hb dX3_liked_15 rfl (lv_at hl 0 rfl) ?_
    obtain ⟨hk_5, h⟩ := h
    refine clVi (C := RX3) (b := t) (As := [.ref a_4]) (rest := []) ⟨hx, hb, hml, hown, hts⟩ hM hE hS (ok_X3_byLikeness l D cs A t (some a_4) _ _ h) (cwV 1 hts gX3_liked_X3_byLikeness rfl rfl rfl (by decide +kernel) ⟨(Nat.le_of_ble_eq_true rfl), (Nat.le_of_ble_eq_true rfl)⟩) (rc3 hM hE.1 hk_5) rfl hl.1 rfl (Nat.le_of_ble_eq_true rfl) dX3_liked_16 ⟨(Nat.le_of_ble_eq_true rfl), (Nat.le_of_ble_eq_true rfl)⟩ (fun x_7 σ_6 H locs h1 hM hS => ?_)
    replace h := h1
    clear h1
    exact W.iret (v := x_7) hx hb hr (fun t_ ht hW => ⟨⟨_, _, rfl, h, mB_of ht hM⟩, hS.F ht⟩) hS.2.2 dX3_liked_19
  · replace h := h.2 hn
    subst hn
    refine lv_iconst (v := (-1)) hx hb dX3_liked_10 (by decide) ?_
    refine lv_goto (tgt := 19) hx hb dX3_liked_11 (by decide) ?_
    exact W.iret (v := (-1)) hx hb hr (fun t_ ht hW => ⟨⟨_, _, rfl, h, mB_of ht hM⟩, hS.F ht⟩) hS.2.2 dX3_liked_19
end S_X3_liked
set_option maxHeartbeats 4000000 in
set_option maxRecDepth 100000 in
theorem ok_X3_liked (l : Launch) (D : va_G) (cs : CS) (A : Nat → Prop) (t : Nat) (x1 : Int32) (σ : MM) (k : Int32 → MM → Prop) (h : wX3_liked t x1 σ k) : Met l yX3_liked wsX3_liked rmX3_liked (va_Pc [.ref t, .int x1] (mP D cs A σ)) (va_Qi k (mB D cs A) A) 0 0 A := by
  refine Met.ofW (cc := cX3_liked) (maxL := 3) (ret := (some .int)) (by decide) rfl ?_
  intro p e s m args below meth c s₁ B hml hv
  obtain ⟨rfl, hM, hE⟩ := hv
  have CX : CXM p s m _ meth c cX3_liked 3 (some .int) "liked" RX3 wsX3_liked D cs A := ⟨B.exec, B.bytes, hml, B.returns, (name_of_methodNamed B.named B.method).1, findClass_of_methodNamed B.named, atoms_spec (ws := wsX3_liked) B.pre, B.notSynchronized, hE⟩
  have hl := lv_entry ([.ref t, .int x1]) (n := 3) (Nat.le_of_ble_eq_true rfl)
  rw [lg_entry_eq]
  exact oX3_liked_0 CX x1 σ _ _ _ h hM va_S.rf hl
/-! WorkCoder.isOpen(LWorkCoder$Item;)Z -/
abbrev rmX3_isOpen : Room := { frames := 0, cells := 0, slots := 0, locals := 0 }
theorem inX3_isOpen_0 : ∀ w ∈ wsX00, w ∈ wsX3_isOpen := fun _ h => List.mem_cons_of_mem _ (List.mem_append_right _ (h))
section S_X3_isOpen
variable {p : Program} {l : Launch} {e : Env} {s : State} {m : MethodId} {args : Array Value} {below : List Frame} {meth : Method} {c : Code} {D : va_G} {cs : CS} {A : Nat → Prop}
set_option maxHeartbeats 4000000 in
set_option maxRecDepth 100000 in
theorem oX3_isOpen_0 {k : Int32 → MM → Prop} (CX : CXM p s m args meth c cX3_isOpen 1 (some .boolean) "isOpen" RX3 wsX3_isOpen D cs A) : ∀ (r0 : Option Nat) (σ : MM) (H : Heap) (locs : List Loc) (ls : Array Slot), wX3_isOpen r0 σ k → PH D cs A σ H → va_S A s.heap H locs → lv_has ls 1 [(0, va_rf r0)] → W p l e (headSpec wsX3_isOpen rmX3_isOpen).room s m args below meth c H locs 0 0 (MQ below (va_Qi k (mB D cs A) A) args s 0 0 A) (F0 m 0 ls []) := by
  intro r0 σ H locs ls h hM hS hl
  have ⟨hx, hb, hml, hr, hnm, hown, hts, hlocks, hE⟩ := CX
  unfold wX3_isOpen at h
  refine nl_aload_n hx hb dX3_isOpen_0 rfl (lv_at hl 0 rfl) ?_
  refine nl_ifnull (tgt := 16) hx hb dX3_isOpen_1 (by decide) (fun hn => ?_) (fun a_1 hn => ?_)
  · replace h := h.1 hn
    subst hn
    refine lv_iconst (v := 0) hx hb dX3_isOpen_16 (by decide) ?_
    exact W.zret (v := 0) (ty := .boolean) hx hb hr rfl (fun t_ ht hW => ⟨⟨_, _, rfl, h, mB_of ht hM⟩, hS.F ht⟩) hS.2.2 dX3_isOpen_17
  · replace h := h.2 a_1 hn
    subst hn
    refine lv_aload_n hx hb dX3_isOpen_4 rfl (lv_at hl 0 rfl) ?_
    obtain ⟨hk_2, h⟩ := h
    refine gf0_4 hx hb hts inX3_isOpen_0 hown hE.1 hM hk_2 (hts (.fieldLink RX3 107 "WorkCoder$Item" "state" "I") (by decide +kernel)) dX3_isOpen_5 ?_
    refine lv_iconst (v := 1) hx hb dX3_isOpen_8 (by decide) ?_
    refine lv_icmp_eq (tgt := 16) hx hb dX3_isOpen_9 (by decide) (fun hc => ?_) (fun hc => ?_)
    · replace h := h.1 hc
      refine lv_iconst (v := 0) hx hb dX3_isOpen_16 (by decide) ?_
      exact W.zret (v := 0) (ty := .boolean) hx hb hr rfl (fun t_ ht hW => ⟨⟨_, _, rfl, h, mB_of ht hM⟩, hS.F ht⟩) hS.2.2 dX3_isOpen_17
    · replace h := h.2 hc
      refine lv_iconst (v := 1) hx hb dX3_isOpen_12 (by decide) ?_
      refine lv_goto (tgt := 17) hx hb dX3_isOpen_13 (by decide) ?_
      exact W.zret (v := 1) (ty := .boolean) hx hb hr rfl (fun t_ ht hW => ⟨⟨_, _, rfl, h, mB_of ht hM⟩, hS.F ht⟩) hS.2.2 dX3_isOpen_17
end S_X3_isOpen
set_option maxHeartbeats 4000000 in
set_option maxRecDepth 100000 in
theorem ok_X3_isOpen (l : Launch) (D : va_G) (cs : CS) (A : Nat → Prop) (r0 : Option Nat) (σ : MM) (k : Int32 → MM → Prop) (h : wX3_isOpen r0 σ k) : Met l yX3_isOpen wsX3_isOpen rmX3_isOpen (va_Pc [va_rf r0] (mP D cs A σ)) (va_Qi k (mB D cs A) A) 0 0 A := by
  refine Met.ofW (cc := cX3_isOpen) (maxL := 1) (ret := (some .boolean)) (by decide) rfl ?_
  intro p e s m args below meth c s₁ B hml hv
  obtain ⟨rfl, hM, hE⟩ := hv
  have CX : CXM p s m _ meth c cX3_isOpen 1 (some .boolean) "isOpen" RX3 wsX3_isOpen D cs A := ⟨B.exec, B.bytes, hml, B.returns, (name_of_methodNamed B.named B.method).1, findClass_of_methodNamed B.named, atoms_spec (ws := wsX3_isOpen) B.pre, B.notSynchronized, hE⟩
  cases r0 with
  | none =>
    have hl := lv_entry ([va_rf none]) (n := 1) (Nat.le_of_ble_eq_true rfl)
    rw [lg_entry_eq]
    exact oX3_isOpen_0 CX none σ _ _ _ h hM va_S.rf hl
  | some a0 =>
    have hl := lv_entry ([va_rf (some a0)]) (n := 1) (Nat.le_of_ble_eq_true rfl)
    rw [lg_entry_eq]
    exact oX3_isOpen_0 CX (some a0) σ _ _ _ h hM va_S.rf hl
/-! WorkCoder.nearestWith(ILWorkCoder$Item;)I -/
abbrev rmX3_nearestWith : Room := { frames := 2, cells := 0, slots := 0, locals := 43 }
theorem inX3_nearestWith_0 : ∀ w ∈ wsX00, w ∈ wsX3_nearestWith := fun _ h => List.mem_cons_of_mem _ (List.mem_append_right _ (h))
theorem inX3_nearestWith_3 : ∀ w ∈ wsX30, w ∈ wsX3_nearestWith := fun _ h => List.mem_cons_of_mem _ (List.mem_append_left _ (List.mem_append_right _ (h)))
section S_X3_nearestWith
variable {p : Program} {l : Launch} {e : Env} {s : State} {m : MethodId} {args : Array Value} {below : List Frame} {meth : Method} {c : Code} {D : va_G} {cs : CS} {A : Nat → Prop}
set_option maxHeartbeats 4000000 in
set_option maxRecDepth 100000 in
theorem oX3_nearestWith_8 {k : Int32 → MM → Prop} {t : Nat} (CX : CXM p s m args meth c cX3_nearestWith 8 (some .int) "nearestWith" RX3 wsX3_nearestWith D cs A) : ∀ (n : Nat), ∀ (x1 : Int32) (r2 : Option Nat) (x3 : Int32) (x4 : Int32) (x5 : Int32) (σ : MM) (H : Heap) (locs : List Loc) (ls : Array Slot), wX3_nearestWith_8 k t  n x1 r2 x3 x4 x5 σ → PH D cs A σ H → va_S A s.heap H locs → lv_has ls 8 [(0, .ref t), (1, .int x1), (2, va_rf r2), (3, .int x3), (4, .int x4), (5, .int x5)] → W p l e (headSpec wsX3_nearestWith rmX3_nearestWith).room s m args below meth c H locs 0 0 (MQ below (va_Qi k (mB D cs A) A) args s 0 0 A) (F0 m 8 ls []) := by
  intro n
  induction n with
  | zero => intro x1 r2 x3 x4 x5 σ H locs ls h; exact h.elim
  | succ n ih =>
    intro x1 r2 x3 x4 x5 σ H locs ls h hM hS hl
    have ⟨hx, hb, hml, hr, hnm, hown, hts, hlocks, hE⟩ := CX
    unfold wX3_nearestWith_8 at h
    refine lv_iload hx hb dX3_nearestWith_8 (lv_at hl 5 rfl) ?_
    refine lv_aload_n hx hb dX3_nearestWith_10 rfl (lv_at hl 0 rfl) ?_
    obtain ⟨hk_1, h⟩ := h
    refine gf3_5 hx hb hts inX3_nearestWith_3 hown hE.1 hM hk_1 (hts (.fieldLink RX3 34 "WorkCoder" "items" "[LWorkCoder$Item;") (by decide +kernel)) dX3_nearestWith_11 (fun r_2 er_2 => ?_)
    replace h := h r_2 er_2
    clear er_2
    obtain ⟨a_3, rfl, h⟩ := h
    obtain ⟨hk_4, h⟩ := h
    refine mm_alen9 hx hb hE.1 hM hk_4 dX3_nearestWith_14 ?_
    refine lv_icmp_ge (tgt := 75) hx hb dX3_nearestWith_15 (by decide) (fun hc => ?_) (fun hc => ?_)
    · replace h := h.1 hc
      refine lv_iload_n hx hb dX3_nearestWith_75 rfl (lv_at hl 3 rfl) ?_
      exact W.iret (v := x3) hx hb hr (fun t_ ht hW => ⟨⟨_, _, rfl, h, mB_of ht hM⟩, hS.F ht⟩) hS.2.2 dX3_nearestWith_76
    · replace h := h.2 hc
      refine lv_aload_n hx hb dX3_nearestWith_18 rfl (lv_at hl 0 rfl) ?_
      refine gf3_5 hx hb hts inX3_nearestWith_3 hown hE.1 hM hk_1 (hts (.fieldLink RX3 34 "WorkCoder" "items" "[LWorkCoder$Item;") (by decide +kernel)) dX3_nearestWith_19 (fun r_5 er_5 => ?_)
      replace h := h r_5 er_5
      clear er_5
      refine lv_iload hx hb dX3_nearestWith_22 (lv_at hl 5 rfl) ?_
      obtain ⟨a_6, rfl, h⟩ := h
      obtain ⟨hk_7, h⟩ := h
      obtain ⟨hv_8, h⟩ := h
      refine mm_aald9 hx hb hE.1 hM hk_7 hv_8 dX3_nearestWith_24 (fun r_9 er_9 => ?_)
      replace h := h r_9 er_9
      clear er_9
      refine nl_astore (i := 6) (lv' := [(6, va_rf r_9), (0, .ref t), (1, .int x1), (2, va_rf r2), (3, .int x3), (4, .int x4), (5, .int x5)]) hx hb dX3_nearestWith_25 hl (by decide) rfl (fun ls hl => ?_)
      refine nl_aload hx hb dX3_nearestWith_27 (lv_at hl 0 rfl) ?_
      refine nl_ifnull (tgt := 69) hx hb dX3_nearestWith_29 (by decide) (fun hn => ?_) (fun a_10 hn => ?_)
      · replace h := h.1 hn
        subst hn
        obtain ⟨x_11, ex_11⟩ : ∃ y : Int32, y = x5 + 1 := ⟨_, rfl⟩
        replace h := h x_11 ex_11
        refine lv_iinc (v := x_11) (lv' := [(5, .int x_11), (6, .null), (0, .ref t), (1, .int x1), (2, va_rf r2), (3, .int x3), (4, .int x4)]) hx hb dX3_nearestWith_69 hl (k := 6) rfl (by rw [ex_11]; rfl) (by decide) rfl (fun ls hl => ?_)
        refine lv_goto (tgt := 8) hx hb dX3_nearestWith_72 (by decide) ?_
        exact ih _ _ _ _ _ _ _ _ _ h hM hS (lv_sub hl [2, 3, 4, 5, 6, 0] rfl)
      · replace h := h.2 a_10 hn
        subst hn
        refine lv_aload hx hb dX3_nearestWith_32 (lv_at hl 0 rfl) ?_
        refine nl_aload_n hx hb dX3_nearestWith_34 rfl (lv_at hl 3 rfl) ?_
        refine lv_acmp_eq (rx := (some a_10)) (ry := r2) (tgt := 69) hx hb dX3_nearestWith_35 (by decide) (fun hc => ?_) (fun hc => ?_)
        · replace h := h.1 hc
          obtain ⟨x_12, ex_12⟩ : ∃ y : Int32, y = x5 + 1 := ⟨_, rfl⟩
          replace h := h x_12 ex_12
          refine lv_iinc (v := x_12) (lv' := [(5, .int x_12), (6, .ref a_10), (0, .ref t), (1, .int x1), (2, va_rf r2), (3, .int x3), (4, .int x4)]) hx hb dX3_nearestWith_69 hl (k := 6) rfl (by rw [ex_12]; rfl) (by decide) rfl (fun ls hl => ?_)
          refine lv_goto (tgt := 8) hx hb dX3_nearestWith_72 (by decide) ?_
          exact ih _ _ _ _ _ _ _ _ _ h hM hS (lv_sub hl [2, 3, 4, 5, 6, 0] rfl)
        · replace h := h.2 hc
          refine lv_aload hx hb dX3_nearestWith_38 (lv_at hl 0 rfl) ?_
          obtain ⟨hk_13, h⟩ := h
          refine gf0_5 hx hb hts inX3_nearestWith_0 hown hE.1 hM hk_13 (hts (.fieldLink RX3 194 "WorkCoder$Item" "code" "I") (by decide +kernel)) dX3_nearestWith_40 ?_
          refine lv_iload_n hx hb dX3_nearestWith_43 rfl (lv_at hl 2 rfl) ?_
          refine lv_icmp_ne (tgt := 69) hx hb dX3_nearestWith_44 (by decide) (fun hc => ?_) (fun hc => ?_)
          · replace h := h.1 hc
            obtain ⟨x_14, ex_14⟩ : ∃ y : Int32, y = x5 + 1 := ⟨_, rfl⟩
            replace h := h x_14 ex_14
            refine lv_iinc (v := x_14) (lv' := [(5, .int x_14), (6, .ref a_10), (0, .ref t), (1, .int x1), (2, va_rf r2), (3, .int x3), (4, .int x4)]) hx hb dX3_nearestWith_69 hl (k := 6) rfl (by rw [ex_14]; rfl) (by decide) rfl (fun ls hl => ?_)
            refine lv_goto (tgt := 8) hx hb dX3_nearestWith_72 (by decide) ?_
            exact ih _ _ _ _ _ _ _ _ _ h hM hS (lv_sub hl [2, 3, 4, 5, 6, 0] rfl)
          · replace h := h.2 hc
            refine nl_aload_n hx hb dX3_nearestWith_47 rfl (lv_at hl 3 rfl) ?_
            refine lv_aload hx hb dX3_nearestWith_48 (lv_at hl 0 rfl) ?_
            obtain ⟨a_15, rfl, h⟩ := h
            obtain ⟨hk_16, h⟩ := h
            refine clVi (C := RX0) (b := a_15) (As := [.ref a_10]) (rest := []) ⟨hx, hb, hml, hown, hts⟩ hM hE hS (ok_X0_likenessTo l D cs A a_15 (some a_10) _ _ h) (cwV 1 hts gX3_nearestWith_X0_likenessTo rfl rfl rfl (by decide +kernel) ⟨(Nat.le_of_ble_eq_true rfl), (Nat.le_of_ble_eq_true rfl)⟩) (rc0 hM hE.1 hk_16) rfl hl.1 rfl (Nat.le_of_ble_eq_true rfl) dX3_nearestWith_50 ⟨(Nat.le_of_ble_eq_true rfl), (Nat.le_of_ble_eq_true rfl)⟩ (fun x_18 σ_17 H locs h1 hM hS => ?_)
            replace h := h1
            clear h1
            refine lv_istore (i := 7) (lv' := [(7, .int x_18), (6, .ref a_10), (0, .ref t), (1, .int x1), (2, .ref a_15), (3, .int x3), (4, .int x4), (5, .int x5)]) hx hb dX3_nearestWith_53 hl (by decide) rfl (fun ls hl => ?_)
            refine lv_iload hx hb dX3_nearestWith_55 (lv_at hl 0 rfl) ?_
            refine lv_iload hx hb dX3_nearestWith_57 (lv_at hl 6 rfl) ?_
            refine lv_icmp_le (tgt := 69) hx hb dX3_nearestWith_59 (by decide) (fun hc => ?_) (fun hc => ?_)
            · replace h := h.1 hc
              obtain ⟨x_19, ex_19⟩ : ∃ y : Int32, y = x5 + 1 := ⟨_, rfl⟩
              replace h := h x_19 ex_19
              refine lv_iinc (v := x_19) (lv' := [(5, .int x_19), (7, .int x_18), (6, .ref a_10), (0, .ref t), (1, .int x1), (2, .ref a_15), (3, .int x3), (4, .int x4)]) hx hb dX3_nearestWith_69 hl (k := 7) rfl (by rw [ex_19]; rfl) (by decide) rfl (fun ls hl => ?_)
              refine lv_goto (tgt := 8) hx hb dX3_nearestWith_72 (by decide) ?_
              exact ih _ _ _ _ _ _ _ _ _ h hM hS (lv_sub hl [3, 4, 5, 6, 7, 0] rfl)
            · replace h := h.2 hc
              refine lv_iload hx hb dX3_nearestWith_62 (lv_at hl 0 rfl) ?_
              refine lv_istore (i := 4) (lv' := [(4, .int x_18), (7, .int x_18), (6, .ref a_10), (0, .ref t), (1, .int x1), (2, .ref a_15), (3, .int x3), (5, .int x5)]) hx hb dX3_nearestWith_64 hl (by decide) rfl (fun ls hl => ?_)
              refine lv_iload hx hb dX3_nearestWith_66 (lv_at hl 7 rfl) ?_
              refine lv_istore_n (i := 3) (lv' := [(3, .int x5), (4, .int x_18), (7, .int x_18), (6, .ref a_10), (0, .ref t), (1, .int x1), (2, .ref a_15), (5, .int x5)]) hx hb dX3_nearestWith_68 rfl hl (by decide) rfl (fun ls hl => ?_)
              obtain ⟨x_20, ex_20⟩ : ∃ y : Int32, y = x5 + 1 := ⟨_, rfl⟩
              replace h := h x_20 ex_20
              refine lv_iinc (v := x_20) (lv' := [(5, .int x_20), (3, .int x5), (4, .int x_18), (7, .int x_18), (6, .ref a_10), (0, .ref t), (1, .int x1), (2, .ref a_15)]) hx hb dX3_nearestWith_69 hl (k := 7) rfl (by rw [ex_20]; rfl) (by decide) rfl (fun ls hl => ?_)
              refine lv_goto (tgt := 8) hx hb dX3_nearestWith_72 (by decide) ?_
              exact ih _ _ _ _ _ _ _ _ _ h hM hS (lv_sub hl [5, 6, 7, 1, 2, 0] rfl)
set_option maxHeartbeats 4000000 in
set_option maxRecDepth 100000 in
theorem oX3_nearestWith_0 {k : Int32 → MM → Prop} {t : Nat} (CX : CXM p s m args meth c cX3_nearestWith 8 (some .int) "nearestWith" RX3 wsX3_nearestWith D cs A) : ∀ (x1 : Int32) (r2 : Option Nat) (σ : MM) (H : Heap) (locs : List Loc) (ls : Array Slot), wX3_nearestWith t x1 r2 σ k → PH D cs A σ H → va_S A s.heap H locs → lv_has ls 8 [(0, .ref t), (1, .int x1), (2, va_rf r2)] → W p l e (headSpec wsX3_nearestWith rmX3_nearestWith).room s m args below meth c H locs 0 0 (MQ below (va_Qi k (mB D cs A) A) args s 0 0 A) (F0 m 0 ls []) := by
  intro x1 r2 σ H locs ls h hM hS hl
  have ⟨hx, hb, hml, hr, hnm, hown, hts, hlocks, hE⟩ := CX
  unfold wX3_nearestWith at h
  refine lv_iconst (v := (-1)) hx hb dX3_nearestWith_0 (by decide) ?_
  refine lv_istore_n (i := 3) (lv' := [(3, .int (-1)), (0, .ref t), (1, .int x1), (2, va_rf r2)]) hx hb dX3_nearestWith_1 rfl hl (by decide) (by simp [nl_cat] <;> rfl) (fun ls hl => ?_)
  refine lv_iconst (v := 0) hx hb dX3_nearestWith_2 (by decide) ?_
  refine lv_istore (i := 4) (lv' := [(4, .int 0), (3, .int (-1)), (0, .ref t), (1, .int x1), (2, va_rf r2)]) hx hb dX3_nearestWith_3 hl (by decide) rfl (fun ls hl => ?_)
  refine lv_iconst (v := 0) hx hb dX3_nearestWith_5 (by decide) ?_
  refine lv_istore (i := 5) (lv' := [(5, .int 0), (4, .int 0), (3, .int (-1)), (0, .ref t), (1, .int x1), (2, va_rf r2)]) hx hb dX3_nearestWith_6 hl (by decide) rfl (fun ls hl => ?_)
  obtain ⟨n0, h⟩ := h
  exact oX3_nearestWith_8 CX  n0 _ _ _ _ _ _ _ _ _ h hM hS (lv_sub hl [3, 4, 5, 2, 1, 0] rfl)
end S_X3_nearestWith
set_option maxHeartbeats 4000000 in
set_option maxRecDepth 100000 in
theorem ok_X3_nearestWith (l : Launch) (D : va_G) (cs : CS) (A : Nat → Prop) (t : Nat) (x1 : Int32) (r2 : Option Nat) (σ : MM) (k : Int32 → MM → Prop) (h : wX3_nearestWith t x1 r2 σ k) : Met l yX3_nearestWith wsX3_nearestWith rmX3_nearestWith (va_Pc [.ref t, .int x1, va_rf r2] (mP D cs A σ)) (va_Qi k (mB D cs A) A) 0 0 A := by
  refine Met.ofW (cc := cX3_nearestWith) (maxL := 8) (ret := (some .int)) (by decide) rfl ?_
  intro p e s m args below meth c s₁ B hml hv
  obtain ⟨rfl, hM, hE⟩ := hv
  have CX : CXM p s m _ meth c cX3_nearestWith 8 (some .int) "nearestWith" RX3 wsX3_nearestWith D cs A := ⟨B.exec, B.bytes, hml, B.returns, (name_of_methodNamed B.named B.method).1, findClass_of_methodNamed B.named, atoms_spec (ws := wsX3_nearestWith) B.pre, B.notSynchronized, hE⟩
  cases r2 with
  | none =>
    have hl := lv_entry ([.ref t, .int x1, va_rf none]) (n := 8) (Nat.le_of_ble_eq_true rfl)
    rw [lg_entry_eq]
    exact oX3_nearestWith_0 CX x1 none σ _ _ _ h hM va_S.rf hl
  | some a0 =>
    have hl := lv_entry ([.ref t, .int x1, va_rf (some a0)]) (n := 8) (Nat.le_of_ble_eq_true rfl)
    rw [lg_entry_eq]
    exact oX3_nearestWith_0 CX x1 (some a0) σ _ _ _ h hM va_S.rf hl
/-! WorkCoder.planByLikeness(LWorkCoder$Item;)V -/
abbrev rmX3_planByLikeness : Room := { frames := 4, cells := 0, slots := 0, locals := 97 }
section S_X3_planByLikeness
variable {p : Program} {l : Launch} {e : Env} {s : State} {m : MethodId} {args : Array Value} {below : List Frame} {meth : Method} {c : Code} {D : va_G} {cs : CS} {A : Nat → Prop}
set_option maxHeartbeats 4000000 in
set_option maxRecDepth 100000 in
theorem oX3_planByLikeness_0 {k : MM → Prop} {t : Nat} (CX : CXM p s m args meth c cX3_planByLikeness 3 none "planByLikeness" RX3 wsX3_planByLikeness D cs A) : ∀ (r1 : Option Nat) (σ : MM) (H : Heap) (locs : List Loc) (ls : Array Slot), wX3_planByLikeness t r1 σ k → PH D cs A σ H → va_S A s.heap H locs → lv_has ls 3 [(0, .ref t), (1, va_rf r1)] → W p l e (headSpec wsX3_planByLikeness rmX3_planByLikeness).room s m args below meth c H locs 0 0 (MQ below (va_Qv k (mB D cs A) A) args s 0 0 A) (F0 m 0 ls []) := by
  intro r1 σ H locs ls h hM hS hl
  have ⟨hx, hb, hml, hr, hnm, hown, hts, hlocks, hE⟩ := CX
  unfold wX3_planByLikeness at h
  refine lv_aload_n hx hb dX3_planByLikeness_0 rfl (lv_at hl 0 rfl) ?_
  refine nl_aload_n hx hb dX3_planByLikeness_1 rfl (lv_at hl 1 rfl) ?_
  obtain ⟨hk_1, h⟩ := h
  refine clVi (C := RX3) (b := t) (As := [va_rf r1]) (rest := []) ⟨hx, hb, hml, hown, hts⟩ hM hE hS (ok_X3_byLikeness l D cs A t r1 _ _ h) (cwV 1 hts gX3_planByLikeness_X3_byLikeness rfl rfl rfl (by decide +kernel) ⟨(Nat.le_of_ble_eq_true rfl), (Nat.le_of_ble_eq_true rfl)⟩) (rc3 hM hE.1 hk_1) rfl hl.1 rfl (Nat.le_of_ble_eq_true rfl) dX3_planByLikeness_2 ⟨(Nat.le_of_ble_eq_true rfl), (Nat.le_of_ble_eq_true rfl)⟩ (fun x_3 σ_2 H locs h1 hM hS => ?_)
  replace h := h1
  clear h1
  refine lv_istore_n (i := 2) (lv' := [(2, .int x_3), (0, .ref t), (1, va_rf r1)]) hx hb dX3_planByLikeness_5 rfl hl (by decide) (by simp [nl_cat] <;> rfl) (fun ls hl => ?_)
  refine lv_iload_n hx hb dX3_planByLikeness_6 rfl (lv_at hl 0 rfl) ?_
  refine lv_bipush (v := (-2)) hx hb dX3_planByLikeness_7 (by decide) ?_
  refine lv_icmp_ne (tgt := 22) hx hb dX3_planByLikeness_9 (by decide) (fun hc => ?_) (fun hc => ?_)
  · replace h := h.1 hc
    refine nl_aload_n hx hb dX3_planByLikeness_22 rfl (lv_at hl 2 rfl) ?_
    refine lv_iload_n hx hb dX3_planByLikeness_23 rfl (lv_at hl 0 rfl) ?_
    refine lv_iconst (v := 1) hx hb dX3_planByLikeness_24 (by decide) ?_
    refine lv_aload_n hx hb dX3_planByLikeness_25 rfl (lv_at hl 1 rfl) ?_
    refine lv_iload_n hx hb dX3_planByLikeness_26 rfl (lv_at hl 0 rfl) ?_
    refine nl_aload_n hx hb dX3_planByLikeness_27 rfl (lv_at hl 2 rfl) ?_
    obtain ⟨hk_4, h⟩ := h
    refine clVi (C := RX3) (b := t) (As := [.int x_3, va_rf r1]) (rest := [.int 1, .int x_3, va_rf r1]) ⟨hx, hb, hml, hown, hts⟩ hM hE hS (ok_X3_nearestWith l D cs A t x_3 r1 _ _ h) (cwV 2 hts gX3_planByLikeness_X3_nearestWith rfl rfl rfl (by decide +kernel) ⟨(Nat.le_of_ble_eq_true rfl), (Nat.le_of_ble_eq_true rfl)⟩) (rc3 hM hE.1 hk_4) rfl hl.1 rfl (cat_le (Nat.le_of_ble_eq_true rfl)) dX3_planByLikeness_28 ⟨(Nat.le_of_ble_eq_true rfl), (Nat.le_of_ble_eq_true rfl)⟩ (fun x_6 σ_5 H locs h1 hM hS => ?_)
    replace h := h1
    clear h1
    obtain ⟨a_7, rfl, h⟩ := h
    obtain ⟨hk_8, h⟩ := h
    refine clVv (C := RX0) (b := a_7) (As := [.int x_3, .int 1, .int x_6]) (rest := []) ⟨hx, hb, hml, hown, hts⟩ hM hE hS (ok_X0_plan l D cs A a_7 x_3 1 x_6 _ _ h) (cwV 3 hts gX3_planByLikeness_X0_plan rfl rfl rfl (by decide +kernel) ⟨(Nat.le_of_ble_eq_true rfl), (Nat.le_of_ble_eq_true rfl)⟩) (rc0 hM hE.1 hk_8) rfl hl.1 rfl (Nat.le_of_ble_eq_true rfl) dX3_planByLikeness_31 ⟨(Nat.le_of_ble_eq_true rfl), (Nat.le_of_ble_eq_true rfl)⟩ (fun σ_9 H locs h1 hM hS => ?_)
    replace h := h1
    clear h1
    exact W.vret hx hb hr (fun t_ ht hW => ⟨⟨_, rfl, h, mB_of ht hM⟩, hS.F ht⟩) hS.2.2 dX3_planByLikeness_34
  · replace h := h.2 hc
    refine nl_aload_n hx hb dX3_planByLikeness_12 rfl (lv_at hl 2 rfl) ?_
    refine lv_iconst (v := (-1)) hx hb dX3_planByLikeness_13 (by decide) ?_
    refine lv_iconst (v := (-1)) hx hb dX3_planByLikeness_14 (by decide) ?_
    refine lv_iconst (v := (-1)) hx hb dX3_planByLikeness_15 (by decide) ?_
    obtain ⟨a_11, rfl, h⟩ := h
    obtain ⟨hk_12, h⟩ := h
    refine clVv (C := RX0) (b := a_11) (As := [.int (-1), .int (-1), .int (-1)]) (rest := []) ⟨hx, hb, hml, hown, hts⟩ hM hE hS (ok_X0_plan l D cs A a_11 (-1) (-1) (-1) _ _ h) (cwV 3 hts gX3_planByLikeness_X0_plan rfl rfl rfl (by decide +kernel) ⟨(Nat.le_of_ble_eq_true rfl), (Nat.le_of_ble_eq_true rfl)⟩) (rc0 hM hE.1 hk_12) rfl hl.1 rfl (Nat.le_of_ble_eq_true rfl) dX3_planByLikeness_16 ⟨(Nat.le_of_ble_eq_true rfl), (Nat.le_of_ble_eq_true rfl)⟩ (fun σ_13 H locs h1 hM hS => ?_)
    replace h := h1
    clear h1
    refine lv_goto (tgt := 34) hx hb dX3_planByLikeness_19 (by decide) ?_
    exact W.vret hx hb hr (fun t_ ht hW => ⟨⟨_, rfl, h, mB_of ht hM⟩, hS.F ht⟩) hS.2.2 dX3_planByLikeness_34
end S_X3_planByLikeness
set_option maxHeartbeats 4000000 in
set_option maxRecDepth 100000 in
theorem ok_X3_planByLikeness (l : Launch) (D : va_G) (cs : CS) (A : Nat → Prop) (t : Nat) (r1 : Option Nat) (σ : MM) (k : MM → Prop) (h : wX3_planByLikeness t r1 σ k) : Met l yX3_planByLikeness wsX3_planByLikeness rmX3_planByLikeness (va_Pc [.ref t, va_rf r1] (mP D cs A σ)) (va_Qv k (mB D cs A) A) 0 0 A := by
  refine Met.ofW (cc := cX3_planByLikeness) (maxL := 3) (ret := none) (by decide) rfl ?_
  intro p e s m args below meth c s₁ B hml hv
  obtain ⟨rfl, hM, hE⟩ := hv
  have CX : CXM p s m _ meth c cX3_planByLikeness 3 none "planByLikeness" RX3 wsX3_planByLikeness D cs A := ⟨B.exec, B.bytes, hml, B.returns, (name_of_methodNamed B.named B.method).1, findClass_of_methodNamed B.named, atoms_spec (ws := wsX3_planByLikeness) B.pre, B.notSynchronized, hE⟩
  cases r1 with
  | none =>
    have hl := lv_entry ([.ref t, va_rf none]) (n := 3) (Nat.le_of_ble_eq_true rfl)
    rw [lg_entry_eq]
    exact oX3_planByLikeness_0 CX none σ _ _ _ h hM va_S.rf hl
  | some a0 =>
    have hl := lv_entry ([.ref t, va_rf (some a0)]) (n := 3) (Nat.le_of_ble_eq_true rfl)
    rw [lg_entry_eq]
    exact oX3_planByLikeness_0 CX (some a0) σ _ _ _ h hM va_S.rf hl
/-! WorkCoder.plan(LWorkCoder$Item;)V -/
abbrev rmX3_plan : Room := { frames := 5, cells := 0, slots := 0, locals := 119 }
section S_X3_plan
variable {p : Program} {l : Launch} {e : Env} {s : State} {m : MethodId} {args : Array Value} {below : List Frame} {meth : Method} {c : Code} {D : va_G} {cs : CS} {A : Nat → Prop}
set_option maxHeartbeats 4000000 in
set_option maxRecDepth 100000 in
theorem oX3_plan_0 {k : MM → Prop} {t : Nat} (CX : CXM p s m args meth c cX3_plan 3 none "plan" RX3 wsX3_plan D cs A) : ∀ (r1 : Option Nat) (σ : MM) (H : Heap) (locs : List Loc) (ls : Array Slot), wX3_plan t r1 σ k → PH D cs A σ H → va_S A s.heap H locs → lv_has ls 3 [(0, .ref t), (1, va_rf r1)] → W p l e (headSpec wsX3_plan rmX3_plan).room s m args below meth c H locs 0 0 (MQ below (va_Qv k (mB D cs A) A) args s 0 0 A) (F0 m 0 ls []) := by
  intro r1 σ H locs ls h hM hS hl
  have ⟨hx, hb, hml, hr, hnm, hown, hts, hlocks, hE⟩ := CX
  unfold wX3_plan at h
  refine lv_aload_n hx hb dX3_plan_0 rfl (lv_at hl 0 rfl) ?_
  refine nl_aload_n hx hb dX3_plan_1 rfl (lv_at hl 1 rfl) ?_
  refine lv_iconst (v := (-1)) hx hb dX3_plan_2 (by decide) ?_
  obtain ⟨hk_1, h⟩ := h
  refine clVi (C := RX3) (b := t) (As := [va_rf r1, .int (-1)]) (rest := []) ⟨hx, hb, hml, hown, hts⟩ hM hE hS (ok_X3_byRules l D cs A t r1 (-1) _ _ h) (cwV 2 hts gX3_plan_X3_byRules rfl rfl rfl (by decide +kernel) ⟨(Nat.le_of_ble_eq_true rfl), (Nat.le_of_ble_eq_true rfl)⟩) (rc3 hM hE.1 hk_1) rfl hl.1 rfl (Nat.le_of_ble_eq_true rfl) dX3_plan_3 ⟨(Nat.le_of_ble_eq_true rfl), (Nat.le_of_ble_eq_true rfl)⟩ (fun x_3 σ_2 H locs h1 hM hS => ?_)
  replace h := h1
  clear h1
  refine lv_istore_n (i := 2) (lv' := [(2, .int x_3), (0, .ref t), (1, va_rf r1)]) hx hb dX3_plan_6 rfl hl (by decide) (by simp [nl_cat] <;> rfl) (fun ls hl => ?_)
  refine lv_iload_n hx hb dX3_plan_7 rfl (lv_at hl 0 rfl) ?_
  refine lv_bipush (v := (-5)) hx hb dX3_plan_8 (by decide) ?_
  refine lv_icmp_ne (tgt := 23) hx hb dX3_plan_10 (by decide) (fun hc => ?_) (fun hc => ?_)
  · replace h := h.1 hc
    refine lv_iload_n hx hb dX3_plan_23 rfl (lv_at hl 0 rfl) ?_
    refine lv_bipush (v := (-2)) hx hb dX3_plan_24 (by decide) ?_
    refine lv_icmp_ne (tgt := 37) hx hb dX3_plan_26 (by decide) (fun hc => ?_) (fun hc => ?_)
    · replace h := h.1 hc
      refine nl_aload_n hx hb dX3_plan_37 rfl (lv_at hl 2 rfl) ?_
      refine lv_iload_n hx hb dX3_plan_38 rfl (lv_at hl 0 rfl) ?_
      refine lv_iconst (v := 0) hx hb dX3_plan_39 (by decide) ?_
      refine lv_aload_n hx hb dX3_plan_40 rfl (lv_at hl 1 rfl) ?_
      refine nl_aload_n hx hb dX3_plan_41 rfl (lv_at hl 2 rfl) ?_
      refine lv_iconst (v := (-1)) hx hb dX3_plan_42 (by decide) ?_
      obtain ⟨hk_4, h⟩ := h
      refine clVi (C := RX3) (b := t) (As := [va_rf r1, .int (-1)]) (rest := [.int 0, .int x_3, va_rf r1]) ⟨hx, hb, hml, hown, hts⟩ hM hE hS (ok_X3_leaderFor l D cs A t r1 (-1) _ _ h) (cwV 2 hts gX3_plan_X3_leaderFor rfl rfl rfl (by decide +kernel) ⟨(Nat.le_of_ble_eq_true rfl), (Nat.le_of_ble_eq_true rfl)⟩) (rc3 hM hE.1 hk_4) rfl hl.1 rfl (cat_le (Nat.le_of_ble_eq_true rfl)) dX3_plan_43 ⟨(Nat.le_of_ble_eq_true rfl), (Nat.le_of_ble_eq_true rfl)⟩ (fun x_6 σ_5 H locs h1 hM hS => ?_)
      replace h := h1
      clear h1
      obtain ⟨a_7, rfl, h⟩ := h
      obtain ⟨hk_8, h⟩ := h
      refine clVv (C := RX0) (b := a_7) (As := [.int x_3, .int 0, .int x_6]) (rest := []) ⟨hx, hb, hml, hown, hts⟩ hM hE hS (ok_X0_plan l D cs A a_7 x_3 0 x_6 _ _ h) (cwV 3 hts gX3_plan_X0_plan rfl rfl rfl (by decide +kernel) ⟨(Nat.le_of_ble_eq_true rfl), (Nat.le_of_ble_eq_true rfl)⟩) (rc0 hM hE.1 hk_8) rfl hl.1 rfl (Nat.le_of_ble_eq_true rfl) dX3_plan_46 ⟨(Nat.le_of_ble_eq_true rfl), (Nat.le_of_ble_eq_true rfl)⟩ (fun σ_9 H locs h1 hM hS => ?_)
      replace h := h1
      clear h1
      exact W.vret hx hb hr (fun t_ ht hW => ⟨⟨_, rfl, h, mB_of ht hM⟩, hS.F ht⟩) hS.2.2 dX3_plan_49
    · replace h := h.2 hc
      refine lv_aload_n hx hb dX3_plan_29 rfl (lv_at hl 1 rfl) ?_
      refine nl_aload_n hx hb dX3_plan_30 rfl (lv_at hl 2 rfl) ?_
      obtain ⟨hk_11, h⟩ := h
      refine clVv (C := RX3) (b := t) (As := [va_rf r1]) (rest := []) ⟨hx, hb, hml, hown, hts⟩ hM hE hS (ok_X3_planByLikeness l D cs A t r1 _ _ h) (cwV 1 hts gX3_plan_X3_planByLikeness rfl rfl rfl (by decide +kernel) ⟨(Nat.le_of_ble_eq_true rfl), (Nat.le_of_ble_eq_true rfl)⟩) (rc3 hM hE.1 hk_11) rfl hl.1 rfl (Nat.le_of_ble_eq_true rfl) dX3_plan_31 ⟨(Nat.le_of_ble_eq_true rfl), (Nat.le_of_ble_eq_true rfl)⟩ (fun σ_12 H locs h1 hM hS => ?_)
      replace h := h1
      clear h1
      refine lv_goto (tgt := 49) hx hb dX3_plan_34 (by decide) ?_
      exact W.vret hx hb hr (fun t_ ht hW => ⟨⟨_, rfl, h, mB_of ht hM⟩, hS.F ht⟩) hS.2.2 dX3_plan_49
  · replace h := h.2 hc
    refine nl_aload_n hx hb dX3_plan_13 rfl (lv_at hl 2 rfl) ?_
    refine lv_iconst (v := (-1)) hx hb dX3_plan_14 (by decide) ?_
    refine lv_iconst (v := (-1)) hx hb dX3_plan_15 (by decide) ?_
    refine lv_iconst (v := (-1)) hx hb dX3_plan_16 (by decide) ?_
    obtain ⟨a_14, rfl, h⟩ := h
    obtain ⟨hk_15, h⟩ := h
    refine clVv (C := RX0) (b := a_14) (As := [.int (-1), .int (-1), .int (-1)]) (rest := []) ⟨hx, hb, hml, hown, hts⟩ hM hE hS (ok_X0_plan l D cs A a_14 (-1) (-1) (-1) _ _ h) (cwV 3 hts gX3_plan_X0_plan rfl rfl rfl (by decide +kernel) ⟨(Nat.le_of_ble_eq_true rfl), (Nat.le_of_ble_eq_true rfl)⟩) (rc0 hM hE.1 hk_15) rfl hl.1 rfl (Nat.le_of_ble_eq_true rfl) dX3_plan_17 ⟨(Nat.le_of_ble_eq_true rfl), (Nat.le_of_ble_eq_true rfl)⟩ (fun σ_16 H locs h1 hM hS => ?_)
    replace h := h1
    clear h1
    refine lv_goto (tgt := 49) hx hb dX3_plan_20 (by decide) ?_
    exact W.vret hx hb hr (fun t_ ht hW => ⟨⟨_, rfl, h, mB_of ht hM⟩, hS.F ht⟩) hS.2.2 dX3_plan_49
end S_X3_plan
set_option maxHeartbeats 4000000 in
set_option maxRecDepth 100000 in
theorem ok_X3_plan (l : Launch) (D : va_G) (cs : CS) (A : Nat → Prop) (t : Nat) (r1 : Option Nat) (σ : MM) (k : MM → Prop) (h : wX3_plan t r1 σ k) : Met l yX3_plan wsX3_plan rmX3_plan (va_Pc [.ref t, va_rf r1] (mP D cs A σ)) (va_Qv k (mB D cs A) A) 0 0 A := by
  refine Met.ofW (cc := cX3_plan) (maxL := 3) (ret := none) (by decide) rfl ?_
  intro p e s m args below meth c s₁ B hml hv
  obtain ⟨rfl, hM, hE⟩ := hv
  have CX : CXM p s m _ meth c cX3_plan 3 none "plan" RX3 wsX3_plan D cs A := ⟨B.exec, B.bytes, hml, B.returns, (name_of_methodNamed B.named B.method).1, findClass_of_methodNamed B.named, atoms_spec (ws := wsX3_plan) B.pre, B.notSynchronized, hE⟩
  cases r1 with
  | none =>
    have hl := lv_entry ([.ref t, va_rf none]) (n := 3) (Nat.le_of_ble_eq_true rfl)
    rw [lg_entry_eq]
    exact oX3_plan_0 CX none σ _ _ _ h hM va_S.rf hl
  | some a0 =>
    have hl := lv_entry ([.ref t, va_rf (some a0)]) (n := 3) (Nat.le_of_ble_eq_true rfl)
    rw [lg_entry_eq]
    exact oX3_plan_0 CX (some a0) σ _ _ _ h hM va_S.rf hl
/-! WorkCoder.day()I -/
abbrev rmX3_day : Room := { frames := 6, cells := 0, slots := 0, locals := 141 }
theorem inX3_day_3 : ∀ w ∈ wsX30, w ∈ wsX3_day := fun _ h => List.mem_cons_of_mem _ (List.mem_append_left _ (List.mem_append_left _ (List.mem_append_left _ (List.mem_append_right _ (h)))))
section S_X3_day
variable {p : Program} {l : Launch} {e : Env} {s : State} {m : MethodId} {args : Array Value} {below : List Frame} {meth : Method} {c : Code} {D : va_G} {cs : CS} {A : Nat → Prop}
set_option maxHeartbeats 4000000 in
set_option maxRecDepth 100000 in
theorem oX3_day_43 {k : Int32 → MM → Prop} {t : Nat} (CX : CXM p s m args meth c cX3_day 3 (some .int) "day" RX3 wsX3_day D cs A) : ∀ (n : Nat), ∀ (x1 : Int32) (x2 : Int32) (σ : MM) (H : Heap) (locs : List Loc) (ls : Array Slot), wX3_day_43 k t  n x1 x2 σ → PH D cs A σ H → va_S A s.heap H locs → lv_has ls 3 [(0, .ref t), (1, .int x1), (2, .int x2)] → W p l e (headSpec wsX3_day rmX3_day).room s m args below meth c H locs 0 0 (MQ below (va_Qi k (mB D cs A) A) args s 0 0 A) (F0 m 43 ls []) := by
  intro n
  induction n with
  | zero => intro x1 x2 σ H locs ls h; exact h.elim
  | succ n ih =>
    intro x1 x2 σ H locs ls h hM hS hl
    have ⟨hx, hb, hml, hr, hnm, hown, hts, hlocks, hE⟩ := CX
    unfold wX3_day_43 at h
    refine lv_iload_n hx hb dX3_day_43 rfl (lv_at hl 2 rfl) ?_
    refine lv_aload_n hx hb dX3_day_44 rfl (lv_at hl 0 rfl) ?_
    obtain ⟨hk_1, h⟩ := h
    refine gf3_5 hx hb hts inX3_day_3 hown hE.1 hM hk_1 (hts (.fieldLink RX3 34 "WorkCoder" "items" "[LWorkCoder$Item;") (by decide +kernel)) dX3_day_45 (fun r_2 er_2 => ?_)
    replace h := h r_2 er_2
    clear er_2
    obtain ⟨a_3, rfl, h⟩ := h
    obtain ⟨hk_4, h⟩ := h
    refine mm_alen9 hx hb hE.1 hM hk_4 dX3_day_48 ?_
    refine lv_icmp_ge (tgt := 85) hx hb dX3_day_49 (by decide) (fun hc => ?_) (fun hc => ?_)
    · replace h := h.1 hc
      refine lv_iload_n hx hb dX3_day_85 rfl (lv_at hl 1 rfl) ?_
      exact W.iret (v := x1) hx hb hr (fun t_ ht hW => ⟨⟨_, _, rfl, h, mB_of ht hM⟩, hS.F ht⟩) hS.2.2 dX3_day_86
    · replace h := h.2 hc
      refine lv_aload_n hx hb dX3_day_52 rfl (lv_at hl 0 rfl) ?_
      refine gf3_5 hx hb hts inX3_day_3 hown hE.1 hM hk_1 (hts (.fieldLink RX3 34 "WorkCoder" "items" "[LWorkCoder$Item;") (by decide +kernel)) dX3_day_53 (fun r_5 er_5 => ?_)
      replace h := h r_5 er_5
      clear er_5
      refine lv_iload_n hx hb dX3_day_56 rfl (lv_at hl 2 rfl) ?_
      obtain ⟨a_6, rfl, h⟩ := h
      obtain ⟨hk_7, h⟩ := h
      obtain ⟨hv_8, h⟩ := h
      refine mm_aald9 hx hb hE.1 hM hk_7 hv_8 dX3_day_57 (fun r_9 er_9 => ?_)
      replace h := h r_9 er_9
      clear er_9
      refine clSi (As := [va_rf r_9]) (rest := []) ⟨hx, hb, hml, hown, hts⟩ hM hE hS (ok_X3_isOpen l D cs A r_9 _ _ h) (va_cwS 1 hts gX3_day_X3_isOpen rfl rfl rfl (by decide +kernel) ⟨(Nat.le_of_ble_eq_true rfl), (Nat.le_of_ble_eq_true rfl)⟩) rfl hl.1 rfl (Nat.le_of_ble_eq_true rfl) dX3_day_58 ⟨(Nat.le_of_ble_eq_true rfl), (Nat.le_of_ble_eq_true rfl)⟩ (fun x_11 σ_10 H locs h1 hM hS => ?_)
      replace h := h1
      clear h1
      refine lv_if_eq (tgt := 79) hx hb dX3_day_61 (by decide) (fun hc => ?_) (fun hc => ?_)
      · replace h := h.1 hc
        obtain ⟨x_12, ex_12⟩ : ∃ y : Int32, y = x2 + 1 := ⟨_, rfl⟩
        replace h := h x_12 ex_12
        refine lv_iinc (v := x_12) (lv' := [(2, .int x_12), (0, .ref t), (1, .int x1)]) hx hb dX3_day_79 hl (k := 2) rfl (by rw [ex_12]; rfl) (by decide) rfl (fun ls hl => ?_)
        refine lv_goto (tgt := 43) hx hb dX3_day_82 (by decide) ?_
        exact ih _ _ _ _ _ _ h hM hS (lv_sub hl [1, 2, 0] rfl)
      · replace h := h.2 hc
        refine lv_aload_n hx hb dX3_day_64 rfl (lv_at hl 0 rfl) ?_
        obtain ⟨hk_13, h⟩ := h
        refine gf3_5 hx hb hts inX3_day_3 hown hE.1 hM hk_13 (hts (.fieldLink RX3 34 "WorkCoder" "items" "[LWorkCoder$Item;") (by decide +kernel)) dX3_day_65 (fun r_14 er_14 => ?_)
        replace h := h r_14 er_14
        clear er_14
        refine lv_iload_n hx hb dX3_day_68 rfl (lv_at hl 2 rfl) ?_
        obtain ⟨a_15, rfl, h⟩ := h
        obtain ⟨hk_16, h⟩ := h
        obtain ⟨hv_17, h⟩ := h
        refine mm_aald9 hx hb hE.1 hM hk_16 hv_17 dX3_day_69 (fun r_18 er_18 => ?_)
        replace h := h r_18 er_18
        clear er_18
        obtain ⟨a_19, rfl, h⟩ := h
        obtain ⟨hk_20, h⟩ := h
        refine clVi (C := RX0) (b := a_19) (As := []) (rest := []) ⟨hx, hb, hml, hown, hts⟩ hM hE hS (ok_X0_followPlan l D cs A a_19 _ _ h) (cwV 0 hts gX3_day_X0_followPlan rfl rfl rfl (by decide +kernel) ⟨(Nat.le_of_ble_eq_true rfl), (Nat.le_of_ble_eq_true rfl)⟩) (rc0 hM hE.1 hk_20) rfl hl.1 rfl (Nat.le_of_ble_eq_true rfl) dX3_day_70 ⟨(Nat.le_of_ble_eq_true rfl), (Nat.le_of_ble_eq_true rfl)⟩ (fun x_22 σ_21 H locs h1 hM hS => ?_)
        replace h := h1
        clear h1
        refine lv_if_eq (tgt := 79) hx hb dX3_day_73 (by decide) (fun hc => ?_) (fun hc => ?_)
        · replace h := h.1 hc
          obtain ⟨x_23, ex_23⟩ : ∃ y : Int32, y = x2 + 1 := ⟨_, rfl⟩
          replace h := h x_23 ex_23
          refine lv_iinc (v := x_23) (lv' := [(2, .int x_23), (0, .ref t), (1, .int x1)]) hx hb dX3_day_79 hl (k := 2) rfl (by rw [ex_23]; rfl) (by decide) rfl (fun ls hl => ?_)
          refine lv_goto (tgt := 43) hx hb dX3_day_82 (by decide) ?_
          exact ih _ _ _ _ _ _ h hM hS (lv_sub hl [1, 2, 0] rfl)
        · replace h := h.2 hc
          obtain ⟨x_24, ex_24⟩ : ∃ y : Int32, y = x1 + 1 := ⟨_, rfl⟩
          replace h := h x_24 ex_24
          refine lv_iinc (v := x_24) (lv' := [(1, .int x_24), (0, .ref t), (2, .int x2)]) hx hb dX3_day_76 hl (k := 1) rfl (by rw [ex_24]; rfl) (by decide) rfl (fun ls hl => ?_)
          obtain ⟨x_25, ex_25⟩ : ∃ y : Int32, y = x2 + 1 := ⟨_, rfl⟩
          replace h := h x_25 ex_25
          refine lv_iinc (v := x_25) (lv' := [(2, .int x_25), (1, .int x_24), (0, .ref t)]) hx hb dX3_day_79 hl (k := 2) rfl (by rw [ex_25]; rfl) (by decide) rfl (fun ls hl => ?_)
          refine lv_goto (tgt := 43) hx hb dX3_day_82 (by decide) ?_
          exact ih _ _ _ _ _ _ h hM hS (lv_sub hl [2, 1, 0] rfl)
set_option maxHeartbeats 4000000 in
set_option maxRecDepth 100000 in
theorem oX3_day_2 {k : Int32 → MM → Prop} {t : Nat} (CX : CXM p s m args meth c cX3_day 3 (some .int) "day" RX3 wsX3_day D cs A) : ∀ (n : Nat), ∀ (x1 : Int32) (σ : MM) (H : Heap) (locs : List Loc) (ls : Array Slot), wX3_day_2 k t  n x1 σ → PH D cs A σ H → va_S A s.heap H locs → lv_has ls 3 [(0, .ref t), (1, .int x1)] → W p l e (headSpec wsX3_day rmX3_day).room s m args below meth c H locs 0 0 (MQ below (va_Qi k (mB D cs A) A) args s 0 0 A) (F0 m 2 ls []) := by
  intro n
  induction n with
  | zero => intro x1 σ H locs ls h; exact h.elim
  | succ n ih =>
    intro x1 σ H locs ls h hM hS hl
    have ⟨hx, hb, hml, hr, hnm, hown, hts, hlocks, hE⟩ := CX
    unfold wX3_day_2 at h
    refine lv_iload_n hx hb dX3_day_2 rfl (lv_at hl 1 rfl) ?_
    refine lv_aload_n hx hb dX3_day_3 rfl (lv_at hl 0 rfl) ?_
    obtain ⟨hk_1, h⟩ := h
    refine gf3_5 hx hb hts inX3_day_3 hown hE.1 hM hk_1 (hts (.fieldLink RX3 34 "WorkCoder" "items" "[LWorkCoder$Item;") (by decide +kernel)) dX3_day_4 (fun r_2 er_2 => ?_)
    replace h := h r_2 er_2
    clear er_2
    obtain ⟨a_3, rfl, h⟩ := h
    obtain ⟨hk_4, h⟩ := h
    refine mm_alen9 hx hb hE.1 hM hk_4 dX3_day_7 ?_
    refine lv_icmp_ge (tgt := 39) hx hb dX3_day_8 (by decide) (fun hc => ?_) (fun hc => ?_)
    · replace h := h.1 hc
      refine lv_iconst (v := 0) hx hb dX3_day_39 (by decide) ?_
      refine lv_istore_n (i := 1) (lv' := [(1, .int 0), (0, .ref t)]) hx hb dX3_day_40 rfl hl (by decide) rfl (fun ls hl => ?_)
      refine lv_iconst (v := 0) hx hb dX3_day_41 (by decide) ?_
      refine lv_istore_n (i := 2) (lv' := [(2, .int 0), (1, .int 0), (0, .ref t)]) hx hb dX3_day_42 rfl hl (by decide) rfl (fun ls hl => ?_)
      obtain ⟨n0, h⟩ := h
      exact oX3_day_43 CX  n0 _ _ _ _ _ _ h hM hS (lv_sub hl [2, 1, 0] rfl)
    · replace h := h.2 hc
      refine lv_aload_n hx hb dX3_day_11 rfl (lv_at hl 0 rfl) ?_
      refine gf3_5 hx hb hts inX3_day_3 hown hE.1 hM hk_1 (hts (.fieldLink RX3 34 "WorkCoder" "items" "[LWorkCoder$Item;") (by decide +kernel)) dX3_day_12 (fun r_5 er_5 => ?_)
      replace h := h r_5 er_5
      clear er_5
      refine lv_iload_n hx hb dX3_day_15 rfl (lv_at hl 1 rfl) ?_
      obtain ⟨a_6, rfl, h⟩ := h
      obtain ⟨hk_7, h⟩ := h
      obtain ⟨hv_8, h⟩ := h
      refine mm_aald9 hx hb hE.1 hM hk_7 hv_8 dX3_day_16 (fun r_9 er_9 => ?_)
      replace h := h r_9 er_9
      clear er_9
      refine clSi (As := [va_rf r_9]) (rest := []) ⟨hx, hb, hml, hown, hts⟩ hM hE hS (ok_X3_isOpen l D cs A r_9 _ _ h) (va_cwS 1 hts gX3_day_X3_isOpen rfl rfl rfl (by decide +kernel) ⟨(Nat.le_of_ble_eq_true rfl), (Nat.le_of_ble_eq_true rfl)⟩) rfl hl.1 rfl (Nat.le_of_ble_eq_true rfl) dX3_day_17 ⟨(Nat.le_of_ble_eq_true rfl), (Nat.le_of_ble_eq_true rfl)⟩ (fun x_11 σ_10 H locs h1 hM hS => ?_)
      replace h := h1
      clear h1
      refine lv_if_eq (tgt := 33) hx hb dX3_day_20 (by decide) (fun hc => ?_) (fun hc => ?_)
      · replace h := h.1 hc
        obtain ⟨x_12, ex_12⟩ : ∃ y : Int32, y = x1 + 1 := ⟨_, rfl⟩
        replace h := h x_12 ex_12
        refine lv_iinc (v := x_12) (lv' := [(1, .int x_12), (0, .ref t)]) hx hb dX3_day_33 hl (k := 1) rfl (by rw [ex_12]; rfl) (by decide) rfl (fun ls hl => ?_)
        refine lv_goto (tgt := 2) hx hb dX3_day_36 (by decide) ?_
        exact ih _ _ _ _ _ h hM hS (lv_sub hl [1, 0] rfl)
      · replace h := h.2 hc
        refine lv_aload_n hx hb dX3_day_23 rfl (lv_at hl 0 rfl) ?_
        refine lv_aload_n hx hb dX3_day_24 rfl (lv_at hl 0 rfl) ?_
        obtain ⟨hk_13, h⟩ := h
        refine gf3_5 hx hb hts inX3_day_3 hown hE.1 hM hk_13 (hts (.fieldLink RX3 34 "WorkCoder" "items" "[LWorkCoder$Item;") (by decide +kernel)) dX3_day_25 (fun r_14 er_14 => ?_)
        replace h := h r_14 er_14
        clear er_14
        refine lv_iload_n hx hb dX3_day_28 rfl (lv_at hl 1 rfl) ?_
        obtain ⟨a_15, rfl, h⟩ := h
        obtain ⟨hk_16, h⟩ := h
        obtain ⟨hv_17, h⟩ := h
        refine mm_aald9 hx hb hE.1 hM hk_16 hv_17 dX3_day_29 (fun r_18 er_18 => ?_)
        replace h := h r_18 er_18
        clear er_18
        refine clVv (C := RX3) (b := t) (As := [va_rf r_18]) (rest := []) ⟨hx, hb, hml, hown, hts⟩ hM hE hS (ok_X3_plan l D cs A t r_18 _ _ h) (cwV 1 hts gX3_day_X3_plan rfl rfl rfl (by decide +kernel) ⟨(Nat.le_of_ble_eq_true rfl), (Nat.le_of_ble_eq_true rfl)⟩) (rc3 hM hE.1 hk_13) rfl hl.1 rfl (Nat.le_of_ble_eq_true rfl) dX3_day_30 ⟨(Nat.le_of_ble_eq_true rfl), (Nat.le_of_ble_eq_true rfl)⟩ (fun σ_19 H locs h1 hM hS => ?_)
        replace h := h1
        clear h1
        obtain ⟨x_21, ex_21⟩ : ∃ y : Int32, y = x1 + 1 := ⟨_, rfl⟩
        replace h := h x_21 ex_21
        refine lv_iinc (v := x_21) (lv' := [(1, .int x_21), (0, .ref t)]) hx hb dX3_day_33 hl (k := 1) rfl (by rw [ex_21]; rfl) (by decide) rfl (fun ls hl => ?_)
        refine lv_goto (tgt := 2) hx hb dX3_day_36 (by decide) ?_
        exact ih _ _ _ _ _ h hM hS (lv_sub hl [1, 0] rfl)
set_option maxHeartbeats 4000000 in
set_option maxRecDepth 100000 in
theorem oX3_day_0 {k : Int32 → MM → Prop} {t : Nat} (CX : CXM p s m args meth c cX3_day 3 (some .int) "day" RX3 wsX3_day D cs A) : ∀ (σ : MM) (H : Heap) (locs : List Loc) (ls : Array Slot), wX3_day t σ k → PH D cs A σ H → va_S A s.heap H locs → lv_has ls 3 [(0, .ref t)] → W p l e (headSpec wsX3_day rmX3_day).room s m args below meth c H locs 0 0 (MQ below (va_Qi k (mB D cs A) A) args s 0 0 A) (F0 m 0 ls []) := by
  intro  σ H locs ls h hM hS hl
  have ⟨hx, hb, hml, hr, hnm, hown, hts, hlocks, hE⟩ := CX
  unfold wX3_day at h
  refine lv_iconst (v := 0) hx hb dX3_day_0 (by decide) ?_
  refine lv_istore_n (i := 1) (lv' := [(1, .int 0), (0, .ref t)]) hx hb dX3_day_1 rfl hl (by decide) rfl (fun ls hl => ?_)
  obtain ⟨n0, h⟩ := h
  exact oX3_day_2 CX  n0 _ _ _ _ _ h hM hS (lv_sub hl [1, 0] rfl)
end S_X3_day
set_option maxHeartbeats 4000000 in
set_option maxRecDepth 100000 in
theorem ok_X3_day (l : Launch) (D : va_G) (cs : CS) (A : Nat → Prop) (t : Nat) (σ : MM) (k : Int32 → MM → Prop) (h : wX3_day t σ k) : Met l yX3_day wsX3_day rmX3_day (va_Pc [.ref t] (mP D cs A σ)) (va_Qi k (mB D cs A) A) 0 0 A := by
  refine Met.ofW (cc := cX3_day) (maxL := 3) (ret := (some .int)) (by decide) rfl ?_
  intro p e s m args below meth c s₁ B hml hv
  obtain ⟨rfl, hM, hE⟩ := hv
  have CX : CXM p s m _ meth c cX3_day 3 (some .int) "day" RX3 wsX3_day D cs A := ⟨B.exec, B.bytes, hml, B.returns, (name_of_methodNamed B.named B.method).1, findClass_of_methodNamed B.named, atoms_spec (ws := wsX3_day) B.pre, B.notSynchronized, hE⟩
  have hl := lv_entry ([.ref t]) (n := 3) (Nat.le_of_ble_eq_true rfl)
  rw [lg_entry_eq]
  exact oX3_day_0 CX  σ _ _ _ h hM va_S.rf hl
/-! WorkCoder.isInDoubt(LWorkCoder$Item;)Z -/
abbrev rmX3_isInDoubt : Room := { frames := 0, cells := 0, slots := 0, locals := 0 }
theorem inX3_isInDoubt_0 : ∀ w ∈ wsX00, w ∈ wsX3_isInDoubt := fun _ h => List.mem_cons_of_mem _ (List.mem_append_right _ (h))
section S_X3_isInDoubt
variable {p : Program} {l : Launch} {e : Env} {s : State} {m : MethodId} {args : Array Value} {below : List Frame} {meth : Method} {c : Code} {D : va_G} {cs : CS} {A : Nat → Prop}
set_option maxHeartbeats 4000000 in
set_option maxRecDepth 100000 in
theorem oX3_isInDoubt_0 {k : Int32 → MM → Prop} (CX : CXM p s m args meth c cX3_isInDoubt 1 (some .boolean) "isInDoubt" RX3 wsX3_isInDoubt D cs A) : ∀ (r0 : Option Nat) (σ : MM) (H : Heap) (locs : List Loc) (ls : Array Slot), wX3_isInDoubt r0 σ k → PH D cs A σ H → va_S A s.heap H locs → lv_has ls 1 [(0, va_rf r0)] → W p l e (headSpec wsX3_isInDoubt rmX3_isInDoubt).room s m args below meth c H locs 0 0 (MQ below (va_Qi k (mB D cs A) A) args s 0 0 A) (F0 m 0 ls []) := by
  intro r0 σ H locs ls h hM hS hl
  have ⟨hx, hb, hml, hr, hnm, hown, hts, hlocks, hE⟩ := CX
  unfold wX3_isInDoubt at h
  refine nl_aload_n hx hb dX3_isInDoubt_0 rfl (lv_at hl 0 rfl) ?_
  refine nl_ifnull (tgt := 16) hx hb dX3_isInDoubt_1 (by decide) (fun hn => ?_) (fun a_1 hn => ?_)
  · replace h := h.1 hn
    subst hn
    refine lv_iconst (v := 0) hx hb dX3_isInDoubt_16 (by decide) ?_
    exact W.zret (v := 0) (ty := .boolean) hx hb hr rfl (fun t_ ht hW => ⟨⟨_, _, rfl, h, mB_of ht hM⟩, hS.F ht⟩) hS.2.2 dX3_isInDoubt_17
  · replace h := h.2 a_1 hn
    subst hn
    refine lv_aload_n hx hb dX3_isInDoubt_4 rfl (lv_at hl 0 rfl) ?_
    obtain ⟨hk_2, h⟩ := h
    refine gf0_4 hx hb hts inX3_isInDoubt_0 hown hE.1 hM hk_2 (hts (.fieldLink RX3 107 "WorkCoder$Item" "state" "I") (by decide +kernel)) dX3_isInDoubt_5 ?_
    refine lv_iconst (v := 2) hx hb dX3_isInDoubt_8 (by decide) ?_
    refine lv_icmp_ne (tgt := 16) hx hb dX3_isInDoubt_9 (by decide) (fun hc => ?_) (fun hc => ?_)
    · replace h := h.1 hc
      refine lv_iconst (v := 0) hx hb dX3_isInDoubt_16 (by decide) ?_
      exact W.zret (v := 0) (ty := .boolean) hx hb hr rfl (fun t_ ht hW => ⟨⟨_, _, rfl, h, mB_of ht hM⟩, hS.F ht⟩) hS.2.2 dX3_isInDoubt_17
    · replace h := h.2 hc
      refine lv_iconst (v := 1) hx hb dX3_isInDoubt_12 (by decide) ?_
      refine lv_goto (tgt := 17) hx hb dX3_isInDoubt_13 (by decide) ?_
      exact W.zret (v := 1) (ty := .boolean) hx hb hr rfl (fun t_ ht hW => ⟨⟨_, _, rfl, h, mB_of ht hM⟩, hS.F ht⟩) hS.2.2 dX3_isInDoubt_17
end S_X3_isInDoubt
set_option maxHeartbeats 4000000 in
set_option maxRecDepth 100000 in
theorem ok_X3_isInDoubt (l : Launch) (D : va_G) (cs : CS) (A : Nat → Prop) (r0 : Option Nat) (σ : MM) (k : Int32 → MM → Prop) (h : wX3_isInDoubt r0 σ k) : Met l yX3_isInDoubt wsX3_isInDoubt rmX3_isInDoubt (va_Pc [va_rf r0] (mP D cs A σ)) (va_Qi k (mB D cs A) A) 0 0 A := by
  refine Met.ofW (cc := cX3_isInDoubt) (maxL := 1) (ret := (some .boolean)) (by decide) rfl ?_
  intro p e s m args below meth c s₁ B hml hv
  obtain ⟨rfl, hM, hE⟩ := hv
  have CX : CXM p s m _ meth c cX3_isInDoubt 1 (some .boolean) "isInDoubt" RX3 wsX3_isInDoubt D cs A := ⟨B.exec, B.bytes, hml, B.returns, (name_of_methodNamed B.named B.method).1, findClass_of_methodNamed B.named, atoms_spec (ws := wsX3_isInDoubt) B.pre, B.notSynchronized, hE⟩
  cases r0 with
  | none =>
    have hl := lv_entry ([va_rf none]) (n := 1) (Nat.le_of_ble_eq_true rfl)
    rw [lg_entry_eq]
    exact oX3_isInDoubt_0 CX none σ _ _ _ h hM va_S.rf hl
  | some a0 =>
    have hl := lv_entry ([va_rf (some a0)]) (n := 1) (Nat.le_of_ble_eq_true rfl)
    rw [lg_entry_eq]
    exact oX3_isInDoubt_0 CX (some a0) σ _ _ _ h hM va_S.rf hl
/-! WorkCoder.countDoubtsAlike(LWorkCoder$Item;)I -/
abbrev rmX3_countDoubtsAlike : Room := { frames := 1, cells := 0, slots := 0, locals := 21 }
theorem inX3_countDoubtsAlike_3 : ∀ w ∈ wsX30, w ∈ wsX3_countDoubtsAlike := fun _ h => List.mem_cons_of_mem _ (List.mem_append_left _ (List.mem_append_right _ (h)))
section S_X3_countDoubtsAlike
variable {p : Program} {l : Launch} {e : Env} {s : State} {m : MethodId} {args : Array Value} {below : List Frame} {meth : Method} {c : Code} {D : va_G} {cs : CS} {A : Nat → Prop}
set_option maxHeartbeats 4000000 in
set_option maxRecDepth 100000 in
theorem oX3_countDoubtsAlike_4 {k : Int32 → MM → Prop} {t : Nat} (CX : CXM p s m args meth c cX3_countDoubtsAlike 4 (some .int) "countDoubtsAlike" RX3 wsX3_countDoubtsAlike D cs A) : ∀ (n : Nat), ∀ (r1 : Option Nat) (x2 : Int32) (x3 : Int32) (σ : MM) (H : Heap) (locs : List Loc) (ls : Array Slot), wX3_countDoubtsAlike_4 k t  n r1 x2 x3 σ → PH D cs A σ H → va_S A s.heap H locs → lv_has ls 4 [(0, .ref t), (1, va_rf r1), (2, .int x2), (3, .int x3)] → W p l e (headSpec wsX3_countDoubtsAlike rmX3_countDoubtsAlike).room s m args below meth c H locs 0 0 (MQ below (va_Qi k (mB D cs A) A) args s 0 0 A) (F0 m 4 ls []) := by
  intro n
  induction n with
  | zero => intro r1 x2 x3 σ H locs ls h; exact h.elim
  | succ n ih =>
    intro r1 x2 x3 σ H locs ls h hM hS hl
    have ⟨hx, hb, hml, hr, hnm, hown, hts, hlocks, hE⟩ := CX
    unfold wX3_countDoubtsAlike_4 at h
    refine lv_iload_n hx hb dX3_countDoubtsAlike_4 rfl (lv_at hl 3 rfl) ?_
    refine lv_aload_n hx hb dX3_countDoubtsAlike_5 rfl (lv_at hl 0 rfl) ?_
    obtain ⟨hk_1, h⟩ := h
    refine gf3_5 hx hb hts inX3_countDoubtsAlike_3 hown hE.1 hM hk_1 (hts (.fieldLink RX3 34 "WorkCoder" "items" "[LWorkCoder$Item;") (by decide +kernel)) dX3_countDoubtsAlike_6 (fun r_2 er_2 => ?_)
    replace h := h r_2 er_2
    clear er_2
    obtain ⟨a_3, rfl, h⟩ := h
    obtain ⟨hk_4, h⟩ := h
    refine mm_alen9 hx hb hE.1 hM hk_4 dX3_countDoubtsAlike_9 ?_
    refine lv_icmp_ge (tgt := 47) hx hb dX3_countDoubtsAlike_10 (by decide) (fun hc => ?_) (fun hc => ?_)
    · replace h := h.1 hc
      refine lv_iload_n hx hb dX3_countDoubtsAlike_47 rfl (lv_at hl 2 rfl) ?_
      exact W.iret (v := x2) hx hb hr (fun t_ ht hW => ⟨⟨_, _, rfl, h, mB_of ht hM⟩, hS.F ht⟩) hS.2.2 dX3_countDoubtsAlike_48
    · replace h := h.2 hc
      refine lv_aload_n hx hb dX3_countDoubtsAlike_13 rfl (lv_at hl 0 rfl) ?_
      refine gf3_5 hx hb hts inX3_countDoubtsAlike_3 hown hE.1 hM hk_1 (hts (.fieldLink RX3 34 "WorkCoder" "items" "[LWorkCoder$Item;") (by decide +kernel)) dX3_countDoubtsAlike_14 (fun r_5 er_5 => ?_)
      replace h := h r_5 er_5
      clear er_5
      refine lv_iload_n hx hb dX3_countDoubtsAlike_17 rfl (lv_at hl 3 rfl) ?_
      obtain ⟨a_6, rfl, h⟩ := h
      obtain ⟨hk_7, h⟩ := h
      obtain ⟨hv_8, h⟩ := h
      refine mm_aald9 hx hb hE.1 hM hk_7 hv_8 dX3_countDoubtsAlike_18 (fun r_9 er_9 => ?_)
      replace h := h r_9 er_9
      clear er_9
      refine clSi (As := [va_rf r_9]) (rest := []) ⟨hx, hb, hml, hown, hts⟩ hM hE hS (ok_X3_isInDoubt l D cs A r_9 _ _ h) (va_cwS 1 hts gX3_countDoubtsAlike_X3_isInDoubt rfl rfl rfl (by decide +kernel) ⟨(Nat.le_of_ble_eq_true rfl), (Nat.le_of_ble_eq_true rfl)⟩) rfl hl.1 rfl (Nat.le_of_ble_eq_true rfl) dX3_countDoubtsAlike_19 ⟨(Nat.le_of_ble_eq_true rfl), (Nat.le_of_ble_eq_true rfl)⟩ (fun x_11 σ_10 H locs h1 hM hS => ?_)
      replace h := h1
      clear h1
      refine lv_if_eq (tgt := 41) hx hb dX3_countDoubtsAlike_22 (by decide) (fun hc => ?_) (fun hc => ?_)
      · replace h := h.1 hc
        obtain ⟨x_12, ex_12⟩ : ∃ y : Int32, y = x3 + 1 := ⟨_, rfl⟩
        replace h := h x_12 ex_12
        refine lv_iinc (v := x_12) (lv' := [(3, .int x_12), (0, .ref t), (1, va_rf r1), (2, .int x2)]) hx hb dX3_countDoubtsAlike_41 hl (k := 3) rfl (by rw [ex_12]; rfl) (by decide) rfl (fun ls hl => ?_)
        refine lv_goto (tgt := 4) hx hb dX3_countDoubtsAlike_44 (by decide) ?_
        exact ih _ _ _ _ _ _ _ h hM hS (lv_sub hl [1, 2, 3, 0] rfl)
      · replace h := h.2 hc
        refine nl_aload_n hx hb dX3_countDoubtsAlike_25 rfl (lv_at hl 1 rfl) ?_
        refine lv_aload_n hx hb dX3_countDoubtsAlike_26 rfl (lv_at hl 0 rfl) ?_
        obtain ⟨hk_13, h⟩ := h
        refine gf3_5 hx hb hts inX3_countDoubtsAlike_3 hown hE.1 hM hk_13 (hts (.fieldLink RX3 34 "WorkCoder" "items" "[LWorkCoder$Item;") (by decide +kernel)) dX3_countDoubtsAlike_27 (fun r_14 er_14 => ?_)
        replace h := h r_14 er_14
        clear er_14
        refine lv_iload_n hx hb dX3_countDoubtsAlike_30 rfl (lv_at hl 3 rfl) ?_
        obtain ⟨a_15, rfl, h⟩ := h
        obtain ⟨hk_16, h⟩ := h
        obtain ⟨hv_17, h⟩ := h
        refine mm_aald9 hx hb hE.1 hM hk_16 hv_17 dX3_countDoubtsAlike_31 (fun r_18 er_18 => ?_)
        replace h := h r_18 er_18
        clear er_18
        obtain ⟨a_19, rfl, h⟩ := h
        obtain ⟨hk_20, h⟩ := h
        refine clVi (C := RX0) (b := a_19) (As := [va_rf r_18]) (rest := []) ⟨hx, hb, hml, hown, hts⟩ hM hE hS (ok_X0_isAlike l D cs A a_19 r_18 _ _ h) (cwV 1 hts gX3_countDoubtsAlike_X0_isAlike rfl rfl rfl (by decide +kernel) ⟨(Nat.le_of_ble_eq_true rfl), (Nat.le_of_ble_eq_true rfl)⟩) (rc0 hM hE.1 hk_20) rfl hl.1 rfl (Nat.le_of_ble_eq_true rfl) dX3_countDoubtsAlike_32 ⟨(Nat.le_of_ble_eq_true rfl), (Nat.le_of_ble_eq_true rfl)⟩ (fun x_22 σ_21 H locs h1 hM hS => ?_)
        replace h := h1
        clear h1
        refine lv_if_eq (tgt := 41) hx hb dX3_countDoubtsAlike_35 (by decide) (fun hc => ?_) (fun hc => ?_)
        · replace h := h.1 hc
          obtain ⟨x_23, ex_23⟩ : ∃ y : Int32, y = x3 + 1 := ⟨_, rfl⟩
          replace h := h x_23 ex_23
          refine lv_iinc (v := x_23) (lv' := [(3, .int x_23), (0, .ref t), (1, .ref a_19), (2, .int x2)]) hx hb dX3_countDoubtsAlike_41 hl (k := 3) rfl (by rw [ex_23]; rfl) (by decide) rfl (fun ls hl => ?_)
          refine lv_goto (tgt := 4) hx hb dX3_countDoubtsAlike_44 (by decide) ?_
          exact ih _ _ _ _ _ _ _ h hM hS (lv_sub hl [1, 2, 3, 0] rfl)
        · replace h := h.2 hc
          obtain ⟨x_24, ex_24⟩ : ∃ y : Int32, y = x2 + 1 := ⟨_, rfl⟩
          replace h := h x_24 ex_24
          refine lv_iinc (v := x_24) (lv' := [(2, .int x_24), (0, .ref t), (1, .ref a_19), (3, .int x3)]) hx hb dX3_countDoubtsAlike_38 hl (k := 2) rfl (by rw [ex_24]; rfl) (by decide) rfl (fun ls hl => ?_)
          obtain ⟨x_25, ex_25⟩ : ∃ y : Int32, y = x3 + 1 := ⟨_, rfl⟩
          replace h := h x_25 ex_25
          refine lv_iinc (v := x_25) (lv' := [(3, .int x_25), (2, .int x_24), (0, .ref t), (1, .ref a_19)]) hx hb dX3_countDoubtsAlike_41 hl (k := 3) rfl (by rw [ex_25]; rfl) (by decide) rfl (fun ls hl => ?_)
          refine lv_goto (tgt := 4) hx hb dX3_countDoubtsAlike_44 (by decide) ?_
          exact ih _ _ _ _ _ _ _ h hM hS (lv_sub hl [2, 3, 1, 0] rfl)
set_option maxHeartbeats 4000000 in
set_option maxRecDepth 100000 in
theorem oX3_countDoubtsAlike_0 {k : Int32 → MM → Prop} {t : Nat} (CX : CXM p s m args meth c cX3_countDoubtsAlike 4 (some .int) "countDoubtsAlike" RX3 wsX3_countDoubtsAlike D cs A) : ∀ (r1 : Option Nat) (σ : MM) (H : Heap) (locs : List Loc) (ls : Array Slot), wX3_countDoubtsAlike t r1 σ k → PH D cs A σ H → va_S A s.heap H locs → lv_has ls 4 [(0, .ref t), (1, va_rf r1)] → W p l e (headSpec wsX3_countDoubtsAlike rmX3_countDoubtsAlike).room s m args below meth c H locs 0 0 (MQ below (va_Qi k (mB D cs A) A) args s 0 0 A) (F0 m 0 ls []) := by
  intro r1 σ H locs ls h hM hS hl
  have ⟨hx, hb, hml, hr, hnm, hown, hts, hlocks, hE⟩ := CX
  unfold wX3_countDoubtsAlike at h
  refine lv_iconst (v := 0) hx hb dX3_countDoubtsAlike_0 (by decide) ?_
  refine lv_istore_n (i := 2) (lv' := [(2, .int 0), (0, .ref t), (1, va_rf r1)]) hx hb dX3_countDoubtsAlike_1 rfl hl (by decide) (by simp [nl_cat] <;> rfl) (fun ls hl => ?_)
  refine lv_iconst (v := 0) hx hb dX3_countDoubtsAlike_2 (by decide) ?_
  refine lv_istore_n (i := 3) (lv' := [(3, .int 0), (2, .int 0), (0, .ref t), (1, va_rf r1)]) hx hb dX3_countDoubtsAlike_3 rfl hl (by decide) rfl (fun ls hl => ?_)
  obtain ⟨n0, h⟩ := h
  exact oX3_countDoubtsAlike_4 CX  n0 _ _ _ _ _ _ _ h hM hS (lv_sub hl [2, 3, 1, 0] rfl)
end S_X3_countDoubtsAlike
set_option maxHeartbeats 4000000 in
set_option maxRecDepth 100000 in
theorem ok_X3_countDoubtsAlike (l : Launch) (D : va_G) (cs : CS) (A : Nat → Prop) (t : Nat) (r1 : Option Nat) (σ : MM) (k : Int32 → MM → Prop) (h : wX3_countDoubtsAlike t r1 σ k) : Met l yX3_countDoubtsAlike wsX3_countDoubtsAlike rmX3_countDoubtsAlike (va_Pc [.ref t, va_rf r1] (mP D cs A σ)) (va_Qi k (mB D cs A) A) 0 0 A := by
  refine Met.ofW (cc := cX3_countDoubtsAlike) (maxL := 4) (ret := (some .int)) (by decide) rfl ?_
  intro p e s m args below meth c s₁ B hml hv
  obtain ⟨rfl, hM, hE⟩ := hv
  have CX : CXM p s m _ meth c cX3_countDoubtsAlike 4 (some .int) "countDoubtsAlike" RX3 wsX3_countDoubtsAlike D cs A := ⟨B.exec, B.bytes, hml, B.returns, (name_of_methodNamed B.named B.method).1, findClass_of_methodNamed B.named, atoms_spec (ws := wsX3_countDoubtsAlike) B.pre, B.notSynchronized, hE⟩
  cases r1 with
  | none =>
    have hl := lv_entry ([.ref t, va_rf none]) (n := 4) (Nat.le_of_ble_eq_true rfl)
    rw [lg_entry_eq]
    exact oX3_countDoubtsAlike_0 CX none σ _ _ _ h hM va_S.rf hl
  | some a0 =>
    have hl := lv_entry ([.ref t, va_rf (some a0)]) (n := 4) (Nat.le_of_ble_eq_true rfl)
    rw [lg_entry_eq]
    exact oX3_countDoubtsAlike_0 CX (some a0) σ _ _ _ h hM va_S.rf hl
/-! WorkCoder.first()I -/
abbrev rmX3_first : Room := { frames := 2, cells := 0, slots := 0, locals := 44 }
theorem inX3_first_3 : ∀ w ∈ wsX30, w ∈ wsX3_first := fun _ h => List.mem_cons_of_mem _ (List.mem_append_left _ (List.mem_append_right _ (h)))
section S_X3_first
variable {p : Program} {l : Launch} {e : Env} {s : State} {m : MethodId} {args : Array Value} {below : List Frame} {meth : Method} {c : Code} {D : va_G} {cs : CS} {A : Nat → Prop}
set_option maxHeartbeats 4000000 in
set_option maxRecDepth 100000 in
theorem oX3_first_7 {k : Int32 → MM → Prop} {t : Nat} (CX : CXM p s m args meth c cX3_first 5 (some .int) "first" RX3 wsX3_first D cs A) : ∀ (n : Nat), ∀ (x1 : Int32) (x2 : Int32) (x3 : Int32) (σ : MM) (H : Heap) (locs : List Loc) (ls : Array Slot), wX3_first_7 k t  n x1 x2 x3 σ → PH D cs A σ H → va_S A s.heap H locs → lv_has ls 5 [(0, .ref t), (1, .int x1), (2, .int x2), (3, .int x3)] → W p l e (headSpec wsX3_first rmX3_first).room s m args below meth c H locs 0 0 (MQ below (va_Qi k (mB D cs A) A) args s 0 0 A) (F0 m 7 ls []) := by
  intro n
  induction n with
  | zero => intro x1 x2 x3 σ H locs ls h; exact h.elim
  | succ n ih =>
    intro x1 x2 x3 σ H locs ls h hM hS hl
    have ⟨hx, hb, hml, hr, hnm, hown, hts, hlocks, hE⟩ := CX
    unfold wX3_first_7 at h
    refine lv_iload_n hx hb dX3_first_7 rfl (lv_at hl 3 rfl) ?_
    refine lv_aload_n hx hb dX3_first_8 rfl (lv_at hl 0 rfl) ?_
    obtain ⟨hk_1, h⟩ := h
    refine gf3_5 hx hb hts inX3_first_3 hown hE.1 hM hk_1 (hts (.fieldLink RX3 34 "WorkCoder" "items" "[LWorkCoder$Item;") (by decide +kernel)) dX3_first_9 (fun r_2 er_2 => ?_)
    replace h := h r_2 er_2
    clear er_2
    obtain ⟨a_3, rfl, h⟩ := h
    obtain ⟨hk_4, h⟩ := h
    refine mm_alen9 hx hb hE.1 hM hk_4 dX3_first_12 ?_
    refine lv_icmp_ge (tgt := 57) hx hb dX3_first_13 (by decide) (fun hc => ?_) (fun hc => ?_)
    · replace h := h.1 hc
      refine lv_iload_n hx hb dX3_first_57 rfl (lv_at hl 1 rfl) ?_
      exact W.iret (v := x1) hx hb hr (fun t_ ht hW => ⟨⟨_, _, rfl, h, mB_of ht hM⟩, hS.F ht⟩) hS.2.2 dX3_first_58
    · replace h := h.2 hc
      refine lv_aload_n hx hb dX3_first_16 rfl (lv_at hl 0 rfl) ?_
      refine gf3_5 hx hb hts inX3_first_3 hown hE.1 hM hk_1 (hts (.fieldLink RX3 34 "WorkCoder" "items" "[LWorkCoder$Item;") (by decide +kernel)) dX3_first_17 (fun r_5 er_5 => ?_)
      replace h := h r_5 er_5
      clear er_5
      refine lv_iload_n hx hb dX3_first_20 rfl (lv_at hl 3 rfl) ?_
      obtain ⟨a_6, rfl, h⟩ := h
      obtain ⟨hk_7, h⟩ := h
      obtain ⟨hv_8, h⟩ := h
      refine mm_aald9 hx hb hE.1 hM hk_7 hv_8 dX3_first_21 (fun r_9 er_9 => ?_)
      replace h := h r_9 er_9
      clear er_9
      refine clSi (As := [va_rf r_9]) (rest := []) ⟨hx, hb, hml, hown, hts⟩ hM hE hS (ok_X3_isInDoubt l D cs A r_9 _ _ h) (va_cwS 1 hts gX3_first_X3_isInDoubt rfl rfl rfl (by decide +kernel) ⟨(Nat.le_of_ble_eq_true rfl), (Nat.le_of_ble_eq_true rfl)⟩) rfl hl.1 rfl (Nat.le_of_ble_eq_true rfl) dX3_first_22 ⟨(Nat.le_of_ble_eq_true rfl), (Nat.le_of_ble_eq_true rfl)⟩ (fun x_11 σ_10 H locs h1 hM hS => ?_)
      replace h := h1
      clear h1
      refine lv_if_eq (tgt := 51) hx hb dX3_first_25 (by decide) (fun hc => ?_) (fun hc => ?_)
      · replace h := h.1 hc
        obtain ⟨x_12, ex_12⟩ : ∃ y : Int32, y = x3 + 1 := ⟨_, rfl⟩
        replace h := h x_12 ex_12
        refine lv_iinc (v := x_12) (lv' := [(3, .int x_12), (0, .ref t), (1, .int x1), (2, .int x2)]) hx hb dX3_first_51 hl (k := 3) rfl (by rw [ex_12]; rfl) (by decide) rfl (fun ls hl => ?_)
        refine lv_goto (tgt := 7) hx hb dX3_first_54 (by decide) ?_
        exact ih _ _ _ _ _ _ _ h hM hS (lv_sub hl [1, 2, 3, 0] rfl)
      · replace h := h.2 hc
        refine lv_aload_n hx hb dX3_first_28 rfl (lv_at hl 0 rfl) ?_
        refine lv_aload_n hx hb dX3_first_29 rfl (lv_at hl 0 rfl) ?_
        obtain ⟨hk_13, h⟩ := h
        refine gf3_5 hx hb hts inX3_first_3 hown hE.1 hM hk_13 (hts (.fieldLink RX3 34 "WorkCoder" "items" "[LWorkCoder$Item;") (by decide +kernel)) dX3_first_30 (fun r_14 er_14 => ?_)
        replace h := h r_14 er_14
        clear er_14
        refine lv_iload_n hx hb dX3_first_33 rfl (lv_at hl 3 rfl) ?_
        obtain ⟨a_15, rfl, h⟩ := h
        obtain ⟨hk_16, h⟩ := h
        obtain ⟨hv_17, h⟩ := h
        refine mm_aald9 hx hb hE.1 hM hk_16 hv_17 dX3_first_34 (fun r_18 er_18 => ?_)
        replace h := h r_18 er_18
        clear er_18
        refine clVi (C := RX3) (b := t) (As := [va_rf r_18]) (rest := []) ⟨hx, hb, hml, hown, hts⟩ hM hE hS (ok_X3_countDoubtsAlike l D cs A t r_18 _ _ h) (cwV 1 hts gX3_first_X3_countDoubtsAlike rfl rfl rfl (by decide +kernel) ⟨(Nat.le_of_ble_eq_true rfl), (Nat.le_of_ble_eq_true rfl)⟩) (rc3 hM hE.1 hk_13) rfl hl.1 rfl (Nat.le_of_ble_eq_true rfl) dX3_first_35 ⟨(Nat.le_of_ble_eq_true rfl), (Nat.le_of_ble_eq_true rfl)⟩ (fun x_20 σ_19 H locs h1 hM hS => ?_)
        replace h := h1
        clear h1
        refine lv_istore (i := 4) (lv' := [(4, .int x_20), (0, .ref t), (1, .int x1), (2, .int x2), (3, .int x3)]) hx hb dX3_first_38 hl (by decide) rfl (fun ls hl => ?_)
        refine lv_iload hx hb dX3_first_40 (lv_at hl 0 rfl) ?_
        refine lv_iload_n hx hb dX3_first_42 rfl (lv_at hl 3 rfl) ?_
        refine lv_icmp_le (tgt := 51) hx hb dX3_first_43 (by decide) (fun hc => ?_) (fun hc => ?_)
        · replace h := h.1 hc
          obtain ⟨x_21, ex_21⟩ : ∃ y : Int32, y = x3 + 1 := ⟨_, rfl⟩
          replace h := h x_21 ex_21
          refine lv_iinc (v := x_21) (lv' := [(3, .int x_21), (4, .int x_20), (0, .ref t), (1, .int x1), (2, .int x2)]) hx hb dX3_first_51 hl (k := 4) rfl (by rw [ex_21]; rfl) (by decide) rfl (fun ls hl => ?_)
          refine lv_goto (tgt := 7) hx hb dX3_first_54 (by decide) ?_
          exact ih _ _ _ _ _ _ _ h hM hS (lv_sub hl [2, 3, 4, 0] rfl)
        · replace h := h.2 hc
          refine lv_iload hx hb dX3_first_46 (lv_at hl 0 rfl) ?_
          refine lv_istore_n (i := 2) (lv' := [(2, .int x_20), (4, .int x_20), (0, .ref t), (1, .int x1), (3, .int x3)]) hx hb dX3_first_48 rfl hl (by decide) rfl (fun ls hl => ?_)
          refine lv_iload_n hx hb dX3_first_49 rfl (lv_at hl 4 rfl) ?_
          refine lv_istore_n (i := 1) (lv' := [(1, .int x3), (2, .int x_20), (4, .int x_20), (0, .ref t), (3, .int x3)]) hx hb dX3_first_50 rfl hl (by decide) rfl (fun ls hl => ?_)
          obtain ⟨x_22, ex_22⟩ : ∃ y : Int32, y = x3 + 1 := ⟨_, rfl⟩
          replace h := h x_22 ex_22
          refine lv_iinc (v := x_22) (lv' := [(3, .int x_22), (1, .int x3), (2, .int x_20), (4, .int x_20), (0, .ref t)]) hx hb dX3_first_51 hl (k := 4) rfl (by rw [ex_22]; rfl) (by decide) rfl (fun ls hl => ?_)
          refine lv_goto (tgt := 7) hx hb dX3_first_54 (by decide) ?_
          exact ih _ _ _ _ _ _ _ h hM hS (lv_sub hl [4, 1, 2, 0] rfl)
set_option maxHeartbeats 4000000 in
set_option maxRecDepth 100000 in
theorem oX3_first_0 {k : Int32 → MM → Prop} {t : Nat} (CX : CXM p s m args meth c cX3_first 5 (some .int) "first" RX3 wsX3_first D cs A) : ∀ (σ : MM) (H : Heap) (locs : List Loc) (ls : Array Slot), wX3_first t σ k → PH D cs A σ H → va_S A s.heap H locs → lv_has ls 5 [(0, .ref t)] → W p l e (headSpec wsX3_first rmX3_first).room s m args below meth c H locs 0 0 (MQ below (va_Qi k (mB D cs A) A) args s 0 0 A) (F0 m 0 ls []) := by
  intro  σ H locs ls h hM hS hl
  have ⟨hx, hb, hml, hr, hnm, hown, hts, hlocks, hE⟩ := CX
  unfold wX3_first at h
  refine lv_bipush (v := (-2)) hx hb dX3_first_0 (by decide) ?_
  refine lv_istore_n (i := 1) (lv' := [(1, .int (-2)), (0, .ref t)]) hx hb dX3_first_2 rfl hl (by decide) rfl (fun ls hl => ?_)
  refine lv_iconst (v := 0) hx hb dX3_first_3 (by decide) ?_
  refine lv_istore_n (i := 2) (lv' := [(2, .int 0), (1, .int (-2)), (0, .ref t)]) hx hb dX3_first_4 rfl hl (by decide) rfl (fun ls hl => ?_)
  refine lv_iconst (v := 0) hx hb dX3_first_5 (by decide) ?_
  refine lv_istore_n (i := 3) (lv' := [(3, .int 0), (2, .int 0), (1, .int (-2)), (0, .ref t)]) hx hb dX3_first_6 rfl hl (by decide) rfl (fun ls hl => ?_)
  obtain ⟨n0, h⟩ := h
  exact oX3_first_7 CX  n0 _ _ _ _ _ _ _ h hM hS (lv_sub hl [3, 2, 1, 0] rfl)
end S_X3_first
set_option maxHeartbeats 4000000 in
set_option maxRecDepth 100000 in
theorem ok_X3_first (l : Launch) (D : va_G) (cs : CS) (A : Nat → Prop) (t : Nat) (σ : MM) (k : Int32 → MM → Prop) (h : wX3_first t σ k) : Met l yX3_first wsX3_first rmX3_first (va_Pc [.ref t] (mP D cs A σ)) (va_Qi k (mB D cs A) A) 0 0 A := by
  refine Met.ofW (cc := cX3_first) (maxL := 5) (ret := (some .int)) (by decide) rfl ?_
  intro p e s m args below meth c s₁ B hml hv
  obtain ⟨rfl, hM, hE⟩ := hv
  have CX : CXM p s m _ meth c cX3_first 5 (some .int) "first" RX3 wsX3_first D cs A := ⟨B.exec, B.bytes, hml, B.returns, (name_of_methodNamed B.named B.method).1, findClass_of_methodNamed B.named, atoms_spec (ws := wsX3_first) B.pre, B.notSynchronized, hE⟩
  have hl := lv_entry ([.ref t]) (n := 5) (Nat.le_of_ble_eq_true rfl)
  rw [lg_entry_eq]
  exact oX3_first_0 CX  σ _ _ _ h hM va_S.rf hl
/-! WorkCoder.settle(III)I -/
abbrev rmX3_settle : Room := { frames := 2, cells := 0, slots := 0, locals := 42 }
theorem inX3_settle_3 : ∀ w ∈ wsX30, w ∈ wsX3_settle := fun _ h => List.mem_cons_of_mem _ (List.mem_append_left _ (List.mem_append_left _ (List.mem_append_right _ (h))))
section S_X3_settle
variable {p : Program} {l : Launch} {e : Env} {s : State} {m : MethodId} {args : Array Value} {below : List Frame} {meth : Method} {c : Code} {D : va_G} {cs : CS} {A : Nat → Prop}
set_option maxHeartbeats 4000000 in
set_option maxRecDepth 100000 in
theorem oX3_settle_46 {k : Int32 → MM → Prop} {t : Nat} (CX : CXM p s m args meth c cX3_settle 7 (some .int) "settle" RX3 wsX3_settle D cs A) : ∀ (n : Nat), ∀ (x2 : Int32) (x3 : Int32) (r4 : Option Nat) (x5 : Int32) (x6 : Int32) (σ : MM) (H : Heap) (locs : List Loc) (ls : Array Slot), wX3_settle_46 k t  n x2 x3 r4 x5 x6 σ → PH D cs A σ H → va_S A s.heap H locs → lv_has ls 7 [(0, .ref t), (2, .int x2), (3, .int x3), (4, va_rf r4), (5, .int x5), (6, .int x6)] → W p l e (headSpec wsX3_settle rmX3_settle).room s m args below meth c H locs 0 0 (MQ below (va_Qi k (mB D cs A) A) args s 0 0 A) (F0 m 46 ls []) := by
  intro n
  induction n with
  | zero => intro x2 x3 r4 x5 x6 σ H locs ls h; exact h.elim
  | succ n ih =>
    intro x2 x3 r4 x5 x6 σ H locs ls h hM hS hl
    have ⟨hx, hb, hml, hr, hnm, hown, hts, hlocks, hE⟩ := CX
    unfold wX3_settle_46 at h
    refine lv_iload hx hb dX3_settle_46 (lv_at hl 5 rfl) ?_
    refine lv_aload_n hx hb dX3_settle_48 rfl (lv_at hl 0 rfl) ?_
    obtain ⟨hk_1, h⟩ := h
    refine gf3_5 hx hb hts inX3_settle_3 hown hE.1 hM hk_1 (hts (.fieldLink RX3 34 "WorkCoder" "items" "[LWorkCoder$Item;") (by decide +kernel)) dX3_settle_49 (fun r_2 er_2 => ?_)
    replace h := h r_2 er_2
    clear er_2
    obtain ⟨a_3, rfl, h⟩ := h
    obtain ⟨hk_4, h⟩ := h
    refine mm_alen9 hx hb hE.1 hM hk_4 dX3_settle_52 ?_
    refine lv_icmp_ge (tgt := 106) hx hb dX3_settle_53 (by decide) (fun hc => ?_) (fun hc => ?_)
    · replace h := h.1 hc
      refine lv_iload hx hb dX3_settle_106 (lv_at hl 4 rfl) ?_
      exact W.iret (v := x5) hx hb hr (fun t_ ht hW => ⟨⟨_, _, rfl, h, mB_of ht hM⟩, hS.F ht⟩) hS.2.2 dX3_settle_108
    · replace h := h.2 hc
      refine lv_aload_n hx hb dX3_settle_56 rfl (lv_at hl 0 rfl) ?_
      refine gf3_5 hx hb hts inX3_settle_3 hown hE.1 hM hk_1 (hts (.fieldLink RX3 34 "WorkCoder" "items" "[LWorkCoder$Item;") (by decide +kernel)) dX3_settle_57 (fun r_5 er_5 => ?_)
      replace h := h r_5 er_5
      clear er_5
      refine lv_iload hx hb dX3_settle_60 (lv_at hl 5 rfl) ?_
      obtain ⟨a_6, rfl, h⟩ := h
      obtain ⟨hk_7, h⟩ := h
      obtain ⟨hv_8, h⟩ := h
      refine mm_aald9 hx hb hE.1 hM hk_7 hv_8 dX3_settle_62 (fun r_9 er_9 => ?_)
      replace h := h r_9 er_9
      clear er_9
      refine clSi (As := [va_rf r_9]) (rest := []) ⟨hx, hb, hml, hown, hts⟩ hM hE hS (ok_X3_isInDoubt l D cs A r_9 _ _ h) (va_cwS 1 hts gX3_settle_X3_isInDoubt rfl rfl rfl (by decide +kernel) ⟨(Nat.le_of_ble_eq_true rfl), (Nat.le_of_ble_eq_true rfl)⟩) rfl hl.1 rfl (Nat.le_of_ble_eq_true rfl) dX3_settle_63 ⟨(Nat.le_of_ble_eq_true rfl), (Nat.le_of_ble_eq_true rfl)⟩ (fun x_11 σ_10 H locs h1 hM hS => ?_)
      replace h := h1
      clear h1
      refine lv_if_eq (tgt := 100) hx hb dX3_settle_66 (by decide) (fun hc => ?_) (fun hc => ?_)
      · replace h := h.1 hc
        obtain ⟨x_12, ex_12⟩ : ∃ y : Int32, y = x6 + 1 := ⟨_, rfl⟩
        replace h := h x_12 ex_12
        refine lv_iinc (v := x_12) (lv' := [(6, .int x_12), (0, .ref t), (2, .int x2), (3, .int x3), (4, va_rf r4), (5, .int x5)]) hx hb dX3_settle_100 hl (k := 5) rfl (by rw [ex_12]; rfl) (by decide) rfl (fun ls hl => ?_)
        refine lv_goto (tgt := 46) hx hb dX3_settle_103 (by decide) ?_
        exact ih _ _ _ _ _ _ _ _ _ h hM hS (lv_sub hl [1, 2, 3, 4, 5, 0] rfl)
      · replace h := h.2 hc
        refine nl_aload hx hb dX3_settle_69 (lv_at hl 3 rfl) ?_
        refine lv_aload_n hx hb dX3_settle_71 rfl (lv_at hl 0 rfl) ?_
        obtain ⟨hk_13, h⟩ := h
        refine gf3_5 hx hb hts inX3_settle_3 hown hE.1 hM hk_13 (hts (.fieldLink RX3 34 "WorkCoder" "items" "[LWorkCoder$Item;") (by decide +kernel)) dX3_settle_72 (fun r_14 er_14 => ?_)
        replace h := h r_14 er_14
        clear er_14
        refine lv_iload hx hb dX3_settle_75 (lv_at hl 5 rfl) ?_
        obtain ⟨a_15, rfl, h⟩ := h
        obtain ⟨hk_16, h⟩ := h
        obtain ⟨hv_17, h⟩ := h
        refine mm_aald9 hx hb hE.1 hM hk_16 hv_17 dX3_settle_77 (fun r_18 er_18 => ?_)
        replace h := h r_18 er_18
        clear er_18
        obtain ⟨a_19, rfl, h⟩ := h
        obtain ⟨hk_20, h⟩ := h
        refine clVi (C := RX0) (b := a_19) (As := [va_rf r_18]) (rest := []) ⟨hx, hb, hml, hown, hts⟩ hM hE hS (ok_X0_isAlike l D cs A a_19 r_18 _ _ h) (cwV 1 hts gX3_settle_X0_isAlike rfl rfl rfl (by decide +kernel) ⟨(Nat.le_of_ble_eq_true rfl), (Nat.le_of_ble_eq_true rfl)⟩) (rc0 hM hE.1 hk_20) rfl hl.1 rfl (Nat.le_of_ble_eq_true rfl) dX3_settle_78 ⟨(Nat.le_of_ble_eq_true rfl), (Nat.le_of_ble_eq_true rfl)⟩ (fun x_22 σ_21 H locs h1 hM hS => ?_)
        replace h := h1
        clear h1
        refine lv_if_eq (tgt := 100) hx hb dX3_settle_81 (by decide) (fun hc => ?_) (fun hc => ?_)
        · replace h := h.1 hc
          obtain ⟨x_23, ex_23⟩ : ∃ y : Int32, y = x6 + 1 := ⟨_, rfl⟩
          replace h := h x_23 ex_23
          refine lv_iinc (v := x_23) (lv' := [(6, .int x_23), (0, .ref t), (2, .int x2), (3, .int x3), (4, .ref a_19), (5, .int x5)]) hx hb dX3_settle_100 hl (k := 5) rfl (by rw [ex_23]; rfl) (by decide) rfl (fun ls hl => ?_)
          refine lv_goto (tgt := 46) hx hb dX3_settle_103 (by decide) ?_
          exact ih _ _ _ _ _ _ _ _ _ h hM hS (lv_sub hl [1, 2, 3, 4, 5, 0] rfl)
        · replace h := h.2 hc
          refine lv_aload_n hx hb dX3_settle_84 rfl (lv_at hl 0 rfl) ?_
          obtain ⟨hk_24, h⟩ := h
          refine gf3_5 hx hb hts inX3_settle_3 hown hE.1 hM hk_24 (hts (.fieldLink RX3 34 "WorkCoder" "items" "[LWorkCoder$Item;") (by decide +kernel)) dX3_settle_85 (fun r_25 er_25 => ?_)
          replace h := h r_25 er_25
          clear er_25
          refine lv_iload hx hb dX3_settle_88 (lv_at hl 5 rfl) ?_
          obtain ⟨a_26, rfl, h⟩ := h
          obtain ⟨hk_27, h⟩ := h
          obtain ⟨hv_28, h⟩ := h
          refine mm_aald9 hx hb hE.1 hM hk_27 hv_28 dX3_settle_90 (fun r_29 er_29 => ?_)
          replace h := h r_29 er_29
          clear er_29
          refine lv_iload_n hx hb dX3_settle_91 rfl (lv_at hl 2 rfl) ?_
          refine lv_iconst (v := 2) hx hb dX3_settle_92 (by decide) ?_
          refine lv_iload_n hx hb dX3_settle_93 rfl (lv_at hl 1 rfl) ?_
          obtain ⟨a_30, rfl, h⟩ := h
          obtain ⟨hk_31, h⟩ := h
          refine clVv (C := RX0) (b := a_30) (As := [.int x3, .int 2, .int x2]) (rest := []) ⟨hx, hb, hml, hown, hts⟩ hM hE hS (ok_X0_take l D cs A a_30 x3 2 x2 _ _ h) (cwV 3 hts gX3_settle_X0_take rfl rfl rfl (by decide +kernel) ⟨(Nat.le_of_ble_eq_true rfl), (Nat.le_of_ble_eq_true rfl)⟩) (rc0 hM hE.1 hk_31) rfl hl.1 rfl (Nat.le_of_ble_eq_true rfl) dX3_settle_94 ⟨(Nat.le_of_ble_eq_true rfl), (Nat.le_of_ble_eq_true rfl)⟩ (fun σ_32 H locs h1 hM hS => ?_)
          replace h := h1
          clear h1
          obtain ⟨x_34, ex_34⟩ : ∃ y : Int32, y = x5 + 1 := ⟨_, rfl⟩
          replace h := h x_34 ex_34
          refine lv_iinc (v := x_34) (lv' := [(5, .int x_34), (0, .ref t), (2, .int x2), (3, .int x3), (4, .ref a_19), (6, .int x6)]) hx hb dX3_settle_97 hl (k := 4) rfl (by rw [ex_34]; rfl) (by decide) rfl (fun ls hl => ?_)
          obtain ⟨x_35, ex_35⟩ : ∃ y : Int32, y = x6 + 1 := ⟨_, rfl⟩
          replace h := h x_35 ex_35
          refine lv_iinc (v := x_35) (lv' := [(6, .int x_35), (5, .int x_34), (0, .ref t), (2, .int x2), (3, .int x3), (4, .ref a_19)]) hx hb dX3_settle_100 hl (k := 5) rfl (by rw [ex_35]; rfl) (by decide) rfl (fun ls hl => ?_)
          refine lv_goto (tgt := 46) hx hb dX3_settle_103 (by decide) ?_
          exact ih _ _ _ _ _ _ _ _ _ h hM hS (lv_sub hl [2, 3, 4, 5, 1, 0] rfl)
set_option maxHeartbeats 4000000 in
set_option maxRecDepth 100000 in
theorem oX3_settle_0 {k : Int32 → MM → Prop} {t : Nat} (CX : CXM p s m args meth c cX3_settle 7 (some .int) "settle" RX3 wsX3_settle D cs A) : ∀ (x1 : Int32) (x2 : Int32) (x3 : Int32) (σ : MM) (H : Heap) (locs : List Loc) (ls : Array Slot), wX3_settle t x1 x2 x3 σ k → PH D cs A σ H → va_S A s.heap H locs → lv_has ls 7 [(0, .ref t), (1, .int x1), (2, .int x2), (3, .int x3)] → W p l e (headSpec wsX3_settle rmX3_settle).room s m args below meth c H locs 0 0 (MQ below (va_Qi k (mB D cs A) A) args s 0 0 A) (F0 m 0 ls []) := by
  intro x1 x2 x3 σ H locs ls h hM hS hl
  have ⟨hx, hb, hml, hr, hnm, hown, hts, hlocks, hE⟩ := CX
  unfold wX3_settle at h
  refine lv_aload_n hx hb dX3_settle_0 rfl (lv_at hl 0 rfl) ?_
  refine lv_iload_n hx hb dX3_settle_1 rfl (lv_at hl 1 rfl) ?_
  obtain ⟨hk_1, h⟩ := h
  refine clVq (C := RX3) (b := t) (As := [.int x1]) (rest := []) ⟨hx, hb, hml, hown, hts⟩ hM hE hS (ok_X3_itemAt l D cs A t x1 _ _ h) (cwV 1 hts gX3_settle_X3_itemAt rfl rfl rfl (by decide +kernel) ⟨(Nat.le_of_ble_eq_true rfl), (Nat.le_of_ble_eq_true rfl)⟩) (rc3 hM hE.1 hk_1) rfl hl.1 rfl (Nat.le_of_ble_eq_true rfl) dX3_settle_2 ⟨(Nat.le_of_ble_eq_true rfl), (Nat.le_of_ble_eq_true rfl)⟩ (fun r_3 σ_2 H locs h1 hM hS => ?_)
  replace h := h1
  clear h1
  refine nl_astore (i := 4) (lv' := [(4, va_rf r_3), (0, .ref t), (1, .int x1), (2, .int x2), (3, .int x3)]) hx hb dX3_settle_5 hl (by decide) rfl (fun ls hl => ?_)
  refine nl_aload hx hb dX3_settle_7 (lv_at hl 0 rfl) ?_
  refine nl_ifnull (tgt := 27) hx hb dX3_settle_9 (by decide) (fun hn => ?_) (fun a_4 hn => ?_)
  · replace h := h.1 hn
    subst hn
    refine lv_iconst (v := (-1)) hx hb dX3_settle_27 (by decide) ?_
    exact W.iret (v := (-1)) hx hb hr (fun t_ ht hW => ⟨⟨_, _, rfl, h, mB_of ht hM⟩, hS.F ht⟩) hS.2.2 dX3_settle_28
  · replace h := h.2 a_4 hn
    subst hn
    refine lv_iload_n hx hb dX3_settle_12 rfl (lv_at hl 3 rfl) ?_
    refine clSi (As := [.int x2]) (rest := []) ⟨hx, hb, hml, hown, hts⟩ hM hE hS (ok_X3_isDigit l D cs A x2 _ _ h) (va_cwS 1 hts gX3_settle_X3_isDigit rfl rfl rfl (by decide +kernel) ⟨(Nat.le_of_ble_eq_true rfl), (Nat.le_of_ble_eq_true rfl)⟩) rfl hl.1 rfl (Nat.le_of_ble_eq_true rfl) dX3_settle_13 ⟨(Nat.le_of_ble_eq_true rfl), (Nat.le_of_ble_eq_true rfl)⟩ (fun x_6 σ_5 H locs h1 hM hS => ?_)
    replace h := h1
    clear h1
    refine lv_if_eq (tgt := 27) hx hb dX3_settle_16 (by decide) (fun hc => ?_) (fun hc => ?_)
    · replace h := h.1 hc
      refine lv_iconst (v := (-1)) hx hb dX3_settle_27 (by decide) ?_
      exact W.iret (v := (-1)) hx hb hr (fun t_ ht hW => ⟨⟨_, _, rfl, h, mB_of ht hM⟩, hS.F ht⟩) hS.2.2 dX3_settle_28
    · replace h := h.2 hc
      refine lv_aload_n hx hb dX3_settle_19 rfl (lv_at hl 1 rfl) ?_
      refine lv_iload_n hx hb dX3_settle_20 rfl (lv_at hl 4 rfl) ?_
      obtain ⟨hk_7, h⟩ := h
      refine clVi (C := RX3) (b := t) (As := [.int x3]) (rest := []) ⟨hx, hb, hml, hown, hts⟩ hM hE hS (ok_X3_isCode l D cs A t x3 _ _ h) (cwV 1 hts gX3_settle_X3_isCode rfl rfl rfl (by decide +kernel) ⟨(Nat.le_of_ble_eq_true rfl), (Nat.le_of_ble_eq_true rfl)⟩) (rc3 hM hE.1 hk_7) rfl hl.1 rfl (Nat.le_of_ble_eq_true rfl) dX3_settle_21 ⟨(Nat.le_of_ble_eq_true rfl), (Nat.le_of_ble_eq_true rfl)⟩ (fun x_9 σ_8 H locs h1 hM hS => ?_)
      replace h := h1
      clear h1
      refine lv_if_ne (tgt := 29) hx hb dX3_settle_24 (by decide) (fun hc => ?_) (fun hc => ?_)
      · replace h := h.1 hc
        refine lv_aload hx hb dX3_settle_29 (lv_at hl 0 rfl) ?_
        refine clSi (As := [.ref a_4]) (rest := []) ⟨hx, hb, hml, hown, hts⟩ hM hE hS (ok_X3_isInDoubt l D cs A (some a_4) _ _ h) (va_cwS 1 hts gX3_settle_X3_isInDoubt rfl rfl rfl (by decide +kernel) ⟨(Nat.le_of_ble_eq_true rfl), (Nat.le_of_ble_eq_true rfl)⟩) rfl hl.1 rfl (Nat.le_of_ble_eq_true rfl) dX3_settle_31 ⟨(Nat.le_of_ble_eq_true rfl), (Nat.le_of_ble_eq_true rfl)⟩ (fun x_11 σ_10 H locs h1 hM hS => ?_)
        replace h := h1
        clear h1
        refine lv_if_ne (tgt := 40) hx hb dX3_settle_34 (by decide) (fun hc => ?_) (fun hc => ?_)
        · replace h := h.1 hc
          refine lv_iconst (v := 0) hx hb dX3_settle_40 (by decide) ?_
          refine lv_istore (i := 5) (lv' := [(5, .int 0), (4, .ref a_4), (0, .ref t), (1, .int x1), (2, .int x2), (3, .int x3)]) hx hb dX3_settle_41 hl (by decide) rfl (fun ls hl => ?_)
          refine lv_iconst (v := 0) hx hb dX3_settle_43 (by decide) ?_
          refine lv_istore (i := 6) (lv' := [(6, .int 0), (5, .int 0), (4, .ref a_4), (0, .ref t), (1, .int x1), (2, .int x2), (3, .int x3)]) hx hb dX3_settle_44 hl (by decide) rfl (fun ls hl => ?_)
          obtain ⟨n0, h⟩ := h
          exact oX3_settle_46 CX  n0 _ _ _ _ _ _ _ _ _ h hM hS (lv_sub hl [3, 5, 6, 2, 1, 0] rfl)
        · replace h := h.2 hc
          refine lv_bipush (v := (-2)) hx hb dX3_settle_37 (by decide) ?_
          exact W.iret (v := (-2)) hx hb hr (fun t_ ht hW => ⟨⟨_, _, rfl, h, mB_of ht hM⟩, hS.F ht⟩) hS.2.2 dX3_settle_39
      · replace h := h.2 hc
        refine lv_iconst (v := (-1)) hx hb dX3_settle_27 (by decide) ?_
        exact W.iret (v := (-1)) hx hb hr (fun t_ ht hW => ⟨⟨_, _, rfl, h, mB_of ht hM⟩, hS.F ht⟩) hS.2.2 dX3_settle_28
end S_X3_settle
set_option maxHeartbeats 4000000 in
set_option maxRecDepth 100000 in
theorem ok_X3_settle (l : Launch) (D : va_G) (cs : CS) (A : Nat → Prop) (t : Nat) (x1 : Int32) (x2 : Int32) (x3 : Int32) (σ : MM) (k : Int32 → MM → Prop) (h : wX3_settle t x1 x2 x3 σ k) : Met l yX3_settle wsX3_settle rmX3_settle (va_Pc [.ref t, .int x1, .int x2, .int x3] (mP D cs A σ)) (va_Qi k (mB D cs A) A) 0 0 A := by
  refine Met.ofW (cc := cX3_settle) (maxL := 7) (ret := (some .int)) (by decide) rfl ?_
  intro p e s m args below meth c s₁ B hml hv
  obtain ⟨rfl, hM, hE⟩ := hv
  have CX : CXM p s m _ meth c cX3_settle 7 (some .int) "settle" RX3 wsX3_settle D cs A := ⟨B.exec, B.bytes, hml, B.returns, (name_of_methodNamed B.named B.method).1, findClass_of_methodNamed B.named, atoms_spec (ws := wsX3_settle) B.pre, B.notSynchronized, hE⟩
  have hl := lv_entry ([.ref t, .int x1, .int x2, .int x3]) (n := 7) (Nat.le_of_ble_eq_true rfl)
  rw [lg_entry_eq]
  exact oX3_settle_0 CX x1 x2 x3 σ _ _ _ h hM va_S.rf hl
/-! WorkCoder.isStale(LWorkCoder$Item;)Z -/
abbrev rmX3_isStale : Room := { frames := 4, cells := 0, slots := 0, locals := 94 }
theorem inX3_isStale_0 : ∀ w ∈ wsX00, w ∈ wsX3_isStale := fun _ h => List.mem_cons_of_mem _ (List.mem_append_left _ (List.mem_append_left _ (List.mem_append_right _ (h))))
section S_X3_isStale
variable {p : Program} {l : Launch} {e : Env} {s : State} {m : MethodId} {args : Array Value} {below : List Frame} {meth : Method} {c : Code} {D : va_G} {cs : CS} {A : Nat → Prop}
set_option maxHeartbeats 4000000 in
set_option maxRecDepth 100000 in
theorem oX3_isStale_0 {k : Int32 → MM → Prop} {t : Nat} (CX : CXM p s m args meth c cX3_isStale 2 (some .boolean) "isStale" RX3 wsX3_isStale D cs A) : ∀ (r1 : Option Nat) (σ : MM) (H : Heap) (locs : List Loc) (ls : Array Slot), wX3_isStale t r1 σ k → PH D cs A σ H → va_S A s.heap H locs → lv_has ls 2 [(0, .ref t), (1, va_rf r1)] → W p l e (headSpec wsX3_isStale rmX3_isStale).room s m args below meth c H locs 0 0 (MQ below (va_Qi k (mB D cs A) A) args s 0 0 A) (F0 m 0 ls []) := by
  intro r1 σ H locs ls h hM hS hl
  have ⟨hx, hb, hml, hr, hnm, hown, hts, hlocks, hE⟩ := CX
  unfold wX3_isStale at h
  refine nl_aload_n hx hb dX3_isStale_0 rfl (lv_at hl 1 rfl) ?_
  refine nl_ifnull (tgt := 28) hx hb dX3_isStale_1 (by decide) (fun hn => ?_) (fun a_1 hn => ?_)
  · replace h := h.1 hn
    subst hn
    refine lv_iconst (v := 0) hx hb dX3_isStale_28 (by decide) ?_
    exact W.zret (v := 0) (ty := .boolean) hx hb hr rfl (fun t_ ht hW => ⟨⟨_, _, rfl, h, mB_of ht hM⟩, hS.F ht⟩) hS.2.2 dX3_isStale_29
  · replace h := h.2 a_1 hn
    subst hn
    refine lv_aload_n hx hb dX3_isStale_4 rfl (lv_at hl 1 rfl) ?_
    obtain ⟨hk_2, h⟩ := h
    refine gf0_6 hx hb hts inX3_isStale_0 hown hE.1 hM hk_2 (hts (.fieldLink RX3 185 "WorkCoder$Item" "means" "I") (by decide +kernel)) dX3_isStale_5 ?_
    refine lv_if_ne (tgt := 28) hx hb dX3_isStale_8 (by decide) (fun hc => ?_) (fun hc => ?_)
    · replace h := h.1 hc
      refine lv_iconst (v := 0) hx hb dX3_isStale_28 (by decide) ?_
      exact W.zret (v := 0) (ty := .boolean) hx hb hr rfl (fun t_ ht hW => ⟨⟨_, _, rfl, h, mB_of ht hM⟩, hS.F ht⟩) hS.2.2 dX3_isStale_29
    · replace h := h.2 hc
      refine lv_aload_n hx hb dX3_isStale_11 rfl (lv_at hl 0 rfl) ?_
      refine lv_aload_n hx hb dX3_isStale_12 rfl (lv_at hl 1 rfl) ?_
      refine lv_iconst (v := (-1)) hx hb dX3_isStale_13 (by decide) ?_
      obtain ⟨hk_3, h⟩ := h
      refine clVi (C := RX3) (b := t) (As := [.ref a_1, .int (-1)]) (rest := []) ⟨hx, hb, hml, hown, hts⟩ hM hE hS (ok_X3_byRules l D cs A t (some a_1) (-1) _ _ h) (cwV 2 hts gX3_isStale_X3_byRules rfl rfl rfl (by decide +kernel) ⟨(Nat.le_of_ble_eq_true rfl), (Nat.le_of_ble_eq_true rfl)⟩) (rc3 hM hE.1 hk_3) rfl hl.1 rfl (Nat.le_of_ble_eq_true rfl) dX3_isStale_14 ⟨(Nat.le_of_ble_eq_true rfl), (Nat.le_of_ble_eq_true rfl)⟩ (fun x_5 σ_4 H locs h1 hM hS => ?_)
      replace h := h1
      clear h1
      refine lv_aload_n hx hb dX3_isStale_17 rfl (lv_at hl 1 rfl) ?_
      obtain ⟨hk_6, h⟩ := h
      refine gf0_5 hx hb hts inX3_isStale_0 hown hE.1 hM hk_6 (hts (.fieldLink RX3 194 "WorkCoder$Item" "code" "I") (by decide +kernel)) dX3_isStale_18 ?_
      refine lv_icmp_eq (tgt := 28) hx hb dX3_isStale_21 (by decide) (fun hc => ?_) (fun hc => ?_)
      · replace h := h.1 hc
        refine lv_iconst (v := 0) hx hb dX3_isStale_28 (by decide) ?_
        exact W.zret (v := 0) (ty := .boolean) hx hb hr rfl (fun t_ ht hW => ⟨⟨_, _, rfl, h, mB_of ht hM⟩, hS.F ht⟩) hS.2.2 dX3_isStale_29
      · replace h := h.2 hc
        refine lv_iconst (v := 1) hx hb dX3_isStale_24 (by decide) ?_
        refine lv_goto (tgt := 29) hx hb dX3_isStale_25 (by decide) ?_
        exact W.zret (v := 1) (ty := .boolean) hx hb hr rfl (fun t_ ht hW => ⟨⟨_, _, rfl, h, mB_of ht hM⟩, hS.F ht⟩) hS.2.2 dX3_isStale_29
end S_X3_isStale
set_option maxHeartbeats 4000000 in
set_option maxRecDepth 100000 in
theorem ok_X3_isStale (l : Launch) (D : va_G) (cs : CS) (A : Nat → Prop) (t : Nat) (r1 : Option Nat) (σ : MM) (k : Int32 → MM → Prop) (h : wX3_isStale t r1 σ k) : Met l yX3_isStale wsX3_isStale rmX3_isStale (va_Pc [.ref t, va_rf r1] (mP D cs A σ)) (va_Qi k (mB D cs A) A) 0 0 A := by
  refine Met.ofW (cc := cX3_isStale) (maxL := 2) (ret := (some .boolean)) (by decide) rfl ?_
  intro p e s m args below meth c s₁ B hml hv
  obtain ⟨rfl, hM, hE⟩ := hv
  have CX : CXM p s m _ meth c cX3_isStale 2 (some .boolean) "isStale" RX3 wsX3_isStale D cs A := ⟨B.exec, B.bytes, hml, B.returns, (name_of_methodNamed B.named B.method).1, findClass_of_methodNamed B.named, atoms_spec (ws := wsX3_isStale) B.pre, B.notSynchronized, hE⟩
  cases r1 with
  | none =>
    have hl := lv_entry ([.ref t, va_rf none]) (n := 2) (Nat.le_of_ble_eq_true rfl)
    rw [lg_entry_eq]
    exact oX3_isStale_0 CX none σ _ _ _ h hM va_S.rf hl
  | some a0 =>
    have hl := lv_entry ([.ref t, va_rf (some a0)]) (n := 2) (Nat.le_of_ble_eq_true rfl)
    rw [lg_entry_eq]
    exact oX3_isStale_0 CX (some a0) σ _ _ _ h hM va_S.rf hl
/-! WorkCoder.recode()I -/
abbrev rmX3_recode : Room := { frames := 5, cells := 0, slots := 0, locals := 115 }
theorem inX3_recode_3 : ∀ w ∈ wsX30, w ∈ wsX3_recode := fun _ h => List.mem_cons_of_mem _ (List.mem_append_left _ (List.mem_append_left _ (List.mem_append_right _ (h))))
section S_X3_recode
variable {p : Program} {l : Launch} {e : Env} {s : State} {m : MethodId} {args : Array Value} {below : List Frame} {meth : Method} {c : Code} {D : va_G} {cs : CS} {A : Nat → Prop}
set_option maxHeartbeats 4000000 in
set_option maxRecDepth 100000 in
theorem oX3_recode_4 {k : Int32 → MM → Prop} {t : Nat} (CX : CXM p s m args meth c cX3_recode 3 (some .int) "recode" RX3 wsX3_recode D cs A) : ∀ (n : Nat), ∀ (x1 : Int32) (x2 : Int32) (σ : MM) (H : Heap) (locs : List Loc) (ls : Array Slot), wX3_recode_4 k t  n x1 x2 σ → PH D cs A σ H → va_S A s.heap H locs → lv_has ls 3 [(0, .ref t), (1, .int x1), (2, .int x2)] → W p l e (headSpec wsX3_recode rmX3_recode).room s m args below meth c H locs 0 0 (MQ below (va_Qi k (mB D cs A) A) args s 0 0 A) (F0 m 4 ls []) := by
  intro n
  induction n with
  | zero => intro x1 x2 σ H locs ls h; exact h.elim
  | succ n ih =>
    intro x1 x2 σ H locs ls h hM hS hl
    have ⟨hx, hb, hml, hr, hnm, hown, hts, hlocks, hE⟩ := CX
    unfold wX3_recode_4 at h
    refine lv_iload_n hx hb dX3_recode_4 rfl (lv_at hl 2 rfl) ?_
    refine lv_aload_n hx hb dX3_recode_5 rfl (lv_at hl 0 rfl) ?_
    obtain ⟨hk_1, h⟩ := h
    refine gf3_5 hx hb hts inX3_recode_3 hown hE.1 hM hk_1 (hts (.fieldLink RX3 34 "WorkCoder" "items" "[LWorkCoder$Item;") (by decide +kernel)) dX3_recode_6 (fun r_2 er_2 => ?_)
    replace h := h r_2 er_2
    clear er_2
    obtain ⟨a_3, rfl, h⟩ := h
    obtain ⟨hk_4, h⟩ := h
    refine mm_alen9 hx hb hE.1 hM hk_4 dX3_recode_9 ?_
    refine lv_icmp_ge (tgt := 44) hx hb dX3_recode_10 (by decide) (fun hc => ?_) (fun hc => ?_)
    · replace h := h.1 hc
      refine lv_iload_n hx hb dX3_recode_44 rfl (lv_at hl 1 rfl) ?_
      exact W.iret (v := x1) hx hb hr (fun t_ ht hW => ⟨⟨_, _, rfl, h, mB_of ht hM⟩, hS.F ht⟩) hS.2.2 dX3_recode_45
    · replace h := h.2 hc
      refine lv_aload_n hx hb dX3_recode_13 rfl (lv_at hl 0 rfl) ?_
      refine lv_aload_n hx hb dX3_recode_14 rfl (lv_at hl 0 rfl) ?_
      refine gf3_5 hx hb hts inX3_recode_3 hown hE.1 hM hk_1 (hts (.fieldLink RX3 34 "WorkCoder" "items" "[LWorkCoder$Item;") (by decide +kernel)) dX3_recode_15 (fun r_5 er_5 => ?_)
      replace h := h r_5 er_5
      clear er_5
      refine lv_iload_n hx hb dX3_recode_18 rfl (lv_at hl 2 rfl) ?_
      obtain ⟨a_6, rfl, h⟩ := h
      obtain ⟨hk_7, h⟩ := h
      obtain ⟨hv_8, h⟩ := h
      refine mm_aald9 hx hb hE.1 hM hk_7 hv_8 dX3_recode_19 (fun r_9 er_9 => ?_)
      replace h := h r_9 er_9
      clear er_9
      refine clVi (C := RX3) (b := t) (As := [va_rf r_9]) (rest := []) ⟨hx, hb, hml, hown, hts⟩ hM hE hS (ok_X3_isStale l D cs A t r_9 _ _ h) (cwV 1 hts gX3_recode_X3_isStale rfl rfl rfl (by decide +kernel) ⟨(Nat.le_of_ble_eq_true rfl), (Nat.le_of_ble_eq_true rfl)⟩) (rc3 hM hE.1 hk_1) rfl hl.1 rfl (Nat.le_of_ble_eq_true rfl) dX3_recode_20 ⟨(Nat.le_of_ble_eq_true rfl), (Nat.le_of_ble_eq_true rfl)⟩ (fun x_11 σ_10 H locs h1 hM hS => ?_)
      replace h := h1
      clear h1
      refine lv_if_eq (tgt := 38) hx hb dX3_recode_23 (by decide) (fun hc => ?_) (fun hc => ?_)
      · replace h := h.1 hc
        obtain ⟨x_12, ex_12⟩ : ∃ y : Int32, y = x2 + 1 := ⟨_, rfl⟩
        replace h := h x_12 ex_12
        refine lv_iinc (v := x_12) (lv' := [(2, .int x_12), (0, .ref t), (1, .int x1)]) hx hb dX3_recode_38 hl (k := 2) rfl (by rw [ex_12]; rfl) (by decide) rfl (fun ls hl => ?_)
        refine lv_goto (tgt := 4) hx hb dX3_recode_41 (by decide) ?_
        exact ih _ _ _ _ _ _ h hM hS (lv_sub hl [1, 2, 0] rfl)
      · replace h := h.2 hc
        refine lv_aload_n hx hb dX3_recode_26 rfl (lv_at hl 0 rfl) ?_
        obtain ⟨hk_13, h⟩ := h
        refine gf3_5 hx hb hts inX3_recode_3 hown hE.1 hM hk_13 (hts (.fieldLink RX3 34 "WorkCoder" "items" "[LWorkCoder$Item;") (by decide +kernel)) dX3_recode_27 (fun r_14 er_14 => ?_)
        replace h := h r_14 er_14
        clear er_14
        refine lv_iload_n hx hb dX3_recode_30 rfl (lv_at hl 2 rfl) ?_
        obtain ⟨a_15, rfl, h⟩ := h
        obtain ⟨hk_16, h⟩ := h
        obtain ⟨hv_17, h⟩ := h
        refine mm_aald9 hx hb hE.1 hM hk_16 hv_17 dX3_recode_31 (fun r_18 er_18 => ?_)
        replace h := h r_18 er_18
        clear er_18
        obtain ⟨a_19, rfl, h⟩ := h
        obtain ⟨hk_20, h⟩ := h
        refine clVv (C := RX0) (b := a_19) (As := []) (rest := []) ⟨hx, hb, hml, hown, hts⟩ hM hE hS (ok_X0_renew l D cs A a_19 _ _ h) (cwV 0 hts gX3_recode_X0_renew rfl rfl rfl (by decide +kernel) ⟨(Nat.le_of_ble_eq_true rfl), (Nat.le_of_ble_eq_true rfl)⟩) (rc0 hM hE.1 hk_20) rfl hl.1 rfl (Nat.le_of_ble_eq_true rfl) dX3_recode_32 ⟨(Nat.le_of_ble_eq_true rfl), (Nat.le_of_ble_eq_true rfl)⟩ (fun σ_21 H locs h1 hM hS => ?_)
        replace h := h1
        clear h1
        obtain ⟨x_23, ex_23⟩ : ∃ y : Int32, y = x1 + 1 := ⟨_, rfl⟩
        replace h := h x_23 ex_23
        refine lv_iinc (v := x_23) (lv' := [(1, .int x_23), (0, .ref t), (2, .int x2)]) hx hb dX3_recode_35 hl (k := 1) rfl (by rw [ex_23]; rfl) (by decide) rfl (fun ls hl => ?_)
        obtain ⟨x_24, ex_24⟩ : ∃ y : Int32, y = x2 + 1 := ⟨_, rfl⟩
        replace h := h x_24 ex_24
        refine lv_iinc (v := x_24) (lv' := [(2, .int x_24), (1, .int x_23), (0, .ref t)]) hx hb dX3_recode_38 hl (k := 2) rfl (by rw [ex_24]; rfl) (by decide) rfl (fun ls hl => ?_)
        refine lv_goto (tgt := 4) hx hb dX3_recode_41 (by decide) ?_
        exact ih _ _ _ _ _ _ h hM hS (lv_sub hl [2, 1, 0] rfl)
set_option maxHeartbeats 4000000 in
set_option maxRecDepth 100000 in
theorem oX3_recode_0 {k : Int32 → MM → Prop} {t : Nat} (CX : CXM p s m args meth c cX3_recode 3 (some .int) "recode" RX3 wsX3_recode D cs A) : ∀ (σ : MM) (H : Heap) (locs : List Loc) (ls : Array Slot), wX3_recode t σ k → PH D cs A σ H → va_S A s.heap H locs → lv_has ls 3 [(0, .ref t)] → W p l e (headSpec wsX3_recode rmX3_recode).room s m args below meth c H locs 0 0 (MQ below (va_Qi k (mB D cs A) A) args s 0 0 A) (F0 m 0 ls []) := by
  intro  σ H locs ls h hM hS hl
  have ⟨hx, hb, hml, hr, hnm, hown, hts, hlocks, hE⟩ := CX
  unfold wX3_recode at h
  refine lv_iconst (v := 0) hx hb dX3_recode_0 (by decide) ?_
  refine lv_istore_n (i := 1) (lv' := [(1, .int 0), (0, .ref t)]) hx hb dX3_recode_1 rfl hl (by decide) rfl (fun ls hl => ?_)
  refine lv_iconst (v := 0) hx hb dX3_recode_2 (by decide) ?_
  refine lv_istore_n (i := 2) (lv' := [(2, .int 0), (1, .int 0), (0, .ref t)]) hx hb dX3_recode_3 rfl hl (by decide) rfl (fun ls hl => ?_)
  obtain ⟨n0, h⟩ := h
  exact oX3_recode_4 CX  n0 _ _ _ _ _ _ h hM hS (lv_sub hl [2, 1, 0] rfl)
end S_X3_recode
set_option maxHeartbeats 4000000 in
set_option maxRecDepth 100000 in
theorem ok_X3_recode (l : Launch) (D : va_G) (cs : CS) (A : Nat → Prop) (t : Nat) (σ : MM) (k : Int32 → MM → Prop) (h : wX3_recode t σ k) : Met l yX3_recode wsX3_recode rmX3_recode (va_Pc [.ref t] (mP D cs A σ)) (va_Qi k (mB D cs A) A) 0 0 A := by
  refine Met.ofW (cc := cX3_recode) (maxL := 3) (ret := (some .int)) (by decide) rfl ?_
  intro p e s m args below meth c s₁ B hml hv
  obtain ⟨rfl, hM, hE⟩ := hv
  have CX : CXM p s m _ meth c cX3_recode 3 (some .int) "recode" RX3 wsX3_recode D cs A := ⟨B.exec, B.bytes, hml, B.returns, (name_of_methodNamed B.named B.method).1, findClass_of_methodNamed B.named, atoms_spec (ws := wsX3_recode) B.pre, B.notSynchronized, hE⟩
  have hl := lv_entry ([.ref t]) (n := 3) (Nat.le_of_ble_eq_true rfl)
  rw [lg_entry_eq]
  exact oX3_recode_0 CX  σ _ _ _ h hM va_S.rf hl
