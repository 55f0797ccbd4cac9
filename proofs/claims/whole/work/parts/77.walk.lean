/-! WorkCoder.second(III)I -/
abbrev rmX3_second : Room := { frames := 2, cells := 0, slots := 0, locals := 42 }
theorem inX3_second_0 : ∀ w ∈ wsX00, w ∈ wsX3_second := fun _ h => List.mem_cons_of_mem _ (List.mem_append_left _ (List.mem_append_left _ (List.mem_append_right _ (h))))
section S_X3_second
variable {p : Program} {l : Launch} {e : Env} {s : State} {m : MethodId} {args : Array Value} {below : List Frame} {meth : Method} {c : Code} {D : va_G} {cs : CS} {A : Nat → Prop}
set_option maxHeartbeats 4000000 in
set_option maxRecDepth 100000 in
theorem oX3_second_52 {k : Int32 → MM → Prop} {t : Nat} (CX : CXM p s m args meth c cX3_second 6 (some .int) "second" RX3 wsX3_second D cs A) : ∀ (x3 : Int32) (r4 : Option Nat) (z0 : Int32) (σ : MM) (H : Heap) (locs : List Loc) (ls : Array Slot), wX3_second_52 k t  x3 r4 z0 σ → PH D cs A σ H → va_S A s.heap H locs → lv_has ls 6 [(0, .ref t), (3, .int x3), (4, va_rf r4)] → W p l e (headSpec wsX3_second rmX3_second).room s m args below meth c H locs 0 0 (MQ below (va_Qi k (mB D cs A) A) args s 0 0 A) (F0 m 52 ls [.int z0]) := by
  intro x3 r4 z0 σ H locs ls h hM hS hl
  have ⟨hx, hb, hml, hr, hnm, hown, hts, hlocks, hE⟩ := CX
  unfold wX3_second_52 at h
  refine lv_istore (i := 5) (lv' := [(5, .int z0), (0, .ref t), (3, .int x3), (4, va_rf r4)]) hx hb dX3_second_52 hl (by decide) (by simp [nl_cat] <;> rfl) (fun ls hl => ?_)
  refine nl_aload hx hb dX3_second_54 (lv_at hl 3 rfl) ?_
  obtain ⟨a_1, rfl, h⟩ := h
  obtain ⟨hk_2, h⟩ := h
  refine gf0_4 hx hb hts inX3_second_0 hown hE.1 hM hk_2 (hts (.fieldLink RX3 107 "WorkCoder$Item" "state" "I") (by decide +kernel)) dX3_second_56 ?_
  refine lv_iconst (v := 1) hx hb dX3_second_59 (by decide) ?_
  refine lv_icmp_ne (tgt := 68) hx hb dX3_second_60 (by decide) (fun hc => ?_) (fun hc => ?_)
  · replace h := h.1 hc
    refine lv_bipush (v := (-2)) hx hb dX3_second_68 (by decide) ?_
    exact W.iret (v := (-2)) hx hb hr (fun t_ ht hW => ⟨⟨_, _, rfl, h, mB_of ht hM⟩, hS.F ht⟩) hS.2.2 dX3_second_70
  · replace h := h.2 hc
    refine lv_iload hx hb dX3_second_63 (lv_at hl 0 rfl) ?_
    refine lv_if_eq (tgt := 71) hx hb dX3_second_65 (by decide) (fun hc => ?_) (fun hc => ?_)
    · replace h := h.1 hc
      refine lv_aload hx hb dX3_second_71 (lv_at hl 3 rfl) ?_
      refine lv_iload_n hx hb dX3_second_73 rfl (lv_at hl 2 rfl) ?_
      refine pf0_8 hx hb hts inX3_second_0 hown hE.1 hM hS hk_2 (hts (.fieldLink RX3 191 "WorkCoder$Item" "second" "I") (by decide +kernel)) dX3_second_74 (fun H locs hM hS => ?_)
      replace h := h _ rfl
      refine lv_iconst (v := 1) hx hb dX3_second_77 (by decide) ?_
      exact W.iret (v := 1) hx hb hr (fun t_ ht hW => ⟨⟨_, _, rfl, h, mB_of ht hM⟩, hS.F ht⟩) hS.2.2 dX3_second_78
    · replace h := h.2 hc
      refine lv_bipush (v := (-2)) hx hb dX3_second_68 (by decide) ?_
      exact W.iret (v := (-2)) hx hb hr (fun t_ ht hW => ⟨⟨_, _, rfl, h, mB_of ht hM⟩, hS.F ht⟩) hS.2.2 dX3_second_70
set_option maxHeartbeats 4000000 in
set_option maxRecDepth 100000 in
theorem oX3_second_0 {k : Int32 → MM → Prop} {t : Nat} (CX : CXM p s m args meth c cX3_second 6 (some .int) "second" RX3 wsX3_second D cs A) : ∀ (x1 : Int32) (x2 : Int32) (x3 : Int32) (σ : MM) (H : Heap) (locs : List Loc) (ls : Array Slot), wX3_second t x1 x2 x3 σ k → PH D cs A σ H → va_S A s.heap H locs → lv_has ls 6 [(0, .ref t), (1, .int x1), (2, .int x2), (3, .int x3)] → W p l e (headSpec wsX3_second rmX3_second).room s m args below meth c H locs 0 0 (MQ below (va_Qi k (mB D cs A) A) args s 0 0 A) (F0 m 0 ls []) := by
  intro x1 x2 x3 σ H locs ls h hM hS hl
  have ⟨hx, hb, hml, hr, hnm, hown, hts, hlocks, hE⟩ := CX
  unfold wX3_second at h
  refine lv_aload_n hx hb dX3_second_0 rfl (lv_at hl 0 rfl) ?_
  refine lv_iload_n hx hb dX3_second_1 rfl (lv_at hl 1 rfl) ?_
  obtain ⟨hk_1, h⟩ := h
  refine clVq (C := RX3) (b := t) (As := [.int x1]) (rest := []) ⟨hx, hb, hml, hown, hts⟩ hM hE hS (ok_X3_itemAt l D cs A t x1 _ _ h) (cwV 1 hts gX3_second_X3_itemAt rfl rfl rfl (by decide +kernel) ⟨(Nat.le_of_ble_eq_true rfl), (Nat.le_of_ble_eq_true rfl)⟩) (rc3 hM hE.1 hk_1) rfl hl.1 rfl (Nat.le_of_ble_eq_true rfl) dX3_second_2 ⟨(Nat.le_of_ble_eq_true rfl), (Nat.le_of_ble_eq_true rfl)⟩ (fun r_3 σ_2 H locs h1 hM hS => ?_)
  replace h := h1
  clear h1
  refine nl_astore (i := 4) (lv' := [(4, va_rf r_3), (0, .ref t), (1, .int x1), (2, .int x2), (3, .int x3)]) hx hb dX3_second_5 hl (by decide) rfl (fun ls hl => ?_)
  refine nl_aload hx hb dX3_second_7 (lv_at hl 0 rfl) ?_
  refine nl_ifnull (tgt := 27) hx hb dX3_second_9 (by decide) (fun hn => ?_) (fun a_4 hn => ?_)
  · replace h := h.1 hn
    subst hn
    refine lv_iconst (v := (-1)) hx hb dX3_second_27 (by decide) ?_
    exact W.iret (v := (-1)) hx hb hr (fun t_ ht hW => ⟨⟨_, _, rfl, h, mB_of ht hM⟩, hS.F ht⟩) hS.2.2 dX3_second_28
  · replace h := h.2 a_4 hn
    subst hn
    refine lv_iload_n hx hb dX3_second_12 rfl (lv_at hl 3 rfl) ?_
    refine clSi (As := [.int x2]) (rest := []) ⟨hx, hb, hml, hown, hts⟩ hM hE hS (ok_X3_isDigit l D cs A x2 _ _ h) (va_cwS 1 hts gX3_second_X3_isDigit rfl rfl rfl (by decide +kernel) ⟨(Nat.le_of_ble_eq_true rfl), (Nat.le_of_ble_eq_true rfl)⟩) rfl hl.1 rfl (Nat.le_of_ble_eq_true rfl) dX3_second_13 ⟨(Nat.le_of_ble_eq_true rfl), (Nat.le_of_ble_eq_true rfl)⟩ (fun x_6 σ_5 H locs h1 hM hS => ?_)
    replace h := h1
    clear h1
    refine lv_if_eq (tgt := 27) hx hb dX3_second_16 (by decide) (fun hc => ?_) (fun hc => ?_)
    · replace h := h.1 hc
      refine lv_iconst (v := (-1)) hx hb dX3_second_27 (by decide) ?_
      exact W.iret (v := (-1)) hx hb hr (fun t_ ht hW => ⟨⟨_, _, rfl, h, mB_of ht hM⟩, hS.F ht⟩) hS.2.2 dX3_second_28
    · replace h := h.2 hc
      refine lv_aload_n hx hb dX3_second_19 rfl (lv_at hl 1 rfl) ?_
      refine lv_iload_n hx hb dX3_second_20 rfl (lv_at hl 4 rfl) ?_
      obtain ⟨hk_7, h⟩ := h
      refine clVi (C := RX3) (b := t) (As := [.int x3]) (rest := []) ⟨hx, hb, hml, hown, hts⟩ hM hE hS (ok_X3_isCode l D cs A t x3 _ _ h) (cwV 1 hts gX3_second_X3_isCode rfl rfl rfl (by decide +kernel) ⟨(Nat.le_of_ble_eq_true rfl), (Nat.le_of_ble_eq_true rfl)⟩) (rc3 hM hE.1 hk_7) rfl hl.1 rfl (Nat.le_of_ble_eq_true rfl) dX3_second_21 ⟨(Nat.le_of_ble_eq_true rfl), (Nat.le_of_ble_eq_true rfl)⟩ (fun x_9 σ_8 H locs h1 hM hS => ?_)
      replace h := h1
      clear h1
      refine lv_if_ne (tgt := 29) hx hb dX3_second_24 (by decide) (fun hc => ?_) (fun hc => ?_)
      · replace h := h.1 hc
        refine lv_aload hx hb dX3_second_29 (lv_at hl 0 rfl) ?_
        obtain ⟨hk_10, h⟩ := h
        refine gf0_6 hx hb hts inX3_second_0 hown hE.1 hM hk_10 (hts (.fieldLink RX3 185 "WorkCoder$Item" "means" "I") (by decide +kernel)) dX3_second_31 ?_
        refine lv_iconst (v := 2) hx hb dX3_second_34 (by decide) ?_
        refine lv_icmp_ne (tgt := 51) hx hb dX3_second_35 (by decide) (fun hc => ?_) (fun hc => ?_)
        · replace h := h.1 hc
          refine lv_iconst (v := 0) hx hb dX3_second_51 (by decide) ?_
          exact oX3_second_52 CX  _ _ _ _ _ _ _ h hM hS (lv_sub hl [1, 4, 0] rfl)
        · replace h := h.2 hc
          refine lv_aload hx hb dX3_second_38 (lv_at hl 0 rfl) ?_
          refine gf0_7 hx hb hts inX3_second_0 hown hE.1 hM hk_10 (hts (.fieldLink RX3 188 "WorkCoder$Item" "by" "I") (by decide +kernel)) dX3_second_40 ?_
          refine lv_iload_n hx hb dX3_second_43 rfl (lv_at hl 3 rfl) ?_
          refine lv_icmp_ne (tgt := 51) hx hb dX3_second_44 (by decide) (fun hc => ?_) (fun hc => ?_)
          · replace h := h.1 hc
            refine lv_iconst (v := 0) hx hb dX3_second_51 (by decide) ?_
            exact oX3_second_52 CX  _ _ _ _ _ _ _ h hM hS (lv_sub hl [1, 4, 0] rfl)
          · replace h := h.2 hc
            refine lv_iconst (v := 1) hx hb dX3_second_47 (by decide) ?_
            refine lv_goto (tgt := 52) hx hb dX3_second_48 (by decide) ?_
            exact oX3_second_52 CX  _ _ _ _ _ _ _ h hM hS (lv_sub hl [1, 4, 0] rfl)
      · replace h := h.2 hc
        refine lv_iconst (v := (-1)) hx hb dX3_second_27 (by decide) ?_
        exact W.iret (v := (-1)) hx hb hr (fun t_ ht hW => ⟨⟨_, _, rfl, h, mB_of ht hM⟩, hS.F ht⟩) hS.2.2 dX3_second_28
end S_X3_second
set_option maxHeartbeats 4000000 in
set_option maxRecDepth 100000 in
theorem ok_X3_second (l : Launch) (D : va_G) (cs : CS) (A : Nat → Prop) (t : Nat) (x1 : Int32) (x2 : Int32) (x3 : Int32) (σ : MM) (k : Int32 → MM → Prop) (h : wX3_second t x1 x2 x3 σ k) : Met l yX3_second wsX3_second rmX3_second (va_Pc [.ref t, .int x1, .int x2, .int x3] (mP D cs A σ)) (va_Qi k (mB D cs A) A) 0 0 A := by
  refine Met.ofW (cc := cX3_second) (maxL := 6) (ret := (some .int)) (by decide) rfl ?_
  intro p e s m args below meth c s₁ B hml hv
  obtain ⟨rfl, hM, hE⟩ := hv
  have CX : CXM p s m _ meth c cX3_second 6 (some .int) "second" RX3 wsX3_second D cs A := ⟨B.exec, B.bytes, hml, B.returns, (name_of_methodNamed B.named B.method).1, findClass_of_methodNamed B.named, atoms_spec (ws := wsX3_second) B.pre, B.notSynchronized, hE⟩
  have hl := lv_entry ([.ref t, .int x1, .int x2, .int x3]) (n := 6) (Nat.le_of_ble_eq_true rfl)
  rw [lg_entry_eq]
  exact oX3_second_0 CX x1 x2 x3 σ _ _ _ h hM va_S.rf hl
/-! WorkCoder.told(II)I -/
abbrev rmX3_told : Room := { frames := 5, cells := 0, slots := 0, locals := 115 }
theorem inX3_told_0 : ∀ w ∈ wsX00, w ∈ wsX3_told := fun _ h => List.mem_cons_of_mem _ (List.mem_append_left _ (List.mem_append_left _ (List.mem_append_right _ (h))))
section S_X3_told
variable {p : Program} {l : Launch} {e : Env} {s : State} {m : MethodId} {args : Array Value} {below : List Frame} {meth : Method} {c : Code} {D : va_G} {cs : CS} {A : Nat → Prop}
set_option maxHeartbeats 4000000 in
set_option maxRecDepth 100000 in
theorem oX3_told_0 {k : Int32 → MM → Prop} {t : Nat} (CX : CXM p s m args meth c cX3_told 4 (some .int) "told" RX3 wsX3_told D cs A) : ∀ (x1 : Int32) (x2 : Int32) (σ : MM) (H : Heap) (locs : List Loc) (ls : Array Slot), wX3_told t x1 x2 σ k → PH D cs A σ H → va_S A s.heap H locs → lv_has ls 4 [(0, .ref t), (1, .int x1), (2, .int x2)] → W p l e (headSpec wsX3_told rmX3_told).room s m args below meth c H locs 0 0 (MQ below (va_Qi k (mB D cs A) A) args s 0 0 A) (F0 m 0 ls []) := by
  intro x1 x2 σ H locs ls h hM hS hl
  have ⟨hx, hb, hml, hr, hnm, hown, hts, hlocks, hE⟩ := CX
  unfold wX3_told at h
  refine lv_aload_n hx hb dX3_told_0 rfl (lv_at hl 0 rfl) ?_
  refine lv_iload_n hx hb dX3_told_1 rfl (lv_at hl 1 rfl) ?_
  obtain ⟨hk_1, h⟩ := h
  refine clVq (C := RX3) (b := t) (As := [.int x1]) (rest := []) ⟨hx, hb, hml, hown, hts⟩ hM hE hS (ok_X3_itemAt l D cs A t x1 _ _ h) (cwV 1 hts gX3_told_X3_itemAt rfl rfl rfl (by decide +kernel) ⟨(Nat.le_of_ble_eq_true rfl), (Nat.le_of_ble_eq_true rfl)⟩) (rc3 hM hE.1 hk_1) rfl hl.1 rfl (Nat.le_of_ble_eq_true rfl) dX3_told_2 ⟨(Nat.le_of_ble_eq_true rfl), (Nat.le_of_ble_eq_true rfl)⟩ (fun r_3 σ_2 H locs h1 hM hS => ?_)
  replace h := h1
  clear h1
  refine nl_astore_n (i := 3) (lv' := [(3, va_rf r_3), (0, .ref t), (1, .int x1), (2, .int x2)]) hx hb dX3_told_5 rfl hl (by decide) rfl (fun ls hl => ?_)
  refine nl_aload_n hx hb dX3_told_6 rfl (lv_at hl 0 rfl) ?_
  refine nl_ifnonnull (tgt := 12) hx hb dX3_told_7 (by decide) (fun a_4 hn => ?_) (fun hn => ?_)
  · replace h := h.1 a_4 hn
    subst hn
    refine lv_iload_n hx hb dX3_told_12 rfl (lv_at hl 3 rfl) ?_
    rcases sw_5 x2 with hc | hc | hc | hc | hc | hc | hc
    · replace h := h.1 hc
      refine lv_tableOut (tgt := 91) hx hb dX3_told_13 hc (by decide) ?_
      refine lv_iconst (v := (-1)) hx hb dX3_told_91 (by decide) ?_
      exact W.iret (v := (-1)) hx hb hr (fun t_ ht hW => ⟨⟨_, _, rfl, h, mB_of ht hM⟩, hS.F ht⟩) hS.2.2 dX3_told_92
    · replace h := h.2.1 hc
      refine lv_tableIn (tgt := 52) (off := 39) hx hb dX3_told_13 (by rw [hc]; decide) (by rw [hc]; decide) (by rw [hc]; rfl) (by decide) ?_
      refine lv_aload_n hx hb dX3_told_52 rfl (lv_at hl 0 rfl) ?_
      obtain ⟨hk_5, h⟩ := h
      refine gf0_4 hx hb hts inX3_told_0 hown hE.1 hM hk_5 (hts (.fieldLink RX3 107 "WorkCoder$Item" "state" "I") (by decide +kernel)) dX3_told_53 ?_
      exact W.iret (v := mI σ_2 a_4 4) hx hb hr (fun t_ ht hW => ⟨⟨_, _, rfl, h, mB_of ht hM⟩, hS.F ht⟩) hS.2.2 dX3_told_56
    · replace h := h.2.2.1 hc
      refine lv_tableIn (tgt := 57) (off := 44) hx hb dX3_told_13 (by rw [hc]; decide) (by rw [hc]; decide) (by rw [hc]; rfl) (by decide) ?_
      refine lv_aload_n hx hb dX3_told_57 rfl (lv_at hl 0 rfl) ?_
      obtain ⟨hk_6, h⟩ := h
      refine gf0_5 hx hb hts inX3_told_0 hown hE.1 hM hk_6 (hts (.fieldLink RX3 194 "WorkCoder$Item" "code" "I") (by decide +kernel)) dX3_told_58 ?_
      exact W.iret (v := mI σ_2 a_4 5) hx hb hr (fun t_ ht hW => ⟨⟨_, _, rfl, h, mB_of ht hM⟩, hS.F ht⟩) hS.2.2 dX3_told_61
    · replace h := h.2.2.2.1 hc
      refine lv_tableIn (tgt := 62) (off := 49) hx hb dX3_told_13 (by rw [hc]; decide) (by rw [hc]; decide) (by rw [hc]; rfl) (by decide) ?_
      refine lv_aload_n hx hb dX3_told_62 rfl (lv_at hl 0 rfl) ?_
      obtain ⟨hk_7, h⟩ := h
      refine gf0_6 hx hb hts inX3_told_0 hown hE.1 hM hk_7 (hts (.fieldLink RX3 185 "WorkCoder$Item" "means" "I") (by decide +kernel)) dX3_told_63 ?_
      exact W.iret (v := mI σ_2 a_4 6) hx hb hr (fun t_ ht hW => ⟨⟨_, _, rfl, h, mB_of ht hM⟩, hS.F ht⟩) hS.2.2 dX3_told_66
    · replace h := h.2.2.2.2.1 hc
      refine lv_tableIn (tgt := 67) (off := 54) hx hb dX3_told_13 (by rw [hc]; decide) (by rw [hc]; decide) (by rw [hc]; rfl) (by decide) ?_
      refine lv_aload_n hx hb dX3_told_67 rfl (lv_at hl 0 rfl) ?_
      obtain ⟨hk_8, h⟩ := h
      refine gf0_7 hx hb hts inX3_told_0 hown hE.1 hM hk_8 (hts (.fieldLink RX3 188 "WorkCoder$Item" "by" "I") (by decide +kernel)) dX3_told_68 ?_
      exact W.iret (v := mI σ_2 a_4 7) hx hb hr (fun t_ ht hW => ⟨⟨_, _, rfl, h, mB_of ht hM⟩, hS.F ht⟩) hS.2.2 dX3_told_71
    · replace h := h.2.2.2.2.2.1 hc
      refine lv_tableIn (tgt := 72) (off := 59) hx hb dX3_told_13 (by rw [hc]; decide) (by rw [hc]; decide) (by rw [hc]; rfl) (by decide) ?_
      refine lv_aload_n hx hb dX3_told_72 rfl (lv_at hl 0 rfl) ?_
      obtain ⟨hk_9, h⟩ := h
      refine gf0_8 hx hb hts inX3_told_0 hown hE.1 hM hk_9 (hts (.fieldLink RX3 191 "WorkCoder$Item" "second" "I") (by decide +kernel)) dX3_told_73 ?_
      exact W.iret (v := mI σ_2 a_4 8) hx hb hr (fun t_ ht hW => ⟨⟨_, _, rfl, h, mB_of ht hM⟩, hS.F ht⟩) hS.2.2 dX3_told_76
    · replace h := h.2.2.2.2.2.2 hc
      refine lv_tableIn (tgt := 77) (off := 64) hx hb dX3_told_13 (by rw [hc]; decide) (by rw [hc]; decide) (by rw [hc]; rfl) (by decide) ?_
      refine lv_aload_n hx hb dX3_told_77 rfl (lv_at hl 1 rfl) ?_
      refine lv_aload_n hx hb dX3_told_78 rfl (lv_at hl 0 rfl) ?_
      obtain ⟨hk_10, h⟩ := h
      refine clVi (C := RX3) (b := t) (As := [.ref a_4]) (rest := []) ⟨hx, hb, hml, hown, hts⟩ hM hE hS (ok_X3_isStale l D cs A t (some a_4) _ _ h) (cwV 1 hts gX3_told_X3_isStale rfl rfl rfl (by decide +kernel) ⟨(Nat.le_of_ble_eq_true rfl), (Nat.le_of_ble_eq_true rfl)⟩) (rc3 hM hE.1 hk_10) rfl hl.1 rfl (Nat.le_of_ble_eq_true rfl) dX3_told_79 ⟨(Nat.le_of_ble_eq_true rfl), (Nat.le_of_ble_eq_true rfl)⟩ (fun x_12 σ_11 H locs h1 hM hS => ?_)
      replace h := h1
      clear h1
      refine lv_if_eq (tgt := 89) hx hb dX3_told_82 (by decide) (fun hc => ?_) (fun hc => ?_)
      · replace h := h.1 hc
        refine lv_iconst (v := 0) hx hb dX3_told_89 (by decide) ?_
        exact W.iret (v := 0) hx hb hr (fun t_ ht hW => ⟨⟨_, _, rfl, h, mB_of ht hM⟩, hS.F ht⟩) hS.2.2 dX3_told_90
      · replace h := h.2 hc
        refine lv_iconst (v := 1) hx hb dX3_told_85 (by decide) ?_
        refine lv_goto (tgt := 90) hx hb dX3_told_86 (by decide) ?_
        exact W.iret (v := 1) hx hb hr (fun t_ ht hW => ⟨⟨_, _, rfl, h, mB_of ht hM⟩, hS.F ht⟩) hS.2.2 dX3_told_90
  · replace h := h.2 hn
    subst hn
    refine lv_iconst (v := (-1)) hx hb dX3_told_10 (by decide) ?_
    exact W.iret (v := (-1)) hx hb hr (fun t_ ht hW => ⟨⟨_, _, rfl, h, mB_of ht hM⟩, hS.F ht⟩) hS.2.2 dX3_told_11
end S_X3_told
set_option maxHeartbeats 4000000 in
set_option maxRecDepth 100000 in
theorem ok_X3_told (l : Launch) (D : va_G) (cs : CS) (A : Nat → Prop) (t : Nat) (x1 : Int32) (x2 : Int32) (σ : MM) (k : Int32 → MM → Prop) (h : wX3_told t x1 x2 σ k) : Met l yX3_told wsX3_told rmX3_told (va_Pc [.ref t, .int x1, .int x2] (mP D cs A σ)) (va_Qi k (mB D cs A) A) 0 0 A := by
  refine Met.ofW (cc := cX3_told) (maxL := 4) (ret := (some .int)) (by decide) rfl ?_
  intro p e s m args below meth c s₁ B hml hv
  obtain ⟨rfl, hM, hE⟩ := hv
  have CX : CXM p s m _ meth c cX3_told 4 (some .int) "told" RX3 wsX3_told D cs A := ⟨B.exec, B.bytes, hml, B.returns, (name_of_methodNamed B.named B.method).1, findClass_of_methodNamed B.named, atoms_spec (ws := wsX3_told) B.pre, B.notSynchronized, hE⟩
  have hl := lv_entry ([.ref t, .int x1, .int x2]) (n := 4) (Nat.le_of_ble_eq_true rfl)
  rw [lg_entry_eq]
  exact oX3_told_0 CX x1 x2 σ _ _ _ h hM va_S.rf hl
/-! WorkCoder.countCodedWith(J)I -/
abbrev rmX3_countCodedWith : Room := { frames := 2, cells := 0, slots := 0, locals := 42 }
theorem inX3_countCodedWith_0 : ∀ w ∈ wsX00, w ∈ wsX3_countCodedWith := fun _ h => List.mem_cons_of_mem _ (List.mem_append_left _ (List.mem_append_right _ (h)))
theorem inX3_countCodedWith_3 : ∀ w ∈ wsX30, w ∈ wsX3_countCodedWith := fun _ h => List.mem_cons_of_mem _ (List.mem_append_left _ (List.mem_append_left _ (List.mem_append_right _ (h))))
section S_X3_countCodedWith
variable {p : Program} {l : Launch} {e : Env} {s : State} {m : MethodId} {args : Array Value} {below : List Frame} {meth : Method} {c : Code} {D : va_G} {cs : CS} {A : Nat → Prop}
set_option maxHeartbeats 4000000 in
set_option maxRecDepth 100000 in
theorem oX3_countCodedWith_5 {k : Int32 → MM → Prop} {t : Nat} (CX : CXM p s m args meth c cX3_countCodedWith 6 (some .int) "countCodedWith" RX3 wsX3_countCodedWith D cs A) : ∀ (n : Nat), ∀ (y1 : Int64) (x3 : Int32) (x4 : Int32) (σ : MM) (H : Heap) (locs : List Loc) (ls : Array Slot), wX3_countCodedWith_5 k t  n y1 x3 x4 σ → PH D cs A σ H → va_S A s.heap H locs → lv_has ls 6 [(0, .ref t), (1, .long y1), (3, .int x3), (4, .int x4)] → W p l e (headSpec wsX3_countCodedWith rmX3_countCodedWith).room s m args below meth c H locs 0 0 (MQ below (va_Qi k (mB D cs A) A) args s 0 0 A) (F0 m 5 ls []) := by
  intro n
  induction n with
  | zero => intro y1 x3 x4 σ H locs ls h; exact h.elim
  | succ n ih =>
    intro y1 x3 x4 σ H locs ls h hM hS hl
    have ⟨hx, hb, hml, hr, hnm, hown, hts, hlocks, hE⟩ := CX
    unfold wX3_countCodedWith_5 at h
    refine lv_iload hx hb dX3_countCodedWith_5 (lv_at hl 3 rfl) ?_
    refine lv_aload_n hx hb dX3_countCodedWith_7 rfl (lv_at hl 0 rfl) ?_
    obtain ⟨hk_1, h⟩ := h
    refine gf3_5 hx hb hts inX3_countCodedWith_3 hown hE.1 hM hk_1 (hts (.fieldLink RX3 34 "WorkCoder" "items" "[LWorkCoder$Item;") (by decide +kernel)) dX3_countCodedWith_8 (fun r_2 er_2 => ?_)
    replace h := h r_2 er_2
    clear er_2
    obtain ⟨a_3, rfl, h⟩ := h
    obtain ⟨hk_4, h⟩ := h
    refine mm_alen9 hx hb hE.1 hM hk_4 dX3_countCodedWith_11 ?_
    refine lv_icmp_ge (tgt := 63) hx hb dX3_countCodedWith_12 (by decide) (fun hc => ?_) (fun hc => ?_)
    · replace h := h.1 hc
      refine lv_iload_n hx hb dX3_countCodedWith_63 rfl (lv_at hl 2 rfl) ?_
      exact W.iret (v := x3) hx hb hr (fun t_ ht hW => ⟨⟨_, _, rfl, h, mB_of ht hM⟩, hS.F ht⟩) hS.2.2 dX3_countCodedWith_64
    · replace h := h.2 hc
      refine lv_aload_n hx hb dX3_countCodedWith_15 rfl (lv_at hl 0 rfl) ?_
      refine gf3_5 hx hb hts inX3_countCodedWith_3 hown hE.1 hM hk_1 (hts (.fieldLink RX3 34 "WorkCoder" "items" "[LWorkCoder$Item;") (by decide +kernel)) dX3_countCodedWith_16 (fun r_5 er_5 => ?_)
      replace h := h r_5 er_5
      clear er_5
      refine lv_iload hx hb dX3_countCodedWith_19 (lv_at hl 3 rfl) ?_
      obtain ⟨a_6, rfl, h⟩ := h
      obtain ⟨hk_7, h⟩ := h
      obtain ⟨hv_8, h⟩ := h
      refine mm_aald9 hx hb hE.1 hM hk_7 hv_8 dX3_countCodedWith_21 (fun r_9 er_9 => ?_)
      replace h := h r_9 er_9
      clear er_9
      refine nl_astore (i := 5) (lv' := [(5, va_rf r_9), (0, .ref t), (1, .long y1), (3, .int x3), (4, .int x4)]) hx hb dX3_countCodedWith_22 hl (by decide) rfl (fun ls hl => ?_)
      refine nl_aload hx hb dX3_countCodedWith_24 (lv_at hl 0 rfl) ?_
      refine nl_ifnull (tgt := 57) hx hb dX3_countCodedWith_26 (by decide) (fun hn => ?_) (fun a_10 hn => ?_)
      · replace h := h.1 hn
        subst hn
        obtain ⟨x_11, ex_11⟩ : ∃ y : Int32, y = x4 + 1 := ⟨_, rfl⟩
        replace h := h x_11 ex_11
        refine lv_iinc (v := x_11) (lv' := [(4, .int x_11), (5, .null), (0, .ref t), (1, .long y1), (3, .int x3)]) hx hb dX3_countCodedWith_57 hl (k := 4) rfl (by rw [ex_11]; rfl) (by decide) rfl (fun ls hl => ?_)
        refine lv_goto (tgt := 5) hx hb dX3_countCodedWith_60 (by decide) ?_
        exact ih _ _ _ _ _ _ _ h hM hS (lv_sub hl [2, 3, 4, 0] rfl)
      · replace h := h.2 a_10 hn
        subst hn
        refine lv_aload_n hx hb dX3_countCodedWith_29 rfl (lv_at hl 1 rfl) ?_
        refine lv_aload hx hb dX3_countCodedWith_30 (lv_at hl 0 rfl) ?_
        obtain ⟨hk_12, h⟩ := h
        refine gf0_5 hx hb hts inX3_countCodedWith_0 hown hE.1 hM hk_12 (hts (.fieldLink RX3 194 "WorkCoder$Item" "code" "I") (by decide +kernel)) dX3_countCodedWith_32 ?_
        refine clVi (C := RX3) (b := t) (As := [.int (mI σ a_10 5)]) (rest := []) ⟨hx, hb, hml, hown, hts⟩ hM hE hS (ok_X3_isCode l D cs A t (mI σ a_10 5) _ _ h) (cwV 1 hts gX3_countCodedWith_X3_isCode rfl rfl rfl (by decide +kernel) ⟨(Nat.le_of_ble_eq_true rfl), (Nat.le_of_ble_eq_true rfl)⟩) (rc3 hM hE.1 hk_1) rfl hl.1 rfl (Nat.le_of_ble_eq_true rfl) dX3_countCodedWith_35 ⟨(Nat.le_of_ble_eq_true rfl), (Nat.le_of_ble_eq_true rfl)⟩ (fun x_14 σ_13 H locs h1 hM hS => ?_)
        replace h := h1
        clear h1
        refine lv_if_eq (tgt := 57) hx hb dX3_countCodedWith_38 (by decide) (fun hc => ?_) (fun hc => ?_)
        · replace h := h.1 hc
          obtain ⟨x_15, ex_15⟩ : ∃ y : Int32, y = x4 + 1 := ⟨_, rfl⟩
          replace h := h x_15 ex_15
          refine lv_iinc (v := x_15) (lv' := [(4, .int x_15), (5, .ref a_10), (0, .ref t), (1, .long y1), (3, .int x3)]) hx hb dX3_countCodedWith_57 hl (k := 4) rfl (by rw [ex_15]; rfl) (by decide) rfl (fun ls hl => ?_)
          refine lv_goto (tgt := 5) hx hb dX3_countCodedWith_60 (by decide) ?_
          exact ih _ _ _ _ _ _ _ h hM hS (lv_sub hl [2, 3, 4, 0] rfl)
        · replace h := h.2 hc
          refine lv_lload_n hx hb dX3_countCodedWith_41 rfl (lv_at hl 2 rfl) ?_
          refine lv_aload hx hb dX3_countCodedWith_42 (lv_at hl 0 rfl) ?_
          obtain ⟨hk_16, h⟩ := h
          refine gf0_5 hx hb hts inX3_countCodedWith_0 hown hE.1 hM hk_16 (hts (.fieldLink RX3 194 "WorkCoder$Item" "code" "I") (by decide +kernel)) dX3_countCodedWith_44 ?_
          refine clSi (As := [.long y1, .int (mI σ_13 a_10 5)]) (rest := []) ⟨hx, hb, hml, hown, hts⟩ hM hE hS (ok_X3_bit l D cs A y1 (mI σ_13 a_10 5) _ _ h) (va_cwS 2 hts gX3_countCodedWith_X3_bit rfl rfl rfl (by decide +kernel) ⟨(Nat.le_of_ble_eq_true rfl), (Nat.le_of_ble_eq_true rfl)⟩) rfl hl.1 rfl (Nat.le_of_ble_eq_true rfl) dX3_countCodedWith_47 ⟨(Nat.le_of_ble_eq_true rfl), (Nat.le_of_ble_eq_true rfl)⟩ (fun x_18 σ_17 H locs h1 hM hS => ?_)
          replace h := h1
          clear h1
          refine lv_iconst (v := 1) hx hb dX3_countCodedWith_50 (by decide) ?_
          refine lv_icmp_ne (tgt := 57) hx hb dX3_countCodedWith_51 (by decide) (fun hc => ?_) (fun hc => ?_)
          · replace h := h.1 hc
            obtain ⟨x_19, ex_19⟩ : ∃ y : Int32, y = x4 + 1 := ⟨_, rfl⟩
            replace h := h x_19 ex_19
            refine lv_iinc (v := x_19) (lv' := [(4, .int x_19), (5, .ref a_10), (0, .ref t), (1, .long y1), (3, .int x3)]) hx hb dX3_countCodedWith_57 hl (k := 4) rfl (by rw [ex_19]; rfl) (by decide) rfl (fun ls hl => ?_)
            refine lv_goto (tgt := 5) hx hb dX3_countCodedWith_60 (by decide) ?_
            exact ih _ _ _ _ _ _ _ h hM hS (lv_sub hl [2, 3, 4, 0] rfl)
          · replace h := h.2 hc
            obtain ⟨x_20, ex_20⟩ : ∃ y : Int32, y = x3 + 1 := ⟨_, rfl⟩
            replace h := h x_20 ex_20
            refine lv_iinc (v := x_20) (lv' := [(3, .int x_20), (5, .ref a_10), (0, .ref t), (1, .long y1), (4, .int x4)]) hx hb dX3_countCodedWith_54 hl (k := 3) rfl (by rw [ex_20]; rfl) (by decide) rfl (fun ls hl => ?_)
            obtain ⟨x_21, ex_21⟩ : ∃ y : Int32, y = x4 + 1 := ⟨_, rfl⟩
            replace h := h x_21 ex_21
            refine lv_iinc (v := x_21) (lv' := [(4, .int x_21), (3, .int x_20), (5, .ref a_10), (0, .ref t), (1, .long y1)]) hx hb dX3_countCodedWith_57 hl (k := 4) rfl (by rw [ex_21]; rfl) (by decide) rfl (fun ls hl => ?_)
            refine lv_goto (tgt := 5) hx hb dX3_countCodedWith_60 (by decide) ?_
            exact ih _ _ _ _ _ _ _ h hM hS (lv_sub hl [3, 4, 1, 0] rfl)
set_option maxHeartbeats 4000000 in
set_option maxRecDepth 100000 in
theorem oX3_countCodedWith_0 {k : Int32 → MM → Prop} {t : Nat} (CX : CXM p s m args meth c cX3_countCodedWith 6 (some .int) "countCodedWith" RX3 wsX3_countCodedWith D cs A) : ∀ (y1 : Int64) (σ : MM) (H : Heap) (locs : List Loc) (ls : Array Slot), wX3_countCodedWith t y1 σ k → PH D cs A σ H → va_S A s.heap H locs → lv_has ls 6 [(0, .ref t), (1, .long y1)] → W p l e (headSpec wsX3_countCodedWith rmX3_countCodedWith).room s m args below meth c H locs 0 0 (MQ below (va_Qi k (mB D cs A) A) args s 0 0 A) (F0 m 0 ls []) := by
  intro y1 σ H locs ls h hM hS hl
  have ⟨hx, hb, hml, hr, hnm, hown, hts, hlocks, hE⟩ := CX
  unfold wX3_countCodedWith at h
  refine lv_iconst (v := 0) hx hb dX3_countCodedWith_0 (by decide) ?_
  refine lv_istore_n (i := 3) (lv' := [(3, .int 0), (0, .ref t), (1, .long y1)]) hx hb dX3_countCodedWith_1 rfl hl (by decide) rfl (fun ls hl => ?_)
  refine lv_iconst (v := 0) hx hb dX3_countCodedWith_2 (by decide) ?_
  refine lv_istore (i := 4) (lv' := [(4, .int 0), (3, .int 0), (0, .ref t), (1, .long y1)]) hx hb dX3_countCodedWith_3 hl (by decide) rfl (fun ls hl => ?_)
  obtain ⟨n0, h⟩ := h
  exact oX3_countCodedWith_5 CX  n0 _ _ _ _ _ _ _ h hM hS (lv_sub hl [2, 3, 1, 0] rfl)
end S_X3_countCodedWith
set_option maxHeartbeats 4000000 in
set_option maxRecDepth 100000 in
theorem ok_X3_countCodedWith (l : Launch) (D : va_G) (cs : CS) (A : Nat → Prop) (t : Nat) (y1 : Int64) (σ : MM) (k : Int32 → MM → Prop) (h : wX3_countCodedWith t y1 σ k) : Met l yX3_countCodedWith wsX3_countCodedWith rmX3_countCodedWith (va_Pc [.ref t, .long y1] (mP D cs A σ)) (va_Qi k (mB D cs A) A) 0 0 A := by
  refine Met.ofW (cc := cX3_countCodedWith) (maxL := 6) (ret := (some .int)) (by decide) rfl ?_
  intro p e s m args below meth c s₁ B hml hv
  obtain ⟨rfl, hM, hE⟩ := hv
  have CX : CXM p s m _ meth c cX3_countCodedWith 6 (some .int) "countCodedWith" RX3 wsX3_countCodedWith D cs A := ⟨B.exec, B.bytes, hml, B.returns, (name_of_methodNamed B.named B.method).1, findClass_of_methodNamed B.named, atoms_spec (ws := wsX3_countCodedWith) B.pre, B.notSynchronized, hE⟩
  have hl := lv_entry ([.ref t, .long y1]) (n := 6) (Nat.le_of_ble_eq_true rfl)
  rw [lg_entry_eq]
  exact oX3_countCodedWith_0 CX y1 σ _ _ _ h hM va_S.rf hl
/-! WorkCoder.coded(I)I -/
abbrev rmX3_coded : Room := { frames := 3, cells := 0, slots := 0, locals := 67 }
theorem inX3_coded_3 : ∀ w ∈ wsX30, w ∈ wsX3_coded := fun _ h => List.mem_cons_of_mem _ (List.mem_append_left _ (List.mem_append_left _ (List.mem_append_right _ (h))))
section S_X3_coded
variable {p : Program} {l : Launch} {e : Env} {s : State} {m : MethodId} {args : Array Value} {below : List Frame} {meth : Method} {c : Code} {D : va_G} {cs : CS} {A : Nat → Prop}
set_option maxHeartbeats 4000000 in
set_option maxRecDepth 100000 in
theorem oX3_coded_0 {k : Int32 → MM → Prop} {t : Nat} (CX : CXM p s m args meth c cX3_coded 2 (some .int) "coded" RX3 wsX3_coded D cs A) : ∀ (x1 : Int32) (σ : MM) (H : Heap) (locs : List Loc) (ls : Array Slot), wX3_coded t x1 σ k → PH D cs A σ H → va_S A s.heap H locs → lv_has ls 2 [(0, .ref t), (1, .int x1)] → W p l e (headSpec wsX3_coded rmX3_coded).room s m args below meth c H locs 0 0 (MQ below (va_Qi k (mB D cs A) A) args s 0 0 A) (F0 m 0 ls []) := by
  intro x1 σ H locs ls h hM hS hl
  have ⟨hx, hb, hml, hr, hnm, hown, hts, hlocks, hE⟩ := CX
  unfold wX3_coded at h
  refine lv_aload_n hx hb dX3_coded_0 rfl (lv_at hl 0 rfl) ?_
  refine lv_iload_n hx hb dX3_coded_1 rfl (lv_at hl 1 rfl) ?_
  obtain ⟨hk_1, h⟩ := h
  refine clVi (C := RX3) (b := t) (As := [.int x1]) (rest := []) ⟨hx, hb, hml, hown, hts⟩ hM hE hS (ok_X3_isCode l D cs A t x1 _ _ h) (cwV 1 hts gX3_coded_X3_isCode rfl rfl rfl (by decide +kernel) ⟨(Nat.le_of_ble_eq_true rfl), (Nat.le_of_ble_eq_true rfl)⟩) (rc3 hM hE.1 hk_1) rfl hl.1 rfl (Nat.le_of_ble_eq_true rfl) dX3_coded_2 ⟨(Nat.le_of_ble_eq_true rfl), (Nat.le_of_ble_eq_true rfl)⟩ (fun x_3 σ_2 H locs h1 hM hS => ?_)
  replace h := h1
  clear h1
  refine lv_if_ne (tgt := 10) hx hb dX3_coded_5 (by decide) (fun hc => ?_) (fun hc => ?_)
  · replace h := h.1 hc
    refine lv_aload_n hx hb dX3_coded_10 rfl (lv_at hl 0 rfl) ?_
    refine lv_aload_n hx hb dX3_coded_11 rfl (lv_at hl 0 rfl) ?_
    obtain ⟨hk_4, h⟩ := h
    refine gf3_0 hx hb hts inX3_coded_3 hown hE.1 hM hk_4 (hts (.fieldLink RX3 14 "WorkCoder" "scheme" "LWorkCoder$Scheme;") (by decide +kernel)) dX3_coded_12 (fun r_5 er_5 => ?_)
    replace h := h r_5 er_5
    clear er_5
    refine lv_lconst (v := 1) hx hb dX3_coded_15 (by decide) ?_
    refine lv_iload_n hx hb dX3_coded_16 rfl (lv_at hl 1 rfl) ?_
    refine lv_lshl hx hb dX3_coded_17 (v := lShl (1 : Int64) x1) rfl ?_
    obtain ⟨a_6, rfl, h⟩ := h
    obtain ⟨hk_7, h⟩ := h
    refine clVl (C := RX2) (b := a_6) (As := [.long (lShl (1 : Int64) x1)]) (rest := [.ref t]) ⟨hx, hb, hml, hown, hts⟩ hM hE hS (ok_X2_below l D cs A a_6 (lShl (1 : Int64) x1) _ _ h) (cwV 1 hts gX3_coded_X2_below rfl rfl rfl (by decide +kernel) ⟨(Nat.le_of_ble_eq_true rfl), (Nat.le_of_ble_eq_true rfl)⟩) (rc2 hM hE.1 hk_7) rfl hl.1 rfl (Nat.le_of_ble_eq_true rfl) dX3_coded_18 ⟨(Nat.le_of_ble_eq_true rfl), (Nat.le_of_ble_eq_true rfl)⟩ (fun y_9 σ_8 H locs h1 hM hS => ?_)
    replace h := h1
    clear h1
    obtain ⟨hk_10, h⟩ := h
    refine clVi (C := RX3) (b := t) (As := [.long y_9]) (rest := []) ⟨hx, hb, hml, hown, hts⟩ hM hE hS (ok_X3_countCodedWith l D cs A t y_9 _ _ h) (cwV 1 hts gX3_coded_X3_countCodedWith rfl rfl rfl (by decide +kernel) ⟨(Nat.le_of_ble_eq_true rfl), (Nat.le_of_ble_eq_true rfl)⟩) (rc3 hM hE.1 hk_10) rfl hl.1 rfl (Nat.le_of_ble_eq_true rfl) dX3_coded_21 ⟨(Nat.le_of_ble_eq_true rfl), (Nat.le_of_ble_eq_true rfl)⟩ (fun x_12 σ_11 H locs h1 hM hS => ?_)
    replace h := h1
    clear h1
    exact W.iret (v := x_12) hx hb hr (fun t_ ht hW => ⟨⟨_, _, rfl, h, mB_of ht hM⟩, hS.F ht⟩) hS.2.2 dX3_coded_24
  · replace h := h.2 hc
    refine lv_iconst (v := (-1)) hx hb dX3_coded_8 (by decide) ?_
    exact W.iret (v := (-1)) hx hb hr (fun t_ ht hW => ⟨⟨_, _, rfl, h, mB_of ht hM⟩, hS.F ht⟩) hS.2.2 dX3_coded_9
end S_X3_coded
set_option maxHeartbeats 4000000 in
set_option maxRecDepth 100000 in
theorem ok_X3_coded (l : Launch) (D : va_G) (cs : CS) (A : Nat → Prop) (t : Nat) (x1 : Int32) (σ : MM) (k : Int32 → MM → Prop) (h : wX3_coded t x1 σ k) : Met l yX3_coded wsX3_coded rmX3_coded (va_Pc [.ref t, .int x1] (mP D cs A σ)) (va_Qi k (mB D cs A) A) 0 0 A := by
  refine Met.ofW (cc := cX3_coded) (maxL := 2) (ret := (some .int)) (by decide) rfl ?_
  intro p e s m args below meth c s₁ B hml hv
  obtain ⟨rfl, hM, hE⟩ := hv
  have CX : CXM p s m _ meth c cX3_coded 2 (some .int) "coded" RX3 wsX3_coded D cs A := ⟨B.exec, B.bytes, hml, B.returns, (name_of_methodNamed B.named B.method).1, findClass_of_methodNamed B.named, atoms_spec (ws := wsX3_coded) B.pre, B.notSynchronized, hE⟩
  have hl := lv_entry ([.ref t, .int x1]) (n := 2) (Nat.le_of_ble_eq_true rfl)
  rw [lg_entry_eq]
  exact oX3_coded_0 CX x1 σ _ _ _ h hM va_S.rf hl
/-! WorkCoder.total(II)I -/
abbrev rmX3_total : Room := { frames := 3, cells := 0, slots := 0, locals := 67 }
theorem inX3_total_3 : ∀ w ∈ wsX30, w ∈ wsX3_total := fun _ h => List.mem_cons_of_mem _ (List.mem_append_left _ (List.mem_append_left _ (List.mem_append_right _ (h))))
section S_X3_total
variable {p : Program} {l : Launch} {e : Env} {s : State} {m : MethodId} {args : Array Value} {below : List Frame} {meth : Method} {c : Code} {D : va_G} {cs : CS} {A : Nat → Prop}
set_option maxHeartbeats 4000000 in
set_option maxRecDepth 100000 in
theorem oX3_total_93 {k : Int32 → MM → Prop} {t : Nat} {g39 : Int32 → Int64 → Int64 → Int32 → MM → Prop} (CX : CXM p s m args meth c cX3_total 10 (some .int) "total" RX3 wsX3_total D cs A) (hg39 : ∀ (x2 : Int32) (y3 : Int64) (y5 : Int64) (x7 : Int32) (σ : MM) (H : Heap) (locs : List Loc) (ls : Array Slot), g39 x2 y3 y5 x7 σ → PH D cs A σ H → va_S A s.heap H locs → lv_has ls 10 [(0, .ref t), (2, .int x2), (3, .long y3), (5, .long y5), (7, .int x7)] → W p l e (headSpec wsX3_total rmX3_total).room s m args below meth c H locs 0 0 (MQ below (va_Qi k (mB D cs A) A) args s 0 0 A) (F0 m 39 ls [])) : ∀ (x2 : Int32) (y3 : Int64) (y5 : Int64) (x7 : Int32) (x8 : Int32) (z0 : Int32) (σ : MM) (H : Heap) (locs : List Loc) (ls : Array Slot), wX3_total_93 k t g39 x2 y3 y5 x7 x8 z0 σ → PH D cs A σ H → va_S A s.heap H locs → lv_has ls 10 [(0, .ref t), (2, .int x2), (3, .long y3), (5, .long y5), (7, .int x7), (8, .int x8)] → W p l e (headSpec wsX3_total rmX3_total).room s m args below meth c H locs 0 0 (MQ below (va_Qi k (mB D cs A) A) args s 0 0 A) (F0 m 93 ls [.int z0]) := by
  intro x2 y3 y5 x7 x8 z0 σ H locs ls h hM hS hl
  have ⟨hx, hb, hml, hr, hnm, hown, hts, hlocks, hE⟩ := CX
  unfold wX3_total_93 at h
  refine lv_istore (i := 9) (lv' := [(9, .int z0), (0, .ref t), (2, .int x2), (3, .long y3), (5, .long y5), (7, .int x7), (8, .int x8)]) hx hb dX3_total_93 hl (by decide) rfl (fun ls hl => ?_)
  refine lv_iload hx hb dX3_total_95 (lv_at hl 6 rfl) ?_
  refine lv_if_eq (tgt := 119) hx hb dX3_total_97 (by decide) (fun hc => ?_) (fun hc => ?_)
  · replace h := h.1 hc
    obtain ⟨x_1, ex_1⟩ : ∃ y : Int32, y = x7 + 1 := ⟨_, rfl⟩
    replace h := h x_1 ex_1
    refine lv_iinc (v := x_1) (lv' := [(7, .int x_1), (9, .int z0), (0, .ref t), (2, .int x2), (3, .long y3), (5, .long y5), (8, .int x8)]) hx hb dX3_total_119 hl (k := 5) rfl (by rw [ex_1]; rfl) (by decide) rfl (fun ls hl => ?_)
    refine lv_goto (tgt := 39) hx hb dX3_total_122 (by decide) ?_
    exact hg39 _ _ _ _ _ _ _ _ h hM hS (lv_sub hl [2, 3, 4, 5, 0] rfl)
  · replace h := h.2 hc
    refine lv_iload_n hx hb dX3_total_100 rfl (lv_at hl 2 rfl) ?_
    refine lv_iconst (v := 1) hx hb dX3_total_101 (by decide) ?_
    refine lv_icmp_eq (tgt := 110) hx hb dX3_total_102 (by decide) (fun hc => ?_) (fun hc => ?_)
    · replace h := h.1 hc
      refine lv_lload hx hb dX3_total_110 (lv_at hl 4 rfl) ?_
      refine lv_lconst (v := 1) hx hb dX3_total_112 (by decide) ?_
      refine lv_iload hx hb dX3_total_113 (lv_at hl 5 rfl) ?_
      refine lv_lshl hx hb dX3_total_115 (v := lShl (1 : Int64) x7) rfl ?_
      refine lv_lor hx hb dX3_total_116 ?_
      refine lv_topl (fun y_2 ey_2 => ?_)
      replace h := h y_2 ey_2
      refine lv_lstore (i := 5) (lv' := [(5, .long y_2), (9, .int z0), (0, .ref t), (2, .int x2), (3, .long y3), (7, .int x7), (8, .int x8)]) hx hb dX3_total_117 hl (by decide) rfl (fun ls hl => ?_)
      obtain ⟨x_3, ex_3⟩ : ∃ y : Int32, y = x7 + 1 := ⟨_, rfl⟩
      replace h := h x_3 ex_3
      refine lv_iinc (v := x_3) (lv' := [(7, .int x_3), (5, .long y_2), (9, .int z0), (0, .ref t), (2, .int x2), (3, .long y3), (8, .int x8)]) hx hb dX3_total_119 hl (k := 5) rfl (by rw [ex_3]; rfl) (by decide) rfl (fun ls hl => ?_)
      refine lv_goto (tgt := 39) hx hb dX3_total_122 (by decide) ?_
      exact hg39 _ _ _ _ _ _ _ _ h hM hS (lv_sub hl [3, 4, 5, 1, 0] rfl)
    · replace h := h.2 hc
      refine lv_iload hx hb dX3_total_105 (lv_at hl 0 rfl) ?_
      refine lv_if_ne (tgt := 119) hx hb dX3_total_107 (by decide) (fun hc => ?_) (fun hc => ?_)
      · replace h := h.1 hc
        obtain ⟨x_4, ex_4⟩ : ∃ y : Int32, y = x7 + 1 := ⟨_, rfl⟩
        replace h := h x_4 ex_4
        refine lv_iinc (v := x_4) (lv' := [(7, .int x_4), (9, .int z0), (0, .ref t), (2, .int x2), (3, .long y3), (5, .long y5), (8, .int x8)]) hx hb dX3_total_119 hl (k := 5) rfl (by rw [ex_4]; rfl) (by decide) rfl (fun ls hl => ?_)
        refine lv_goto (tgt := 39) hx hb dX3_total_122 (by decide) ?_
        exact hg39 _ _ _ _ _ _ _ _ h hM hS (lv_sub hl [2, 3, 4, 5, 0] rfl)
      · replace h := h.2 hc
        refine lv_lload hx hb dX3_total_110 (lv_at hl 4 rfl) ?_
        refine lv_lconst (v := 1) hx hb dX3_total_112 (by decide) ?_
        refine lv_iload hx hb dX3_total_113 (lv_at hl 5 rfl) ?_
        refine lv_lshl hx hb dX3_total_115 (v := lShl (1 : Int64) x7) rfl ?_
        refine lv_lor hx hb dX3_total_116 ?_
        refine lv_topl (fun y_5 ey_5 => ?_)
        replace h := h y_5 ey_5
        refine lv_lstore (i := 5) (lv' := [(5, .long y_5), (9, .int z0), (0, .ref t), (2, .int x2), (3, .long y3), (7, .int x7), (8, .int x8)]) hx hb dX3_total_117 hl (by decide) rfl (fun ls hl => ?_)
        obtain ⟨x_6, ex_6⟩ : ∃ y : Int32, y = x7 + 1 := ⟨_, rfl⟩
        replace h := h x_6 ex_6
        refine lv_iinc (v := x_6) (lv' := [(7, .int x_6), (5, .long y_5), (9, .int z0), (0, .ref t), (2, .int x2), (3, .long y3), (8, .int x8)]) hx hb dX3_total_119 hl (k := 5) rfl (by rw [ex_6]; rfl) (by decide) rfl (fun ls hl => ?_)
        refine lv_goto (tgt := 39) hx hb dX3_total_122 (by decide) ?_
        exact hg39 _ _ _ _ _ _ _ _ h hM hS (lv_sub hl [3, 4, 5, 1, 0] rfl)
set_option maxHeartbeats 4000000 in
set_option maxRecDepth 100000 in
theorem oX3_total_68 {k : Int32 → MM → Prop} {t : Nat} {g39 : Int32 → Int64 → Int64 → Int32 → MM → Prop} (CX : CXM p s m args meth c cX3_total 10 (some .int) "total" RX3 wsX3_total D cs A) (hg39 : ∀ (x2 : Int32) (y3 : Int64) (y5 : Int64) (x7 : Int32) (σ : MM) (H : Heap) (locs : List Loc) (ls : Array Slot), g39 x2 y3 y5 x7 σ → PH D cs A σ H → va_S A s.heap H locs → lv_has ls 10 [(0, .ref t), (2, .int x2), (3, .long y3), (5, .long y5), (7, .int x7)] → W p l e (headSpec wsX3_total rmX3_total).room s m args below meth c H locs 0 0 (MQ below (va_Qi k (mB D cs A) A) args s 0 0 A) (F0 m 39 ls [])) : ∀ (x2 : Int32) (y3 : Int64) (y5 : Int64) (x7 : Int32) (z0 : Int32) (σ : MM) (H : Heap) (locs : List Loc) (ls : Array Slot), wX3_total_68 k t g39 x2 y3 y5 x7 z0 σ → PH D cs A σ H → va_S A s.heap H locs → lv_has ls 10 [(0, .ref t), (2, .int x2), (3, .long y3), (5, .long y5), (7, .int x7)] → W p l e (headSpec wsX3_total rmX3_total).room s m args below meth c H locs 0 0 (MQ below (va_Qi k (mB D cs A) A) args s 0 0 A) (F0 m 68 ls [.int z0]) := by
  intro x2 y3 y5 x7 z0 σ H locs ls h hM hS hl
  have ⟨hx, hb, hml, hr, hnm, hown, hts, hlocks, hE⟩ := CX
  unfold wX3_total_68 at h
  refine lv_istore (i := 8) (lv' := [(8, .int z0), (0, .ref t), (2, .int x2), (3, .long y3), (5, .long y5), (7, .int x7)]) hx hb dX3_total_68 hl (by decide) rfl (fun ls hl => ?_)
  refine lv_aload_n hx hb dX3_total_70 rfl (lv_at hl 1 rfl) ?_
  obtain ⟨hk_1, h⟩ := h
  refine gf3_3 hx hb hts inX3_total_3 hown hE.1 hM hk_1 (hts (.fieldLink RX3 25 "WorkCoder" "carried" "[J") (by decide +kernel)) dX3_total_71 (fun r_2 er_2 => ?_)
  replace h := h r_2 er_2
  clear er_2
  refine lv_iload hx hb dX3_total_74 (lv_at hl 5 rfl) ?_
  obtain ⟨a_3, rfl, h⟩ := h
  obtain ⟨hk_4, h⟩ := h
  obtain ⟨hv_5, h⟩ := h
  refine mm_lald hx hb hE.1 hM hk_4 hv_5 dX3_total_76 ?_
  refine lv_lload_n hx hb dX3_total_77 rfl (lv_at hl 3 rfl) ?_
  refine lv_ldc2 (v := (-1)) hx hb hown (hts (.constantLong RX3 203 (-1)) (by decide +kernel)) dX3_total_78 ?_
  refine lv_lxor hx hb dX3_total_81 ?_
  refine lv_land hx hb dX3_total_82 ?_
  refine lv_lconst (v := 0) hx hb dX3_total_83 (by decide) ?_
  refine lc_eq (tgt := 92) hx hb dX3_total_84 dX3_total_85 (by decide) (fun hc => ?_) (fun hc => ?_)
  · replace h := h.1 hc
    refine lv_iconst (v := 0) hx hb dX3_total_92 (by decide) ?_
    exact oX3_total_93 CX hg39 _ _ _ _ _ _ _ _ _ _ h hM hS (lv_sub hl [1, 2, 3, 4, 5, 0] rfl)
  · replace h := h.2 hc
    refine lv_iconst (v := 1) hx hb dX3_total_88 (by decide) ?_
    refine lv_goto (tgt := 93) hx hb dX3_total_89 (by decide) ?_
    exact oX3_total_93 CX hg39 _ _ _ _ _ _ _ _ _ _ h hM hS (lv_sub hl [1, 2, 3, 4, 5, 0] rfl)
set_option maxHeartbeats 4000000 in
set_option maxRecDepth 100000 in
theorem oX3_total_39 {k : Int32 → MM → Prop} {t : Nat} (CX : CXM p s m args meth c cX3_total 10 (some .int) "total" RX3 wsX3_total D cs A) : ∀ (n : Nat), ∀ (x2 : Int32) (y3 : Int64) (y5 : Int64) (x7 : Int32) (σ : MM) (H : Heap) (locs : List Loc) (ls : Array Slot), wX3_total_39 k t  n x2 y3 y5 x7 σ → PH D cs A σ H → va_S A s.heap H locs → lv_has ls 10 [(0, .ref t), (2, .int x2), (3, .long y3), (5, .long y5), (7, .int x7)] → W p l e (headSpec wsX3_total rmX3_total).room s m args below meth c H locs 0 0 (MQ below (va_Qi k (mB D cs A) A) args s 0 0 A) (F0 m 39 ls []) := by
  intro n
  induction n with
  | zero => intro x2 y3 y5 x7 σ H locs ls h; exact h.elim
  | succ n ih =>
    intro x2 y3 y5 x7 σ H locs ls h hM hS hl
    have ⟨hx, hb, hml, hr, hnm, hown, hts, hlocks, hE⟩ := CX
    unfold wX3_total_39 at h
    refine lv_iload hx hb dX3_total_39 (lv_at hl 4 rfl) ?_
    refine lv_aload_n hx hb dX3_total_41 rfl (lv_at hl 0 rfl) ?_
    obtain ⟨hk_1, h⟩ := h
    refine gf3_3 hx hb hts inX3_total_3 hown hE.1 hM hk_1 (hts (.fieldLink RX3 25 "WorkCoder" "carried" "[J") (by decide +kernel)) dX3_total_42 (fun r_2 er_2 => ?_)
    replace h := h r_2 er_2
    clear er_2
    obtain ⟨a_3, rfl, h⟩ := h
    obtain ⟨hk_4, h⟩ := h
    refine mm_alen7 hx hb hE.1 hM hk_4 dX3_total_45 ?_
    refine lv_icmp_ge (tgt := 125) hx hb dX3_total_46 (by decide) (fun hc => ?_) (fun hc => ?_)
    · replace h := h.1 hc
      refine lv_aload_n hx hb dX3_total_125 rfl (lv_at hl 0 rfl) ?_
      refine lv_lload hx hb dX3_total_126 (lv_at hl 3 rfl) ?_
      refine clVi (C := RX3) (b := t) (As := [.long y5]) (rest := []) ⟨hx, hb, hml, hown, hts⟩ hM hE hS (ok_X3_countCodedWith l D cs A t y5 _ _ h) (cwV 1 hts gX3_total_X3_countCodedWith rfl rfl rfl (by decide +kernel) ⟨(Nat.le_of_ble_eq_true rfl), (Nat.le_of_ble_eq_true rfl)⟩) (rc3 hM hE.1 hk_1) rfl hl.1 rfl (Nat.le_of_ble_eq_true rfl) dX3_total_128 ⟨(Nat.le_of_ble_eq_true rfl), (Nat.le_of_ble_eq_true rfl)⟩ (fun x_6 σ_5 H locs h1 hM hS => ?_)
      replace h := h1
      clear h1
      exact W.iret (v := x_6) hx hb hr (fun t_ ht hW => ⟨⟨_, _, rfl, h, mB_of ht hM⟩, hS.F ht⟩) hS.2.2 dX3_total_131
    · replace h := h.2 hc
      refine lv_aload_n hx hb dX3_total_49 rfl (lv_at hl 0 rfl) ?_
      refine gf3_3 hx hb hts inX3_total_3 hown hE.1 hM hk_1 (hts (.fieldLink RX3 25 "WorkCoder" "carried" "[J") (by decide +kernel)) dX3_total_50 (fun r_7 er_7 => ?_)
      replace h := h r_7 er_7
      clear er_7
      refine lv_iload hx hb dX3_total_53 (lv_at hl 4 rfl) ?_
      obtain ⟨a_8, rfl, h⟩ := h
      obtain ⟨hk_9, h⟩ := h
      obtain ⟨hv_10, h⟩ := h
      refine mm_lald hx hb hE.1 hM hk_9 hv_10 dX3_total_55 ?_
      refine lv_lload_n hx hb dX3_total_56 rfl (lv_at hl 2 rfl) ?_
      refine lv_land hx hb dX3_total_57 ?_
      refine lv_lconst (v := 0) hx hb dX3_total_58 (by decide) ?_
      refine lc_eq (tgt := 67) hx hb dX3_total_59 dX3_total_60 (by decide) (fun hc => ?_) (fun hc => ?_)
      · replace h := h.1 hc
        refine lv_iconst (v := 0) hx hb dX3_total_67 (by decide) ?_
        exact oX3_total_68 CX ih _ _ _ _ _ _ _ _ _ h hM hS (lv_sub hl [0, 1, 2, 3, 4] rfl)
      · replace h := h.2 hc
        refine lv_iconst (v := 1) hx hb dX3_total_63 (by decide) ?_
        refine lv_goto (tgt := 68) hx hb dX3_total_64 (by decide) ?_
        exact oX3_total_68 CX ih _ _ _ _ _ _ _ _ _ h hM hS (lv_sub hl [0, 1, 2, 3, 4] rfl)
set_option maxHeartbeats 4000000 in
set_option maxRecDepth 100000 in
theorem oX3_total_0 {k : Int32 → MM → Prop} {t : Nat} (CX : CXM p s m args meth c cX3_total 10 (some .int) "total" RX3 wsX3_total D cs A) : ∀ (x1 : Int32) (x2 : Int32) (σ : MM) (H : Heap) (locs : List Loc) (ls : Array Slot), wX3_total t x1 x2 σ k → PH D cs A σ H → va_S A s.heap H locs → lv_has ls 10 [(0, .ref t), (1, .int x1), (2, .int x2)] → W p l e (headSpec wsX3_total rmX3_total).room s m args below meth c H locs 0 0 (MQ below (va_Qi k (mB D cs A) A) args s 0 0 A) (F0 m 0 ls []) := by
  intro x1 x2 σ H locs ls h hM hS hl
  have ⟨hx, hb, hml, hr, hnm, hown, hts, hlocks, hE⟩ := CX
  unfold wX3_total at h
  refine lv_aload_n hx hb dX3_total_0 rfl (lv_at hl 0 rfl) ?_
  obtain ⟨hk_1, h⟩ := h
  refine gf3_1 hx hb hts inX3_total_3 hown hE.1 hM hk_1 (hts (.fieldLink RX3 18 "WorkCoder" "otherScheme" "LWorkCoder$Scheme;") (by decide +kernel)) dX3_total_1 (fun r_2 er_2 => ?_)
  replace h := h r_2 er_2
  clear er_2
  refine lv_iload_n hx hb dX3_total_4 rfl (lv_at hl 1 rfl) ?_
  obtain ⟨a_3, rfl, h⟩ := h
  obtain ⟨hk_4, h⟩ := h
  refine clVi (C := RX2) (b := a_3) (As := [.int x1]) (rest := []) ⟨hx, hb, hml, hown, hts⟩ hM hE hS (ok_X2_has l D cs A a_3 x1 _ _ h) (cwV 1 hts gX3_total_X2_has rfl rfl rfl (by decide +kernel) ⟨(Nat.le_of_ble_eq_true rfl), (Nat.le_of_ble_eq_true rfl)⟩) (rc2 hM hE.1 hk_4) rfl hl.1 rfl (Nat.le_of_ble_eq_true rfl) dX3_total_5 ⟨(Nat.le_of_ble_eq_true rfl), (Nat.le_of_ble_eq_true rfl)⟩ (fun x_6 σ_5 H locs h1 hM hS => ?_)
  replace h := h1
  clear h1
  refine lv_if_eq (tgt := 20) hx hb dX3_total_8 (by decide) (fun hc => ?_) (fun hc => ?_)
  · replace h := h.1 hc
    refine lv_iconst (v := (-1)) hx hb dX3_total_20 (by decide) ?_
    exact W.iret (v := (-1)) hx hb hr (fun t_ ht hW => ⟨⟨_, _, rfl, h, mB_of ht hM⟩, hS.F ht⟩) hS.2.2 dX3_total_21
  · replace h := h.2 hc
    refine lv_iload_n hx hb dX3_total_11 rfl (lv_at hl 2 rfl) ?_
    refine lv_iconst (v := 0) hx hb dX3_total_12 (by decide) ?_
    refine lv_iconst (v := 1) hx hb dX3_total_13 (by decide) ?_
    refine clSi (As := [.int x2, .int 0, .int 1]) (rest := []) ⟨hx, hb, hml, hown, hts⟩ hM hE hS (ok_X3_isIn l D cs A x2 0 1 _ _ h) (va_cwS 3 hts gX3_total_X3_isIn rfl rfl rfl (by decide +kernel) ⟨(Nat.le_of_ble_eq_true rfl), (Nat.le_of_ble_eq_true rfl)⟩) rfl hl.1 rfl (Nat.le_of_ble_eq_true rfl) dX3_total_14 ⟨(Nat.le_of_ble_eq_true rfl), (Nat.le_of_ble_eq_true rfl)⟩ (fun x_8 σ_7 H locs h1 hM hS => ?_)
    replace h := h1
    clear h1
    refine lv_if_ne (tgt := 22) hx hb dX3_total_17 (by decide) (fun hc => ?_) (fun hc => ?_)
    · replace h := h.1 hc
      refine lv_aload_n hx hb dX3_total_22 rfl (lv_at hl 0 rfl) ?_
      obtain ⟨hk_9, h⟩ := h
      refine gf3_1 hx hb hts inX3_total_3 hown hE.1 hM hk_9 (hts (.fieldLink RX3 18 "WorkCoder" "otherScheme" "LWorkCoder$Scheme;") (by decide +kernel)) dX3_total_23 (fun r_10 er_10 => ?_)
      replace h := h r_10 er_10
      clear er_10
      refine lv_lconst (v := 1) hx hb dX3_total_26 (by decide) ?_
      refine lv_iload_n hx hb dX3_total_27 rfl (lv_at hl 1 rfl) ?_
      refine lv_lshl hx hb dX3_total_28 (v := lShl (1 : Int64) x1) rfl ?_
      obtain ⟨a_11, rfl, h⟩ := h
      obtain ⟨hk_12, h⟩ := h
      refine clVl (C := RX2) (b := a_11) (As := [.long (lShl (1 : Int64) x1)]) (rest := []) ⟨hx, hb, hml, hown, hts⟩ hM hE hS (ok_X2_below l D cs A a_11 (lShl (1 : Int64) x1) _ _ h) (cwV 1 hts gX3_total_X2_below rfl rfl rfl (by decide +kernel) ⟨(Nat.le_of_ble_eq_true rfl), (Nat.le_of_ble_eq_true rfl)⟩) (rc2 hM hE.1 hk_12) rfl hl.1 rfl (Nat.le_of_ble_eq_true rfl) dX3_total_29 ⟨(Nat.le_of_ble_eq_true rfl), (Nat.le_of_ble_eq_true rfl)⟩ (fun y_14 σ_13 H locs h1 hM hS => ?_)
      replace h := h1
      clear h1
      refine lv_lstore_n (i := 3) (lv' := [(3, .long y_14), (0, .ref t), (1, .int x1), (2, .int x2)]) hx hb dX3_total_32 rfl hl (by decide) rfl (fun ls hl => ?_)
      refine lv_lconst (v := 0) hx hb dX3_total_33 (by decide) ?_
      refine lv_lstore (i := 5) (lv' := [(5, .long 0), (3, .long y_14), (0, .ref t), (1, .int x1), (2, .int x2)]) hx hb dX3_total_34 hl (by decide) rfl (fun ls hl => ?_)
      refine lv_iconst (v := 0) hx hb dX3_total_36 (by decide) ?_
      refine lv_istore (i := 7) (lv' := [(7, .int 0), (5, .long 0), (3, .long y_14), (0, .ref t), (1, .int x1), (2, .int x2)]) hx hb dX3_total_37 hl (by decide) rfl (fun ls hl => ?_)
      obtain ⟨n0, h⟩ := h
      exact oX3_total_39 CX  n0 _ _ _ _ _ _ _ _ h hM hS (lv_sub hl [3, 5, 2, 1, 0] rfl)
    · replace h := h.2 hc
      refine lv_iconst (v := (-1)) hx hb dX3_total_20 (by decide) ?_
      exact W.iret (v := (-1)) hx hb hr (fun t_ ht hW => ⟨⟨_, _, rfl, h, mB_of ht hM⟩, hS.F ht⟩) hS.2.2 dX3_total_21
end S_X3_total
set_option maxHeartbeats 4000000 in
set_option maxRecDepth 100000 in
theorem ok_X3_total (l : Launch) (D : va_G) (cs : CS) (A : Nat → Prop) (t : Nat) (x1 : Int32) (x2 : Int32) (σ : MM) (k : Int32 → MM → Prop) (h : wX3_total t x1 x2 σ k) : Met l yX3_total wsX3_total rmX3_total (va_Pc [.ref t, .int x1, .int x2] (mP D cs A σ)) (va_Qi k (mB D cs A) A) 0 0 A := by
  refine Met.ofW (cc := cX3_total) (maxL := 10) (ret := (some .int)) (by decide) rfl ?_
  intro p e s m args below meth c s₁ B hml hv
  obtain ⟨rfl, hM, hE⟩ := hv
  have CX : CXM p s m _ meth c cX3_total 10 (some .int) "total" RX3 wsX3_total D cs A := ⟨B.exec, B.bytes, hml, B.returns, (name_of_methodNamed B.named B.method).1, findClass_of_methodNamed B.named, atoms_spec (ws := wsX3_total) B.pre, B.notSynchronized, hE⟩
  have hl := lv_entry ([.ref t, .int x1, .int x2]) (n := 10) (Nat.le_of_ble_eq_true rfl)
  rw [lg_entry_eq]
  exact oX3_total_0 CX x1 x2 σ _ _ _ h hM va_S.rf hl
/-! WorkCoder.countSeconds()I -/
abbrev rmX3_countSeconds : Room := { frames := 0, cells := 0, slots := 0, locals := 0 }
theorem inX3_countSeconds_0 : ∀ w ∈ wsX00, w ∈ wsX3_countSeconds := fun _ h => List.mem_cons_of_mem _ (List.mem_append_right _ (h))
theorem inX3_countSeconds_3 : ∀ w ∈ wsX30, w ∈ wsX3_countSeconds := fun _ h => List.mem_cons_of_mem _ (List.mem_append_left _ (List.mem_append_right _ (h)))
section S_X3_countSeconds
variable {p : Program} {l : Launch} {e : Env} {s : State} {m : MethodId} {args : Array Value} {below : List Frame} {meth : Method} {c : Code} {D : va_G} {cs : CS} {A : Nat → Prop}
set_option maxHeartbeats 4000000 in
set_option maxRecDepth 100000 in
theorem oX3_countSeconds_4 {k : Int32 → MM → Prop} {t : Nat} (CX : CXM p s m args meth c cX3_countSeconds 3 (some .int) "countSeconds" RX3 wsX3_countSeconds D cs A) : ∀ (n : Nat), ∀ (x1 : Int32) (x2 : Int32) (σ : MM) (H : Heap) (locs : List Loc) (ls : Array Slot), wX3_countSeconds_4 k t  n x1 x2 σ → PH D cs A σ H → va_S A s.heap H locs → lv_has ls 3 [(0, .ref t), (1, .int x1), (2, .int x2)] → W p l e (headSpec wsX3_countSeconds rmX3_countSeconds).room s m args below meth c H locs 0 0 (MQ below (va_Qi k (mB D cs A) A) args s 0 0 A) (F0 m 4 ls []) := by
  intro n
  induction n with
  | zero => intro x1 x2 σ H locs ls h; exact h.elim
  | succ n ih =>
    intro x1 x2 σ H locs ls h hM hS hl
    have ⟨hx, hb, hml, hr, hnm, hown, hts, hlocks, hE⟩ := CX
    unfold wX3_countSeconds_4 at h
    refine lv_iload_n hx hb dX3_countSeconds_4 rfl (lv_at hl 2 rfl) ?_
    refine lv_aload_n hx hb dX3_countSeconds_5 rfl (lv_at hl 0 rfl) ?_
    obtain ⟨hk_1, h⟩ := h
    refine gf3_5 hx hb hts inX3_countSeconds_3 hown hE.1 hM hk_1 (hts (.fieldLink RX3 34 "WorkCoder" "items" "[LWorkCoder$Item;") (by decide +kernel)) dX3_countSeconds_6 (fun r_2 er_2 => ?_)
    replace h := h r_2 er_2
    clear er_2
    obtain ⟨a_3, rfl, h⟩ := h
    obtain ⟨hk_4, h⟩ := h
    refine mm_alen9 hx hb hE.1 hM hk_4 dX3_countSeconds_9 ?_
    refine lv_icmp_ge (tgt := 44) hx hb dX3_countSeconds_10 (by decide) (fun hc => ?_) (fun hc => ?_)
    · replace h := h.1 hc
      refine lv_iload_n hx hb dX3_countSeconds_44 rfl (lv_at hl 1 rfl) ?_
      exact W.iret (v := x1) hx hb hr (fun t_ ht hW => ⟨⟨_, _, rfl, h, mB_of ht hM⟩, hS.F ht⟩) hS.2.2 dX3_countSeconds_45
    · replace h := h.2 hc
      refine lv_aload_n hx hb dX3_countSeconds_13 rfl (lv_at hl 0 rfl) ?_
      refine gf3_5 hx hb hts inX3_countSeconds_3 hown hE.1 hM hk_1 (hts (.fieldLink RX3 34 "WorkCoder" "items" "[LWorkCoder$Item;") (by decide +kernel)) dX3_countSeconds_14 (fun r_5 er_5 => ?_)
      replace h := h r_5 er_5
      clear er_5
      refine lv_iload_n hx hb dX3_countSeconds_17 rfl (lv_at hl 2 rfl) ?_
      obtain ⟨a_6, rfl, h⟩ := h
      obtain ⟨hk_7, h⟩ := h
      obtain ⟨hv_8, h⟩ := h
      refine mm_aald9 hx hb hE.1 hM hk_7 hv_8 dX3_countSeconds_18 (fun r_9 er_9 => ?_)
      replace h := h r_9 er_9
      clear er_9
      refine nl_ifnull (tgt := 38) hx hb dX3_countSeconds_19 (by decide) (fun hn => ?_) (fun a_10 hn => ?_)
      · replace h := h.1 hn
        subst hn
        obtain ⟨x_11, ex_11⟩ : ∃ y : Int32, y = x2 + 1 := ⟨_, rfl⟩
        replace h := h x_11 ex_11
        refine lv_iinc (v := x_11) (lv' := [(2, .int x_11), (0, .ref t), (1, .int x1)]) hx hb dX3_countSeconds_38 hl (k := 2) rfl (by rw [ex_11]; rfl) (by decide) rfl (fun ls hl => ?_)
        refine lv_goto (tgt := 4) hx hb dX3_countSeconds_41 (by decide) ?_
        exact ih _ _ _ _ _ _ h hM hS (lv_sub hl [1, 2, 0] rfl)
      · replace h := h.2 a_10 hn
        subst hn
        refine lv_aload_n hx hb dX3_countSeconds_22 rfl (lv_at hl 0 rfl) ?_
        refine gf3_5 hx hb hts inX3_countSeconds_3 hown hE.1 hM hk_1 (hts (.fieldLink RX3 34 "WorkCoder" "items" "[LWorkCoder$Item;") (by decide +kernel)) dX3_countSeconds_23 (fun r_12 er_12 => ?_)
        replace h := h r_12 er_12
        clear er_12
        refine lv_iload_n hx hb dX3_countSeconds_26 rfl (lv_at hl 2 rfl) ?_
        obtain ⟨a_13, rfl, h⟩ := h
        obtain ⟨hk_14, h⟩ := h
        obtain ⟨hv_15, h⟩ := h
        refine mm_aald9 hx hb hE.1 hM hk_14 hv_15 dX3_countSeconds_27 (fun r_16 er_16 => ?_)
        replace h := h r_16 er_16
        clear er_16
        obtain ⟨a_17, rfl, h⟩ := h
        obtain ⟨hk_18, h⟩ := h
        refine gf0_8 hx hb hts inX3_countSeconds_0 hown hE.1 hM hk_18 (hts (.fieldLink RX3 191 "WorkCoder$Item" "second" "I") (by decide +kernel)) dX3_countSeconds_28 ?_
        refine lv_iconst (v := (-1)) hx hb dX3_countSeconds_31 (by decide) ?_
        refine lv_icmp_eq (tgt := 38) hx hb dX3_countSeconds_32 (by decide) (fun hc => ?_) (fun hc => ?_)
        · replace h := h.1 hc
          obtain ⟨x_19, ex_19⟩ : ∃ y : Int32, y = x2 + 1 := ⟨_, rfl⟩
          replace h := h x_19 ex_19
          refine lv_iinc (v := x_19) (lv' := [(2, .int x_19), (0, .ref t), (1, .int x1)]) hx hb dX3_countSeconds_38 hl (k := 2) rfl (by rw [ex_19]; rfl) (by decide) rfl (fun ls hl => ?_)
          refine lv_goto (tgt := 4) hx hb dX3_countSeconds_41 (by decide) ?_
          exact ih _ _ _ _ _ _ h hM hS (lv_sub hl [1, 2, 0] rfl)
        · replace h := h.2 hc
          obtain ⟨x_20, ex_20⟩ : ∃ y : Int32, y = x1 + 1 := ⟨_, rfl⟩
          replace h := h x_20 ex_20
          refine lv_iinc (v := x_20) (lv' := [(1, .int x_20), (0, .ref t), (2, .int x2)]) hx hb dX3_countSeconds_35 hl (k := 1) rfl (by rw [ex_20]; rfl) (by decide) rfl (fun ls hl => ?_)
          obtain ⟨x_21, ex_21⟩ : ∃ y : Int32, y = x2 + 1 := ⟨_, rfl⟩
          replace h := h x_21 ex_21
          refine lv_iinc (v := x_21) (lv' := [(2, .int x_21), (1, .int x_20), (0, .ref t)]) hx hb dX3_countSeconds_38 hl (k := 2) rfl (by rw [ex_21]; rfl) (by decide) rfl (fun ls hl => ?_)
          refine lv_goto (tgt := 4) hx hb dX3_countSeconds_41 (by decide) ?_
          exact ih _ _ _ _ _ _ h hM hS (lv_sub hl [2, 1, 0] rfl)
set_option maxHeartbeats 4000000 in
set_option maxRecDepth 100000 in
theorem oX3_countSeconds_0 {k : Int32 → MM → Prop} {t : Nat} (CX : CXM p s m args meth c cX3_countSeconds 3 (some .int) "countSeconds" RX3 wsX3_countSeconds D cs A) : ∀ (σ : MM) (H : Heap) (locs : List Loc) (ls : Array Slot), wX3_countSeconds t σ k → PH D cs A σ H → va_S A s.heap H locs → lv_has ls 3 [(0, .ref t)] → W p l e (headSpec wsX3_countSeconds rmX3_countSeconds).room s m args below meth c H locs 0 0 (MQ below (va_Qi k (mB D cs A) A) args s 0 0 A) (F0 m 0 ls []) := by
  intro  σ H locs ls h hM hS hl
  have ⟨hx, hb, hml, hr, hnm, hown, hts, hlocks, hE⟩ := CX
  unfold wX3_countSeconds at h
  refine lv_iconst (v := 0) hx hb dX3_countSeconds_0 (by decide) ?_
  refine lv_istore_n (i := 1) (lv' := [(1, .int 0), (0, .ref t)]) hx hb dX3_countSeconds_1 rfl hl (by decide) rfl (fun ls hl => ?_)
  refine lv_iconst (v := 0) hx hb dX3_countSeconds_2 (by decide) ?_
  refine lv_istore_n (i := 2) (lv' := [(2, .int 0), (1, .int 0), (0, .ref t)]) hx hb dX3_countSeconds_3 rfl hl (by decide) rfl (fun ls hl => ?_)
  obtain ⟨n0, h⟩ := h
  exact oX3_countSeconds_4 CX  n0 _ _ _ _ _ _ h hM hS (lv_sub hl [2, 1, 0] rfl)
end S_X3_countSeconds
set_option maxHeartbeats 4000000 in
set_option maxRecDepth 100000 in
theorem ok_X3_countSeconds (l : Launch) (D : va_G) (cs : CS) (A : Nat → Prop) (t : Nat) (σ : MM) (k : Int32 → MM → Prop) (h : wX3_countSeconds t σ k) : Met l yX3_countSeconds wsX3_countSeconds rmX3_countSeconds (va_Pc [.ref t] (mP D cs A σ)) (va_Qi k (mB D cs A) A) 0 0 A := by
  refine Met.ofW (cc := cX3_countSeconds) (maxL := 3) (ret := (some .int)) (by decide) rfl ?_
  intro p e s m args below meth c s₁ B hml hv
  obtain ⟨rfl, hM, hE⟩ := hv
  have CX : CXM p s m _ meth c cX3_countSeconds 3 (some .int) "countSeconds" RX3 wsX3_countSeconds D cs A := ⟨B.exec, B.bytes, hml, B.returns, (name_of_methodNamed B.named B.method).1, findClass_of_methodNamed B.named, atoms_spec (ws := wsX3_countSeconds) B.pre, B.notSynchronized, hE⟩
  have hl := lv_entry ([.ref t]) (n := 3) (Nat.le_of_ble_eq_true rfl)
  rw [lg_entry_eq]
  exact oX3_countSeconds_0 CX  σ _ _ _ h hM va_S.rf hl
/-! WorkCoder.countAgreeing()I -/
abbrev rmX3_countAgreeing : Room := { frames := 0, cells := 0, slots := 0, locals := 0 }
theorem inX3_countAgreeing_0 : ∀ w ∈ wsX00, w ∈ wsX3_countAgreeing := fun _ h => List.mem_cons_of_mem _ (List.mem_append_right _ (h))
theorem inX3_countAgreeing_3 : ∀ w ∈ wsX30, w ∈ wsX3_countAgreeing := fun _ h => List.mem_cons_of_mem _ (List.mem_append_left _ (List.mem_append_right _ (h)))
section S_X3_countAgreeing
variable {p : Program} {l : Launch} {e : Env} {s : State} {m : MethodId} {args : Array Value} {below : List Frame} {meth : Method} {c : Code} {D : va_G} {cs : CS} {A : Nat → Prop}
set_option maxHeartbeats 4000000 in
set_option maxRecDepth 100000 in
theorem oX3_countAgreeing_4 {k : Int32 → MM → Prop} {t : Nat} (CX : CXM p s m args meth c cX3_countAgreeing 4 (some .int) "countAgreeing" RX3 wsX3_countAgreeing D cs A) : ∀ (n : Nat), ∀ (x1 : Int32) (x2 : Int32) (σ : MM) (H : Heap) (locs : List Loc) (ls : Array Slot), wX3_countAgreeing_4 k t  n x1 x2 σ → PH D cs A σ H → va_S A s.heap H locs → lv_has ls 4 [(0, .ref t), (1, .int x1), (2, .int x2)] → W p l e (headSpec wsX3_countAgreeing rmX3_countAgreeing).room s m args below meth c H locs 0 0 (MQ below (va_Qi k (mB D cs A) A) args s 0 0 A) (F0 m 4 ls []) := by
  intro n
  induction n with
  | zero => intro x1 x2 σ H locs ls h; exact h.elim
  | succ n ih =>
    intro x1 x2 σ H locs ls h hM hS hl
    have ⟨hx, hb, hml, hr, hnm, hown, hts, hlocks, hE⟩ := CX
    unfold wX3_countAgreeing_4 at h
    refine lv_iload_n hx hb dX3_countAgreeing_4 rfl (lv_at hl 2 rfl) ?_
    refine lv_aload_n hx hb dX3_countAgreeing_5 rfl (lv_at hl 0 rfl) ?_
    obtain ⟨hk_1, h⟩ := h
    refine gf3_5 hx hb hts inX3_countAgreeing_3 hown hE.1 hM hk_1 (hts (.fieldLink RX3 34 "WorkCoder" "items" "[LWorkCoder$Item;") (by decide +kernel)) dX3_countAgreeing_6 (fun r_2 er_2 => ?_)
    replace h := h r_2 er_2
    clear er_2
    obtain ⟨a_3, rfl, h⟩ := h
    obtain ⟨hk_4, h⟩ := h
    refine mm_alen9 hx hb hE.1 hM hk_4 dX3_countAgreeing_9 ?_
    refine lv_icmp_ge (tgt := 52) hx hb dX3_countAgreeing_10 (by decide) (fun hc => ?_) (fun hc => ?_)
    · replace h := h.1 hc
      refine lv_iload_n hx hb dX3_countAgreeing_52 rfl (lv_at hl 1 rfl) ?_
      exact W.iret (v := x1) hx hb hr (fun t_ ht hW => ⟨⟨_, _, rfl, h, mB_of ht hM⟩, hS.F ht⟩) hS.2.2 dX3_countAgreeing_53
    · replace h := h.2 hc
      refine lv_aload_n hx hb dX3_countAgreeing_13 rfl (lv_at hl 0 rfl) ?_
      refine gf3_5 hx hb hts inX3_countAgreeing_3 hown hE.1 hM hk_1 (hts (.fieldLink RX3 34 "WorkCoder" "items" "[LWorkCoder$Item;") (by decide +kernel)) dX3_countAgreeing_14 (fun r_5 er_5 => ?_)
      replace h := h r_5 er_5
      clear er_5
      refine lv_iload_n hx hb dX3_countAgreeing_17 rfl (lv_at hl 2 rfl) ?_
      obtain ⟨a_6, rfl, h⟩ := h
      obtain ⟨hk_7, h⟩ := h
      obtain ⟨hv_8, h⟩ := h
      refine mm_aald9 hx hb hE.1 hM hk_7 hv_8 dX3_countAgreeing_18 (fun r_9 er_9 => ?_)
      replace h := h r_9 er_9
      clear er_9
      refine nl_astore_n (i := 3) (lv' := [(3, va_rf r_9), (0, .ref t), (1, .int x1), (2, .int x2)]) hx hb dX3_countAgreeing_19 rfl hl (by decide) rfl (fun ls hl => ?_)
      refine nl_aload_n hx hb dX3_countAgreeing_20 rfl (lv_at hl 0 rfl) ?_
      refine nl_ifnull (tgt := 46) hx hb dX3_countAgreeing_21 (by decide) (fun hn => ?_) (fun a_10 hn => ?_)
      · replace h := h.1 hn
        subst hn
        obtain ⟨x_11, ex_11⟩ : ∃ y : Int32, y = x2 + 1 := ⟨_, rfl⟩
        replace h := h x_11 ex_11
        refine lv_iinc (v := x_11) (lv' := [(2, .int x_11), (3, .null), (0, .ref t), (1, .int x1)]) hx hb dX3_countAgreeing_46 hl (k := 3) rfl (by rw [ex_11]; rfl) (by decide) rfl (fun ls hl => ?_)
        refine lv_goto (tgt := 4) hx hb dX3_countAgreeing_49 (by decide) ?_
        exact ih _ _ _ _ _ _ h hM hS (lv_sub hl [2, 3, 0] rfl)
      · replace h := h.2 a_10 hn
        subst hn
        refine lv_aload_n hx hb dX3_countAgreeing_24 rfl (lv_at hl 0 rfl) ?_
        obtain ⟨hk_12, h⟩ := h
        refine gf0_8 hx hb hts inX3_countAgreeing_0 hown hE.1 hM hk_12 (hts (.fieldLink RX3 191 "WorkCoder$Item" "second" "I") (by decide +kernel)) dX3_countAgreeing_25 ?_
        refine lv_iconst (v := (-1)) hx hb dX3_countAgreeing_28 (by decide) ?_
        refine lv_icmp_eq (tgt := 46) hx hb dX3_countAgreeing_29 (by decide) (fun hc => ?_) (fun hc => ?_)
        · replace h := h.1 hc
          obtain ⟨x_13, ex_13⟩ : ∃ y : Int32, y = x2 + 1 := ⟨_, rfl⟩
          replace h := h x_13 ex_13
          refine lv_iinc (v := x_13) (lv' := [(2, .int x_13), (3, .ref a_10), (0, .ref t), (1, .int x1)]) hx hb dX3_countAgreeing_46 hl (k := 3) rfl (by rw [ex_13]; rfl) (by decide) rfl (fun ls hl => ?_)
          refine lv_goto (tgt := 4) hx hb dX3_countAgreeing_49 (by decide) ?_
          exact ih _ _ _ _ _ _ h hM hS (lv_sub hl [2, 3, 0] rfl)
        · replace h := h.2 hc
          refine lv_aload_n hx hb dX3_countAgreeing_32 rfl (lv_at hl 0 rfl) ?_
          refine gf0_8 hx hb hts inX3_countAgreeing_0 hown hE.1 hM hk_12 (hts (.fieldLink RX3 191 "WorkCoder$Item" "second" "I") (by decide +kernel)) dX3_countAgreeing_33 ?_
          refine lv_aload_n hx hb dX3_countAgreeing_36 rfl (lv_at hl 0 rfl) ?_
          refine gf0_5 hx hb hts inX3_countAgreeing_0 hown hE.1 hM hk_12 (hts (.fieldLink RX3 194 "WorkCoder$Item" "code" "I") (by decide +kernel)) dX3_countAgreeing_37 ?_
          refine lv_icmp_ne (tgt := 46) hx hb dX3_countAgreeing_40 (by decide) (fun hc => ?_) (fun hc => ?_)
          · replace h := h.1 hc
            obtain ⟨x_14, ex_14⟩ : ∃ y : Int32, y = x2 + 1 := ⟨_, rfl⟩
            replace h := h x_14 ex_14
            refine lv_iinc (v := x_14) (lv' := [(2, .int x_14), (3, .ref a_10), (0, .ref t), (1, .int x1)]) hx hb dX3_countAgreeing_46 hl (k := 3) rfl (by rw [ex_14]; rfl) (by decide) rfl (fun ls hl => ?_)
            refine lv_goto (tgt := 4) hx hb dX3_countAgreeing_49 (by decide) ?_
            exact ih _ _ _ _ _ _ h hM hS (lv_sub hl [2, 3, 0] rfl)
          · replace h := h.2 hc
            obtain ⟨x_15, ex_15⟩ : ∃ y : Int32, y = x1 + 1 := ⟨_, rfl⟩
            replace h := h x_15 ex_15
            refine lv_iinc (v := x_15) (lv' := [(1, .int x_15), (3, .ref a_10), (0, .ref t), (2, .int x2)]) hx hb dX3_countAgreeing_43 hl (k := 2) rfl (by rw [ex_15]; rfl) (by decide) rfl (fun ls hl => ?_)
            obtain ⟨x_16, ex_16⟩ : ∃ y : Int32, y = x2 + 1 := ⟨_, rfl⟩
            replace h := h x_16 ex_16
            refine lv_iinc (v := x_16) (lv' := [(2, .int x_16), (1, .int x_15), (3, .ref a_10), (0, .ref t)]) hx hb dX3_countAgreeing_46 hl (k := 3) rfl (by rw [ex_16]; rfl) (by decide) rfl (fun ls hl => ?_)
            refine lv_goto (tgt := 4) hx hb dX3_countAgreeing_49 (by decide) ?_
            exact ih _ _ _ _ _ _ h hM hS (lv_sub hl [3, 1, 0] rfl)
set_option maxHeartbeats 4000000 in
set_option maxRecDepth 100000 in
theorem oX3_countAgreeing_0 {k : Int32 → MM → Prop} {t : Nat} (CX : CXM p s m args meth c cX3_countAgreeing 4 (some .int) "countAgreeing" RX3 wsX3_countAgreeing D cs A) : ∀ (σ : MM) (H : Heap) (locs : List Loc) (ls : Array Slot), wX3_countAgreeing t σ k → PH D cs A σ H → va_S A s.heap H locs → lv_has ls 4 [(0, .ref t)] → W p l e (headSpec wsX3_countAgreeing rmX3_countAgreeing).room s m args below meth c H locs 0 0 (MQ below (va_Qi k (mB D cs A) A) args s 0 0 A) (F0 m 0 ls []) := by
  intro  σ H locs ls h hM hS hl
  have ⟨hx, hb, hml, hr, hnm, hown, hts, hlocks, hE⟩ := CX
  unfold wX3_countAgreeing at h
  refine lv_iconst (v := 0) hx hb dX3_countAgreeing_0 (by decide) ?_
  refine lv_istore_n (i := 1) (lv' := [(1, .int 0), (0, .ref t)]) hx hb dX3_countAgreeing_1 rfl hl (by decide) rfl (fun ls hl => ?_)
  refine lv_iconst (v := 0) hx hb dX3_countAgreeing_2 (by decide) ?_
  refine lv_istore_n (i := 2) (lv' := [(2, .int 0), (1, .int 0), (0, .ref t)]) hx hb dX3_countAgreeing_3 rfl hl (by decide) rfl (fun ls hl => ?_)
  obtain ⟨n0, h⟩ := h
  exact oX3_countAgreeing_4 CX  n0 _ _ _ _ _ _ h hM hS (lv_sub hl [2, 1, 0] rfl)
end S_X3_countAgreeing
set_option maxHeartbeats 4000000 in
set_option maxRecDepth 100000 in
theorem ok_X3_countAgreeing (l : Launch) (D : va_G) (cs : CS) (A : Nat → Prop) (t : Nat) (σ : MM) (k : Int32 → MM → Prop) (h : wX3_countAgreeing t σ k) : Met l yX3_countAgreeing wsX3_countAgreeing rmX3_countAgreeing (va_Pc [.ref t] (mP D cs A σ)) (va_Qi k (mB D cs A) A) 0 0 A := by
  refine Met.ofW (cc := cX3_countAgreeing) (maxL := 4) (ret := (some .int)) (by decide) rfl ?_
  intro p e s m args below meth c s₁ B hml hv
  obtain ⟨rfl, hM, hE⟩ := hv
  have CX : CXM p s m _ meth c cX3_countAgreeing 4 (some .int) "countAgreeing" RX3 wsX3_countAgreeing D cs A := ⟨B.exec, B.bytes, hml, B.returns, (name_of_methodNamed B.named B.method).1, findClass_of_methodNamed B.named, atoms_spec (ws := wsX3_countAgreeing) B.pre, B.notSynchronized, hE⟩
  have hl := lv_entry ([.ref t]) (n := 4) (Nat.le_of_ble_eq_true rfl)
  rw [lg_entry_eq]
  exact oX3_countAgreeing_0 CX  σ _ _ _ h hM va_S.rf hl
/-! WorkCoder.chance()J -/
abbrev rmX3_chance : Room := { frames := 0, cells := 0, slots := 0, locals := 0 }
theorem inX3_chance_0 : ∀ w ∈ wsX00, w ∈ wsX3_chance := fun _ h => List.mem_cons_of_mem _ (List.mem_append_right _ (h))
theorem inX3_chance_2 : ∀ w ∈ wsX20, w ∈ wsX3_chance := fun _ h => List.mem_cons_of_mem _ (List.mem_append_left _ (List.mem_append_right _ (h)))
theorem inX3_chance_3 : ∀ w ∈ wsX30, w ∈ wsX3_chance := fun _ h => List.mem_cons_of_mem _ (List.mem_append_left _ (List.mem_append_left _ (List.mem_append_right _ (h))))
section S_X3_chance
variable {p : Program} {l : Launch} {e : Env} {s : State} {m : MethodId} {args : Array Value} {below : List Frame} {meth : Method} {c : Code} {D : va_G} {cs : CS} {A : Nat → Prop}
set_option maxHeartbeats 4000000 in
set_option maxRecDepth 100000 in
theorem oX3_chance_73 {k : Int64 → MM → Prop} {t : Nat} {g4 : Int64 → Int32 → MM → Prop} {g24 : Int64 → Int32 → Int64 → Int64 → Int32 → MM → Prop} (CX : CXM p s m args meth c cX3_chance 10 (some .long) "chance" RX3 wsX3_chance D cs A) (hg4 : ∀ (y1 : Int64) (x3 : Int32) (σ : MM) (H : Heap) (locs : List Loc) (ls : Array Slot), g4 y1 x3 σ → PH D cs A σ H → va_S A s.heap H locs → lv_has ls 10 [(0, .ref t), (1, .long y1), (3, .int x3)] → W p l e (headSpec wsX3_chance rmX3_chance).room s m args below meth c H locs 0 0 (MQ below (va_Ql k (mB D cs A) A) args s 0 0 A) (F0 m 4 ls [])) (hg24 : ∀ (y1 : Int64) (x3 : Int32) (y4 : Int64) (y6 : Int64) (x8 : Int32) (σ : MM) (H : Heap) (locs : List Loc) (ls : Array Slot), g24 y1 x3 y4 y6 x8 σ → PH D cs A σ H → va_S A s.heap H locs → lv_has ls 10 [(0, .ref t), (1, .long y1), (3, .int x3), (4, .long y4), (6, .long y6), (8, .int x8)] → W p l e (headSpec wsX3_chance rmX3_chance).room s m args below meth c H locs 0 0 (MQ below (va_Ql k (mB D cs A) A) args s 0 0 A) (F0 m 24 ls [])) : ∀ (y1 : Int64) (x3 : Int32) (y6 : Int64) (x8 : Int32) (r9 : Option Nat) (z0 : Int64) (z1 : Int64) (σ : MM) (H : Heap) (locs : List Loc) (ls : Array Slot), wX3_chance_73 k t g4 g24 y1 x3 y6 x8 r9 z0 z1 σ → PH D cs A σ H → va_S A s.heap H locs → lv_has ls 10 [(0, .ref t), (1, .long y1), (3, .int x3), (6, .long y6), (8, .int x8), (9, va_rf r9)] → W p l e (headSpec wsX3_chance rmX3_chance).room s m args below meth c H locs 0 0 (MQ below (va_Ql k (mB D cs A) A) args s 0 0 A) (F0 m 73 ls [.long z1, .long z0]) := by
  intro y1 x3 y6 x8 r9 z0 z1 σ H locs ls h hM hS hl
  have ⟨hx, hb, hml, hr, hnm, hown, hts, hlocks, hE⟩ := CX
  unfold wX3_chance_73 at h
  refine lv_ladd hx hb dX3_chance_73 ?_
  refine lv_topl (fun y_1 ey_1 => ?_)
  replace h := h y_1 ey_1
  refine lv_lstore (i := 4) (lv' := [(4, .long y_1), (0, .ref t), (1, .long y1), (3, .int x3), (6, .long y6), (8, .int x8), (9, va_rf r9)]) hx hb dX3_chance_74 hl (by decide) rfl (fun ls hl => ?_)
  refine lv_lload hx hb dX3_chance_76 (lv_at hl 4 rfl) ?_
  refine nl_aload hx hb dX3_chance_78 (lv_at hl 6 rfl) ?_
  obtain ⟨a_2, rfl, h⟩ := h
  obtain ⟨hk_3, h⟩ := h
  refine gf0_8 hx hb hts inX3_chance_0 hown hE.1 hM hk_3 (hts (.fieldLink RX3 191 "WorkCoder$Item" "second" "I") (by decide +kernel)) dX3_chance_80 ?_
  refine lv_iload_n hx hb dX3_chance_83 rfl (lv_at hl 3 rfl) ?_
  refine lv_icmp_ne (tgt := 91) hx hb dX3_chance_84 (by decide) (fun hc => ?_) (fun hc => ?_)
  · replace h := h.1 hc
    refine lv_lconst (v := 0) hx hb dX3_chance_91 (by decide) ?_
    refine lv_ladd hx hb dX3_chance_92 ?_
    refine lv_topl (fun y_4 ey_4 => ?_)
    replace h := h y_4 ey_4
    refine lv_lstore (i := 6) (lv' := [(6, .long y_4), (4, .long y_1), (0, .ref t), (1, .long y1), (3, .int x3), (8, .int x8), (9, .ref a_2)]) hx hb dX3_chance_93 hl (by decide) rfl (fun ls hl => ?_)
    obtain ⟨x_5, ex_5⟩ : ∃ y : Int32, y = x8 + 1 := ⟨_, rfl⟩
    replace h := h x_5 ex_5
    refine lv_iinc (v := x_5) (lv' := [(8, .int x_5), (6, .long y_4), (4, .long y_1), (0, .ref t), (1, .long y1), (3, .int x3), (9, .ref a_2)]) hx hb dX3_chance_95 hl (k := 5) rfl (by rw [ex_5]; rfl) (by decide) rfl (fun ls hl => ?_)
    refine lv_goto (tgt := 24) hx hb dX3_chance_98 (by decide) ?_
    exact hg24 _ _ _ _ _ _ _ _ _ h hM hS (lv_sub hl [3, 4, 5, 2, 1, 0] rfl)
  · replace h := h.2 hc
    refine lv_lconst (v := 1) hx hb dX3_chance_87 (by decide) ?_
    refine lv_goto (tgt := 92) hx hb dX3_chance_88 (by decide) ?_
    refine lv_ladd hx hb dX3_chance_92 ?_
    refine lv_topl (fun y_6 ey_6 => ?_)
    replace h := h y_6 ey_6
    refine lv_lstore (i := 6) (lv' := [(6, .long y_6), (4, .long y_1), (0, .ref t), (1, .long y1), (3, .int x3), (8, .int x8), (9, .ref a_2)]) hx hb dX3_chance_93 hl (by decide) rfl (fun ls hl => ?_)
    obtain ⟨x_7, ex_7⟩ : ∃ y : Int32, y = x8 + 1 := ⟨_, rfl⟩
    replace h := h x_7 ex_7
    refine lv_iinc (v := x_7) (lv' := [(8, .int x_7), (6, .long y_6), (4, .long y_1), (0, .ref t), (1, .long y1), (3, .int x3), (9, .ref a_2)]) hx hb dX3_chance_95 hl (k := 5) rfl (by rw [ex_7]; rfl) (by decide) rfl (fun ls hl => ?_)
    refine lv_goto (tgt := 24) hx hb dX3_chance_98 (by decide) ?_
    exact hg24 _ _ _ _ _ _ _ _ _ h hM hS (lv_sub hl [3, 4, 5, 2, 1, 0] rfl)
set_option maxHeartbeats 4000000 in
set_option maxRecDepth 100000 in
theorem oX3_chance_24 {k : Int64 → MM → Prop} {t : Nat} {g4 : Int64 → Int32 → MM → Prop} (CX : CXM p s m args meth c cX3_chance 10 (some .long) "chance" RX3 wsX3_chance D cs A) (hg4 : ∀ (y1 : Int64) (x3 : Int32) (σ : MM) (H : Heap) (locs : List Loc) (ls : Array Slot), g4 y1 x3 σ → PH D cs A σ H → va_S A s.heap H locs → lv_has ls 10 [(0, .ref t), (1, .long y1), (3, .int x3)] → W p l e (headSpec wsX3_chance rmX3_chance).room s m args below meth c H locs 0 0 (MQ below (va_Ql k (mB D cs A) A) args s 0 0 A) (F0 m 4 ls [])) : ∀ (n : Nat), ∀ (y1 : Int64) (x3 : Int32) (y4 : Int64) (y6 : Int64) (x8 : Int32) (σ : MM) (H : Heap) (locs : List Loc) (ls : Array Slot), wX3_chance_24 k t g4 n y1 x3 y4 y6 x8 σ → PH D cs A σ H → va_S A s.heap H locs → lv_has ls 10 [(0, .ref t), (1, .long y1), (3, .int x3), (4, .long y4), (6, .long y6), (8, .int x8)] → W p l e (headSpec wsX3_chance rmX3_chance).room s m args below meth c H locs 0 0 (MQ below (va_Ql k (mB D cs A) A) args s 0 0 A) (F0 m 24 ls []) := by
  intro n
  induction n with
  | zero => intro y1 x3 y4 y6 x8 σ H locs ls h; exact h.elim
  | succ n ih =>
    intro y1 x3 y4 y6 x8 σ H locs ls h hM hS hl
    have ⟨hx, hb, hml, hr, hnm, hown, hts, hlocks, hE⟩ := CX
    unfold wX3_chance_24 at h
    refine lv_iload hx hb dX3_chance_24 (lv_at hl 5 rfl) ?_
    refine lv_aload_n hx hb dX3_chance_26 rfl (lv_at hl 0 rfl) ?_
    obtain ⟨hk_1, h⟩ := h
    refine gf3_5 hx hb hts inX3_chance_3 hown hE.1 hM hk_1 (hts (.fieldLink RX3 34 "WorkCoder" "items" "[LWorkCoder$Item;") (by decide +kernel)) dX3_chance_27 (fun r_2 er_2 => ?_)
    replace h := h r_2 er_2
    clear er_2
    obtain ⟨a_3, rfl, h⟩ := h
    obtain ⟨hk_4, h⟩ := h
    refine mm_alen9 hx hb hE.1 hM hk_4 dX3_chance_30 ?_
    refine lv_icmp_ge (tgt := 101) hx hb dX3_chance_31 (by decide) (fun hc => ?_) (fun hc => ?_)
    · replace h := h.1 hc
      refine lv_lload_n hx hb dX3_chance_101 rfl (lv_at hl 1 rfl) ?_
      refine lv_lload hx hb dX3_chance_102 (lv_at hl 3 rfl) ?_
      refine lv_lload hx hb dX3_chance_104 (lv_at hl 4 rfl) ?_
      refine lv_lmul hx hb dX3_chance_106 ?_
      refine lv_ladd hx hb dX3_chance_107 ?_
      refine lv_topl (fun y_5 ey_5 => ?_)
      replace h := h y_5 ey_5
      refine lv_lstore_n (i := 1) (lv' := [(1, .long y_5), (0, .ref t), (3, .int x3), (4, .long y4), (6, .long y6), (8, .int x8)]) hx hb dX3_chance_108 rfl hl (by decide) rfl (fun ls hl => ?_)
      obtain ⟨x_6, ex_6⟩ : ∃ y : Int32, y = x3 + 1 := ⟨_, rfl⟩
      replace h := h x_6 ex_6
      refine lv_iinc (v := x_6) (lv' := [(3, .int x_6), (1, .long y_5), (0, .ref t), (4, .long y4), (6, .long y6), (8, .int x8)]) hx hb dX3_chance_109 hl (k := 2) rfl (by rw [ex_6]; rfl) (by decide) rfl (fun ls hl => ?_)
      refine lv_goto (tgt := 4) hx hb dX3_chance_112 (by decide) ?_
      exact hg4 _ _ _ _ _ _ h hM hS (lv_sub hl [2, 1, 0] rfl)
    · replace h := h.2 hc
      refine lv_aload_n hx hb dX3_chance_34 rfl (lv_at hl 0 rfl) ?_
      refine gf3_5 hx hb hts inX3_chance_3 hown hE.1 hM hk_1 (hts (.fieldLink RX3 34 "WorkCoder" "items" "[LWorkCoder$Item;") (by decide +kernel)) dX3_chance_35 (fun r_7 er_7 => ?_)
      replace h := h r_7 er_7
      clear er_7
      refine lv_iload hx hb dX3_chance_38 (lv_at hl 5 rfl) ?_
      obtain ⟨a_8, rfl, h⟩ := h
      obtain ⟨hk_9, h⟩ := h
      obtain ⟨hv_10, h⟩ := h
      refine mm_aald9 hx hb hE.1 hM hk_9 hv_10 dX3_chance_40 (fun r_11 er_11 => ?_)
      replace h := h r_11 er_11
      clear er_11
      refine nl_astore (i := 9) (lv' := [(9, va_rf r_11), (0, .ref t), (1, .long y1), (3, .int x3), (4, .long y4), (6, .long y6), (8, .int x8)]) hx hb dX3_chance_41 hl (by decide) rfl (fun ls hl => ?_)
      refine nl_aload hx hb dX3_chance_43 (lv_at hl 0 rfl) ?_
      refine nl_ifnull (tgt := 95) hx hb dX3_chance_45 (by decide) (fun hn => ?_) (fun a_12 hn => ?_)
      · replace h := h.1 hn
        subst hn
        obtain ⟨x_13, ex_13⟩ : ∃ y : Int32, y = x8 + 1 := ⟨_, rfl⟩
        replace h := h x_13 ex_13
        refine lv_iinc (v := x_13) (lv' := [(8, .int x_13), (9, .null), (0, .ref t), (1, .long y1), (3, .int x3), (4, .long y4), (6, .long y6)]) hx hb dX3_chance_95 hl (k := 6) rfl (by rw [ex_13]; rfl) (by decide) rfl (fun ls hl => ?_)
        refine lv_goto (tgt := 24) hx hb dX3_chance_98 (by decide) ?_
        exact ih _ _ _ _ _ _ _ _ _ h hM hS (lv_sub hl [2, 3, 4, 5, 6, 0] rfl)
      · replace h := h.2 a_12 hn
        subst hn
        refine lv_aload hx hb dX3_chance_48 (lv_at hl 0 rfl) ?_
        obtain ⟨hk_14, h⟩ := h
        refine gf0_8 hx hb hts inX3_chance_0 hown hE.1 hM hk_14 (hts (.fieldLink RX3 191 "WorkCoder$Item" "second" "I") (by decide +kernel)) dX3_chance_50 ?_
        refine lv_iconst (v := (-1)) hx hb dX3_chance_53 (by decide) ?_
        refine lv_icmp_eq (tgt := 95) hx hb dX3_chance_54 (by decide) (fun hc => ?_) (fun hc => ?_)
        · replace h := h.1 hc
          obtain ⟨x_15, ex_15⟩ : ∃ y : Int32, y = x8 + 1 := ⟨_, rfl⟩
          replace h := h x_15 ex_15
          refine lv_iinc (v := x_15) (lv' := [(8, .int x_15), (9, .ref a_12), (0, .ref t), (1, .long y1), (3, .int x3), (4, .long y4), (6, .long y6)]) hx hb dX3_chance_95 hl (k := 6) rfl (by rw [ex_15]; rfl) (by decide) rfl (fun ls hl => ?_)
          refine lv_goto (tgt := 24) hx hb dX3_chance_98 (by decide) ?_
          exact ih _ _ _ _ _ _ _ _ _ h hM hS (lv_sub hl [2, 3, 4, 5, 6, 0] rfl)
        · replace h := h.2 hc
          refine lv_lload hx hb dX3_chance_57 (lv_at hl 4 rfl) ?_
          refine lv_aload hx hb dX3_chance_59 (lv_at hl 0 rfl) ?_
          refine gf0_5 hx hb hts inX3_chance_0 hown hE.1 hM hk_14 (hts (.fieldLink RX3 194 "WorkCoder$Item" "code" "I") (by decide +kernel)) dX3_chance_61 ?_
          refine lv_iload_n hx hb dX3_chance_64 rfl (lv_at hl 3 rfl) ?_
          refine lv_icmp_ne (tgt := 72) hx hb dX3_chance_65 (by decide) (fun hc => ?_) (fun hc => ?_)
          · replace h := h.1 hc
            refine lv_lconst (v := 0) hx hb dX3_chance_72 (by decide) ?_
            exact oX3_chance_73 CX hg4 ih _ _ _ _ _ _ _ _ _ _ _ h hM hS (lv_sub hl [1, 2, 3, 5, 6, 0] rfl)
          · replace h := h.2 hc
            refine lv_lconst (v := 1) hx hb dX3_chance_68 (by decide) ?_
            refine lv_goto (tgt := 73) hx hb dX3_chance_69 (by decide) ?_
            exact oX3_chance_73 CX hg4 ih _ _ _ _ _ _ _ _ _ _ _ h hM hS (lv_sub hl [1, 2, 3, 5, 6, 0] rfl)
set_option maxHeartbeats 4000000 in
set_option maxRecDepth 100000 in
theorem oX3_chance_4 {k : Int64 → MM → Prop} {t : Nat} (CX : CXM p s m args meth c cX3_chance 10 (some .long) "chance" RX3 wsX3_chance D cs A) : ∀ (n : Nat), ∀ (y1 : Int64) (x3 : Int32) (σ : MM) (H : Heap) (locs : List Loc) (ls : Array Slot), wX3_chance_4 k t  n y1 x3 σ → PH D cs A σ H → va_S A s.heap H locs → lv_has ls 10 [(0, .ref t), (1, .long y1), (3, .int x3)] → W p l e (headSpec wsX3_chance rmX3_chance).room s m args below meth c H locs 0 0 (MQ below (va_Ql k (mB D cs A) A) args s 0 0 A) (F0 m 4 ls []) := by
  intro n
  induction n with
  | zero => intro y1 x3 σ H locs ls h; exact h.elim
  | succ n ih =>
    intro y1 x3 σ H locs ls h hM hS hl
    have ⟨hx, hb, hml, hr, hnm, hown, hts, hlocks, hE⟩ := CX
    unfold wX3_chance_4 at h
    refine lv_iload_n hx hb dX3_chance_4 rfl (lv_at hl 2 rfl) ?_
    refine lv_aload_n hx hb dX3_chance_5 rfl (lv_at hl 0 rfl) ?_
    obtain ⟨hk_1, h⟩ := h
    refine gf3_0 hx hb hts inX3_chance_3 hown hE.1 hM hk_1 (hts (.fieldLink RX3 14 "WorkCoder" "scheme" "LWorkCoder$Scheme;") (by decide +kernel)) dX3_chance_6 (fun r_2 er_2 => ?_)
    replace h := h r_2 er_2
    clear er_2
    obtain ⟨a_3, rfl, h⟩ := h
    obtain ⟨hk_4, h⟩ := h
    refine gf2_2 hx hb hts inX3_chance_2 hown hE.1 hM hk_4 (hts (.fieldLink RX3 216 "WorkCoder$Scheme" "size" "I") (by decide +kernel)) dX3_chance_9 ?_
    refine lv_icmp_ge (tgt := 115) hx hb dX3_chance_12 (by decide) (fun hc => ?_) (fun hc => ?_)
    · replace h := h.1 hc
      refine lv_lload_n hx hb dX3_chance_115 rfl (lv_at hl 1 rfl) ?_
      exact W.lret (v := y1) hx hb hr (fun t_ ht hW => ⟨⟨_, _, rfl, h, mB_of ht hM⟩, hS.F ht⟩) hS.2.2 dX3_chance_116
    · replace h := h.2 hc
      refine lv_lconst (v := 0) hx hb dX3_chance_15 (by decide) ?_
      refine lv_lstore (i := 4) (lv' := [(4, .long 0), (0, .ref t), (1, .long y1), (3, .int x3)]) hx hb dX3_chance_16 hl (by decide) rfl (fun ls hl => ?_)
      refine lv_lconst (v := 0) hx hb dX3_chance_18 (by decide) ?_
      refine lv_lstore (i := 6) (lv' := [(6, .long 0), (4, .long 0), (0, .ref t), (1, .long y1), (3, .int x3)]) hx hb dX3_chance_19 hl (by decide) rfl (fun ls hl => ?_)
      refine lv_iconst (v := 0) hx hb dX3_chance_21 (by decide) ?_
      refine lv_istore (i := 8) (lv' := [(8, .int 0), (6, .long 0), (4, .long 0), (0, .ref t), (1, .long y1), (3, .int x3)]) hx hb dX3_chance_22 hl (by decide) rfl (fun ls hl => ?_)
      obtain ⟨n0, h⟩ := h
      exact oX3_chance_24 CX ih n0 _ _ _ _ _ _ _ _ _ h hM hS (lv_sub hl [3, 4, 5, 2, 1, 0] rfl)
set_option maxHeartbeats 4000000 in
set_option maxRecDepth 100000 in
theorem oX3_chance_0 {k : Int64 → MM → Prop} {t : Nat} (CX : CXM p s m args meth c cX3_chance 10 (some .long) "chance" RX3 wsX3_chance D cs A) : ∀ (σ : MM) (H : Heap) (locs : List Loc) (ls : Array Slot), wX3_chance t σ k → PH D cs A σ H → va_S A s.heap H locs → lv_has ls 10 [(0, .ref t)] → W p l e (headSpec wsX3_chance rmX3_chance).room s m args below meth c H locs 0 0 (MQ below (va_Ql k (mB D cs A) A) args s 0 0 A) (F0 m 0 ls []) := by
  intro  σ H locs ls h hM hS hl
  have ⟨hx, hb, hml, hr, hnm, hown, hts, hlocks, hE⟩ := CX
  unfold wX3_chance at h
  refine lv_lconst (v := 0) hx hb dX3_chance_0 (by decide) ?_
  refine lv_lstore_n (i := 1) (lv' := [(1, .long 0), (0, .ref t)]) hx hb dX3_chance_1 rfl hl (by decide) rfl (fun ls hl => ?_)
  refine lv_iconst (v := 0) hx hb dX3_chance_2 (by decide) ?_
  refine lv_istore_n (i := 3) (lv' := [(3, .int 0), (1, .long 0), (0, .ref t)]) hx hb dX3_chance_3 rfl hl (by decide) rfl (fun ls hl => ?_)
  obtain ⟨n0, h⟩ := h
  exact oX3_chance_4 CX  n0 _ _ _ _ _ _ h hM hS (lv_sub hl [2, 1, 0] rfl)
end S_X3_chance
set_option maxHeartbeats 4000000 in
set_option maxRecDepth 100000 in
theorem ok_X3_chance (l : Launch) (D : va_G) (cs : CS) (A : Nat → Prop) (t : Nat) (σ : MM) (k : Int64 → MM → Prop) (h : wX3_chance t σ k) : Met l yX3_chance wsX3_chance rmX3_chance (va_Pc [.ref t] (mP D cs A σ)) (va_Ql k (mB D cs A) A) 0 0 A := by
  refine Met.ofW (cc := cX3_chance) (maxL := 10) (ret := (some .long)) (by decide) rfl ?_
  intro p e s m args below meth c s₁ B hml hv
  obtain ⟨rfl, hM, hE⟩ := hv
  have CX : CXM p s m _ meth c cX3_chance 10 (some .long) "chance" RX3 wsX3_chance D cs A := ⟨B.exec, B.bytes, hml, B.returns, (name_of_methodNamed B.named B.method).1, findClass_of_methodNamed B.named, atoms_spec (ws := wsX3_chance) B.pre, B.notSynchronized, hE⟩
  have hl := lv_entry ([.ref t]) (n := 10) (Nat.le_of_ble_eq_true rfl)
  rw [lg_entry_eq]
  exact oX3_chance_0 CX  σ _ _ _ h hM va_S.rf hl
/-! WorkCoder.countState(I)I -/
abbrev rmX3_countState : Room := { frames := 0, cells := 0, slots := 0, locals := 0 }
theorem inX3_countState_0 : ∀ w ∈ wsX00, w ∈ wsX3_countState := fun _ h => List.mem_cons_of_mem _ (List.mem_append_right _ (h))
theorem inX3_countState_3 : ∀ w ∈ wsX30, w ∈ wsX3_countState := fun _ h => List.mem_cons_of_mem _ (List.mem_append_left _ (List.mem_append_right _ (h)))
section S_X3_countState
variable {p : Program} {l : Launch} {e : Env} {s : State} {m : MethodId} {args : Array Value} {below : List Frame} {meth : Method} {c : Code} {D : va_G} {cs : CS} {A : Nat → Prop}
set_option maxHeartbeats 4000000 in
set_option maxRecDepth 100000 in
theorem oX3_countState_4 {k : Int32 → MM → Prop} {t : Nat} (CX : CXM p s m args meth c cX3_countState 4 (some .int) "countState" RX3 wsX3_countState D cs A) : ∀ (n : Nat), ∀ (x1 : Int32) (x2 : Int32) (x3 : Int32) (σ : MM) (H : Heap) (locs : List Loc) (ls : Array Slot), wX3_countState_4 k t  n x1 x2 x3 σ → PH D cs A σ H → va_S A s.heap H locs → lv_has ls 4 [(0, .ref t), (1, .int x1), (2, .int x2), (3, .int x3)] → W p l e (headSpec wsX3_countState rmX3_countState).room s m args below meth c H locs 0 0 (MQ below (va_Qi k (mB D cs A) A) args s 0 0 A) (F0 m 4 ls []) := by
  intro n
  induction n with
  | zero => intro x1 x2 x3 σ H locs ls h; exact h.elim
  | succ n ih =>
    intro x1 x2 x3 σ H locs ls h hM hS hl
    have ⟨hx, hb, hml, hr, hnm, hown, hts, hlocks, hE⟩ := CX
    unfold wX3_countState_4 at h
    refine lv_iload_n hx hb dX3_countState_4 rfl (lv_at hl 3 rfl) ?_
    refine lv_aload_n hx hb dX3_countState_5 rfl (lv_at hl 0 rfl) ?_
    obtain ⟨hk_1, h⟩ := h
    refine gf3_5 hx hb hts inX3_countState_3 hown hE.1 hM hk_1 (hts (.fieldLink RX3 34 "WorkCoder" "items" "[LWorkCoder$Item;") (by decide +kernel)) dX3_countState_6 (fun r_2 er_2 => ?_)
    replace h := h r_2 er_2
    clear er_2
    obtain ⟨a_3, rfl, h⟩ := h
    obtain ⟨hk_4, h⟩ := h
    refine mm_alen9 hx hb hE.1 hM hk_4 dX3_countState_9 ?_
    refine lv_icmp_ge (tgt := 44) hx hb dX3_countState_10 (by decide) (fun hc => ?_) (fun hc => ?_)
    · replace h := h.1 hc
      refine lv_iload_n hx hb dX3_countState_44 rfl (lv_at hl 2 rfl) ?_
      exact W.iret (v := x2) hx hb hr (fun t_ ht hW => ⟨⟨_, _, rfl, h, mB_of ht hM⟩, hS.F ht⟩) hS.2.2 dX3_countState_45
    · replace h := h.2 hc
      refine lv_aload_n hx hb dX3_countState_13 rfl (lv_at hl 0 rfl) ?_
      refine gf3_5 hx hb hts inX3_countState_3 hown hE.1 hM hk_1 (hts (.fieldLink RX3 34 "WorkCoder" "items" "[LWorkCoder$Item;") (by decide +kernel)) dX3_countState_14 (fun r_5 er_5 => ?_)
      replace h := h r_5 er_5
      clear er_5
      refine lv_iload_n hx hb dX3_countState_17 rfl (lv_at hl 3 rfl) ?_
      obtain ⟨a_6, rfl, h⟩ := h
      obtain ⟨hk_7, h⟩ := h
      obtain ⟨hv_8, h⟩ := h
      refine mm_aald9 hx hb hE.1 hM hk_7 hv_8 dX3_countState_18 (fun r_9 er_9 => ?_)
      replace h := h r_9 er_9
      clear er_9
      refine nl_ifnull (tgt := 38) hx hb dX3_countState_19 (by decide) (fun hn => ?_) (fun a_10 hn => ?_)
      · replace h := h.1 hn
        subst hn
        obtain ⟨x_11, ex_11⟩ : ∃ y : Int32, y = x3 + 1 := ⟨_, rfl⟩
        replace h := h x_11 ex_11
        refine lv_iinc (v := x_11) (lv' := [(3, .int x_11), (0, .ref t), (1, .int x1), (2, .int x2)]) hx hb dX3_countState_38 hl (k := 3) rfl (by rw [ex_11]; rfl) (by decide) rfl (fun ls hl => ?_)
        refine lv_goto (tgt := 4) hx hb dX3_countState_41 (by decide) ?_
        exact ih _ _ _ _ _ _ _ h hM hS (lv_sub hl [1, 2, 3, 0] rfl)
      · replace h := h.2 a_10 hn
        subst hn
        refine lv_aload_n hx hb dX3_countState_22 rfl (lv_at hl 0 rfl) ?_
        refine gf3_5 hx hb hts inX3_countState_3 hown hE.1 hM hk_1 (hts (.fieldLink RX3 34 "WorkCoder" "items" "[LWorkCoder$Item;") (by decide +kernel)) dX3_countState_23 (fun r_12 er_12 => ?_)
        replace h := h r_12 er_12
        clear er_12
        refine lv_iload_n hx hb dX3_countState_26 rfl (lv_at hl 3 rfl) ?_
        obtain ⟨a_13, rfl, h⟩ := h
        obtain ⟨hk_14, h⟩ := h
        obtain ⟨hv_15, h⟩ := h
        refine mm_aald9 hx hb hE.1 hM hk_14 hv_15 dX3_countState_27 (fun r_16 er_16 => ?_)
        replace h := h r_16 er_16
        clear er_16
        obtain ⟨a_17, rfl, h⟩ := h
        obtain ⟨hk_18, h⟩ := h
        refine gf0_4 hx hb hts inX3_countState_0 hown hE.1 hM hk_18 (hts (.fieldLink RX3 107 "WorkCoder$Item" "state" "I") (by decide +kernel)) dX3_countState_28 ?_
        refine lv_iload_n hx hb dX3_countState_31 rfl (lv_at hl 1 rfl) ?_
        refine lv_icmp_ne (tgt := 38) hx hb dX3_countState_32 (by decide) (fun hc => ?_) (fun hc => ?_)
        · replace h := h.1 hc
          obtain ⟨x_19, ex_19⟩ : ∃ y : Int32, y = x3 + 1 := ⟨_, rfl⟩
          replace h := h x_19 ex_19
          refine lv_iinc (v := x_19) (lv' := [(3, .int x_19), (0, .ref t), (1, .int x1), (2, .int x2)]) hx hb dX3_countState_38 hl (k := 3) rfl (by rw [ex_19]; rfl) (by decide) rfl (fun ls hl => ?_)
          refine lv_goto (tgt := 4) hx hb dX3_countState_41 (by decide) ?_
          exact ih _ _ _ _ _ _ _ h hM hS (lv_sub hl [1, 2, 3, 0] rfl)
        · replace h := h.2 hc
          obtain ⟨x_20, ex_20⟩ : ∃ y : Int32, y = x2 + 1 := ⟨_, rfl⟩
          replace h := h x_20 ex_20
          refine lv_iinc (v := x_20) (lv' := [(2, .int x_20), (0, .ref t), (1, .int x1), (3, .int x3)]) hx hb dX3_countState_35 hl (k := 2) rfl (by rw [ex_20]; rfl) (by decide) rfl (fun ls hl => ?_)
          obtain ⟨x_21, ex_21⟩ : ∃ y : Int32, y = x3 + 1 := ⟨_, rfl⟩
          replace h := h x_21 ex_21
          refine lv_iinc (v := x_21) (lv' := [(3, .int x_21), (2, .int x_20), (0, .ref t), (1, .int x1)]) hx hb dX3_countState_38 hl (k := 3) rfl (by rw [ex_21]; rfl) (by decide) rfl (fun ls hl => ?_)
          refine lv_goto (tgt := 4) hx hb dX3_countState_41 (by decide) ?_
          exact ih _ _ _ _ _ _ _ h hM hS (lv_sub hl [2, 3, 1, 0] rfl)
set_option maxHeartbeats 4000000 in
set_option maxRecDepth 100000 in
theorem oX3_countState_0 {k : Int32 → MM → Prop} {t : Nat} (CX : CXM p s m args meth c cX3_countState 4 (some .int) "countState" RX3 wsX3_countState D cs A) : ∀ (x1 : Int32) (σ : MM) (H : Heap) (locs : List Loc) (ls : Array Slot), wX3_countState t x1 σ k → PH D cs A σ H → va_S A s.heap H locs → lv_has ls 4 [(0, .ref t), (1, .int x1)] → W p l e (headSpec wsX3_countState rmX3_countState).room s m args below meth c H locs 0 0 (MQ below (va_Qi k (mB D cs A) A) args s 0 0 A) (F0 m 0 ls []) := by
  intro x1 σ H locs ls h hM hS hl
  have ⟨hx, hb, hml, hr, hnm, hown, hts, hlocks, hE⟩ := CX
  unfold wX3_countState at h
  refine lv_iconst (v := 0) hx hb dX3_countState_0 (by decide) ?_
  refine lv_istore_n (i := 2) (lv' := [(2, .int 0), (0, .ref t), (1, .int x1)]) hx hb dX3_countState_1 rfl hl (by decide) rfl (fun ls hl => ?_)
  refine lv_iconst (v := 0) hx hb dX3_countState_2 (by decide) ?_
  refine lv_istore_n (i := 3) (lv' := [(3, .int 0), (2, .int 0), (0, .ref t), (1, .int x1)]) hx hb dX3_countState_3 rfl hl (by decide) rfl (fun ls hl => ?_)
  obtain ⟨n0, h⟩ := h
  exact oX3_countState_4 CX  n0 _ _ _ _ _ _ _ h hM hS (lv_sub hl [2, 3, 1, 0] rfl)
end S_X3_countState
set_option maxHeartbeats 4000000 in
set_option maxRecDepth 100000 in
theorem ok_X3_countState (l : Launch) (D : va_G) (cs : CS) (A : Nat → Prop) (t : Nat) (x1 : Int32) (σ : MM) (k : Int32 → MM → Prop) (h : wX3_countState t x1 σ k) : Met l yX3_countState wsX3_countState rmX3_countState (va_Pc [.ref t, .int x1] (mP D cs A σ)) (va_Qi k (mB D cs A) A) 0 0 A := by
  refine Met.ofW (cc := cX3_countState) (maxL := 4) (ret := (some .int)) (by decide) rfl ?_
  intro p e s m args below meth c s₁ B hml hv
  obtain ⟨rfl, hM, hE⟩ := hv
  have CX : CXM p s m _ meth c cX3_countState 4 (some .int) "countState" RX3 wsX3_countState D cs A := ⟨B.exec, B.bytes, hml, B.returns, (name_of_methodNamed B.named B.method).1, findClass_of_methodNamed B.named, atoms_spec (ws := wsX3_countState) B.pre, B.notSynchronized, hE⟩
  have hl := lv_entry ([.ref t, .int x1]) (n := 4) (Nat.le_of_ble_eq_true rfl)
  rw [lg_entry_eq]
  exact oX3_countState_0 CX x1 σ _ _ _ h hM va_S.rf hl
/-! WorkCoder.agree(I)J -/
abbrev rmX3_agree : Room := { frames := 1, cells := 0, slots := 0, locals := 29 }
theorem inX3_agree_2 : ∀ w ∈ wsX20, w ∈ wsX3_agree := fun _ h => List.mem_cons_of_mem _ (List.mem_append_left _ (List.mem_append_right _ (h)))
theorem inX3_agree_3 : ∀ w ∈ wsX30, w ∈ wsX3_agree := fun _ h => List.mem_cons_of_mem _ (List.mem_append_left _ (List.mem_append_left _ (List.mem_append_right _ (h))))
section S_X3_agree
variable {p : Program} {l : Launch} {e : Env} {s : State} {m : MethodId} {args : Array Value} {below : List Frame} {meth : Method} {c : Code} {D : va_G} {cs : CS} {A : Nat → Prop}
set_option maxHeartbeats 4000000 in
set_option maxRecDepth 100000 in
theorem oX3_agree_0 {k : Int64 → MM → Prop} {t : Nat} (CX : CXM p s m args meth c cX3_agree 6 (some .long) "agree" RX3 wsX3_agree D cs A) : ∀ (x1 : Int32) (σ : MM) (H : Heap) (locs : List Loc) (ls : Array Slot), wX3_agree t x1 σ k → PH D cs A σ H → va_S A s.heap H locs → lv_has ls 6 [(0, .ref t), (1, .int x1)] → W p l e (headSpec wsX3_agree rmX3_agree).room s m args below meth c H locs 0 0 (MQ below (va_Ql k (mB D cs A) A) args s 0 0 A) (F0 m 0 ls []) := by
  intro x1 σ H locs ls h hM hS hl
  have ⟨hx, hb, hml, hr, hnm, hown, hts, hlocks, hE⟩ := CX
  unfold wX3_agree at h
  refine lv_aload_n hx hb dX3_agree_0 rfl (lv_at hl 0 rfl) ?_
  obtain ⟨hk_1, h⟩ := h
  refine clVi (C := RX3) (b := t) (As := []) (rest := []) ⟨hx, hb, hml, hown, hts⟩ hM hE hS (ok_X3_countSeconds l D cs A t _ _ h) (cwV 0 hts gX3_agree_X3_countSeconds rfl rfl rfl (by decide +kernel) ⟨(Nat.le_of_ble_eq_true rfl), (Nat.le_of_ble_eq_true rfl)⟩) (rc3 hM hE.1 hk_1) rfl hl.1 rfl (Nat.le_of_ble_eq_true rfl) dX3_agree_1 ⟨(Nat.le_of_ble_eq_true rfl), (Nat.le_of_ble_eq_true rfl)⟩ (fun x_3 σ_2 H locs h1 hM hS => ?_)
  replace h := h1
  clear h1
  refine lv_i2l hx hb dX3_agree_4 (v := x_3.toInt64) rfl ?_
  refine lv_topl (fun y_4 ey_4 => ?_)
  replace h := h y_4 ey_4
  refine lv_lstore_n (i := 2) (lv' := [(2, .long y_4), (0, .ref t), (1, .int x1)]) hx hb dX3_agree_5 rfl hl (by decide) rfl (fun ls hl => ?_)
  refine lv_aload_n hx hb dX3_agree_6 rfl (lv_at hl 1 rfl) ?_
  obtain ⟨hk_5, h⟩ := h
  refine clVi (C := RX3) (b := t) (As := []) (rest := []) ⟨hx, hb, hml, hown, hts⟩ hM hE hS (ok_X3_countAgreeing l D cs A t _ _ h) (cwV 0 hts gX3_agree_X3_countAgreeing rfl rfl rfl (by decide +kernel) ⟨(Nat.le_of_ble_eq_true rfl), (Nat.le_of_ble_eq_true rfl)⟩) (rc3 hM hE.1 hk_5) rfl hl.1 rfl (Nat.le_of_ble_eq_true rfl) dX3_agree_7 ⟨(Nat.le_of_ble_eq_true rfl), (Nat.le_of_ble_eq_true rfl)⟩ (fun x_7 σ_6 H locs h1 hM hS => ?_)
  replace h := h1
  clear h1
  refine lv_i2l hx hb dX3_agree_10 (v := x_7.toInt64) rfl ?_
  refine lv_topl (fun y_8 ey_8 => ?_)
  replace h := h y_8 ey_8
  refine lv_lstore (i := 4) (lv' := [(4, .long y_8), (2, .long y_4), (0, .ref t), (1, .int x1)]) hx hb dX3_agree_11 hl (by decide) rfl (fun ls hl => ?_)
  refine lv_iload_n hx hb dX3_agree_13 rfl (lv_at hl 3 rfl) ?_
  rcases sw_5 x1 with hc | hc | hc | hc | hc | hc | hc
  · replace h := h.1 hc
    refine lv_tableOut (tgt := 116) hx hb dX3_agree_14 hc (by decide) ?_
    refine lv_ldc2 (v := (-1000000000)) hx hb hown (hts (.constantLong RX3 222 (-1000000000)) (by decide +kernel)) dX3_agree_116 ?_
    exact W.lret (v := (-1000000000)) hx hb hr (fun t_ ht hW => ⟨⟨_, _, rfl, h, mB_of ht hM⟩, hS.F ht⟩) hS.2.2 dX3_agree_119
  · replace h := h.2.1 hc
    refine lv_tableIn (tgt := 52) (off := 38) hx hb dX3_agree_14 (by rw [hc]; decide) (by rw [hc]; decide) (by rw [hc]; rfl) (by decide) ?_
    refine lv_lload_n hx hb dX3_agree_52 rfl (lv_at hl 1 rfl) ?_
    exact W.lret (v := y_4) hx hb hr (fun t_ ht hW => ⟨⟨_, _, rfl, h, mB_of ht hM⟩, hS.F ht⟩) hS.2.2 dX3_agree_53
  · replace h := h.2.2.1 hc
    refine lv_tableIn (tgt := 54) (off := 40) hx hb dX3_agree_14 (by rw [hc]; decide) (by rw [hc]; decide) (by rw [hc]; rfl) (by decide) ?_
    refine lv_lload hx hb dX3_agree_54 (lv_at hl 0 rfl) ?_
    exact W.lret (v := y_8) hx hb hr (fun t_ ht hW => ⟨⟨_, _, rfl, h, mB_of ht hM⟩, hS.F ht⟩) hS.2.2 dX3_agree_56
  · replace h := h.2.2.2.1 hc
    refine lv_tableIn (tgt := 57) (off := 43) hx hb dX3_agree_14 (by rw [hc]; decide) (by rw [hc]; decide) (by rw [hc]; rfl) (by decide) ?_
    refine lv_lload_n hx hb dX3_agree_57 rfl (lv_at hl 1 rfl) ?_
    refine lv_lload hx hb dX3_agree_58 (lv_at hl 0 rfl) ?_
    refine lv_lmul hx hb dX3_agree_60 ?_
    refine lv_aload_n hx hb dX3_agree_61 rfl (lv_at hl 2 rfl) ?_
    obtain ⟨hk_9, h⟩ := h
    refine clVl (C := RX3) (b := t) (As := []) (rest := [.long (y_4 * y_8)]) ⟨hx, hb, hml, hown, hts⟩ hM hE hS (ok_X3_chance l D cs A t _ _ h) (cwV 0 hts gX3_agree_X3_chance rfl rfl rfl (by decide +kernel) ⟨(Nat.le_of_ble_eq_true rfl), (Nat.le_of_ble_eq_true rfl)⟩) (rc3 hM hE.1 hk_9) rfl hl.1 rfl (Nat.le_of_ble_eq_true rfl) dX3_agree_62 ⟨(Nat.le_of_ble_eq_true rfl), (Nat.le_of_ble_eq_true rfl)⟩ (fun y_11 σ_10 H locs h1 hM hS => ?_)
    replace h := h1
    clear h1
    refine lv_lsub hx hb dX3_agree_65 ?_
    exact W.lret (v := (y_4 * y_8) - y_11) hx hb hr (fun t_ ht hW => ⟨⟨_, _, rfl, h, mB_of ht hM⟩, hS.F ht⟩) hS.2.2 dX3_agree_66
  · replace h := h.2.2.2.2.1 hc
    refine lv_tableIn (tgt := 67) (off := 53) hx hb dX3_agree_14 (by rw [hc]; decide) (by rw [hc]; decide) (by rw [hc]; rfl) (by decide) ?_
    refine lv_lload_n hx hb dX3_agree_67 rfl (lv_at hl 1 rfl) ?_
    refine lv_lload_n hx hb dX3_agree_68 rfl (lv_at hl 1 rfl) ?_
    refine lv_lmul hx hb dX3_agree_69 ?_
    refine lv_aload_n hx hb dX3_agree_70 rfl (lv_at hl 2 rfl) ?_
    obtain ⟨hk_12, h⟩ := h
    refine clVl (C := RX3) (b := t) (As := []) (rest := [.long (y_4 * y_4)]) ⟨hx, hb, hml, hown, hts⟩ hM hE hS (ok_X3_chance l D cs A t _ _ h) (cwV 0 hts gX3_agree_X3_chance rfl rfl rfl (by decide +kernel) ⟨(Nat.le_of_ble_eq_true rfl), (Nat.le_of_ble_eq_true rfl)⟩) (rc3 hM hE.1 hk_12) rfl hl.1 rfl (Nat.le_of_ble_eq_true rfl) dX3_agree_71 ⟨(Nat.le_of_ble_eq_true rfl), (Nat.le_of_ble_eq_true rfl)⟩ (fun y_14 σ_13 H locs h1 hM hS => ?_)
    replace h := h1
    clear h1
    refine lv_lsub hx hb dX3_agree_74 ?_
    exact W.lret (v := (y_4 * y_4) - y_14) hx hb hr (fun t_ ht hW => ⟨⟨_, _, rfl, h, mB_of ht hM⟩, hS.F ht⟩) hS.2.2 dX3_agree_75
  · replace h := h.2.2.2.2.2.1 hc
    refine lv_tableIn (tgt := 76) (off := 62) hx hb dX3_agree_14 (by rw [hc]; decide) (by rw [hc]; decide) (by rw [hc]; rfl) (by decide) ?_
    refine lv_aload_n hx hb dX3_agree_76 rfl (lv_at hl 2 rfl) ?_
    obtain ⟨hk_15, h⟩ := h
    refine gf3_0 hx hb hts inX3_agree_3 hown hE.1 hM hk_15 (hts (.fieldLink RX3 14 "WorkCoder" "scheme" "LWorkCoder$Scheme;") (by decide +kernel)) dX3_agree_77 (fun r_16 er_16 => ?_)
    replace h := h r_16 er_16
    clear er_16
    obtain ⟨a_17, rfl, h⟩ := h
    obtain ⟨hk_18, h⟩ := h
    refine gf2_2 hx hb hts inX3_agree_2 hown hE.1 hM hk_18 (hts (.fieldLink RX3 216 "WorkCoder$Scheme" "size" "I") (by decide +kernel)) dX3_agree_80 ?_
    refine lv_iconst (v := 1) hx hb dX3_agree_83 (by decide) ?_
    refine lv_icmp_le (tgt := 92) hx hb dX3_agree_84 (by decide) (fun hc => ?_) (fun hc => ?_)
    · replace h := h.1 hc
      refine lv_lload hx hb dX3_agree_92 (lv_at hl 0 rfl) ?_
      refine lv_aload_n hx hb dX3_agree_94 rfl (lv_at hl 2 rfl) ?_
      refine lv_iconst (v := 1) hx hb dX3_agree_95 (by decide) ?_
      refine clVi (C := RX3) (b := t) (As := [.int 1]) (rest := [.long y_8]) ⟨hx, hb, hml, hown, hts⟩ hM hE hS (ok_X3_countState l D cs A t 1 _ _ h) (cwV 1 hts gX3_agree_X3_countState rfl rfl rfl (by decide +kernel) ⟨(Nat.le_of_ble_eq_true rfl), (Nat.le_of_ble_eq_true rfl)⟩) (rc3 hM hE.1 hk_15) rfl hl.1 rfl (Nat.le_of_ble_eq_true rfl) dX3_agree_96 ⟨(Nat.le_of_ble_eq_true rfl), (Nat.le_of_ble_eq_true rfl)⟩ (fun x_20 σ_19 H locs h1 hM hS => ?_)
      replace h := h1
      clear h1
      refine lv_i2l hx hb dX3_agree_99 (v := x_20.toInt64) rfl ?_
      refine lv_ladd hx hb dX3_agree_100 ?_
      refine lv_lload_n hx hb dX3_agree_101 rfl (lv_at hl 1 rfl) ?_
      refine lv_lsub hx hb dX3_agree_102 ?_
      exact W.lret (v := (y_8 + x_20.toInt64) - y_4) hx hb hr (fun t_ ht hW => ⟨⟨_, _, rfl, h, mB_of ht hM⟩, hS.F ht⟩) hS.2.2 dX3_agree_103
    · replace h := h.2 hc
      refine lv_lload hx hb dX3_agree_87 (lv_at hl 0 rfl) ?_
      refine lv_goto (tgt := 103) hx hb dX3_agree_89 (by decide) ?_
      exact W.lret (v := y_8) hx hb hr (fun t_ ht hW => ⟨⟨_, _, rfl, h, mB_of ht hM⟩, hS.F ht⟩) hS.2.2 dX3_agree_103
  · replace h := h.2.2.2.2.2.2 hc
    refine lv_tableIn (tgt := 104) (off := 90) hx hb dX3_agree_14 (by rw [hc]; decide) (by rw [hc]; decide) (by rw [hc]; rfl) (by decide) ?_
    refine lv_lload hx hb dX3_agree_104 (lv_at hl 0 rfl) ?_
    refine lv_aload_n hx hb dX3_agree_106 rfl (lv_at hl 2 rfl) ?_
    refine lv_iconst (v := 1) hx hb dX3_agree_107 (by decide) ?_
    obtain ⟨hk_21, h⟩ := h
    refine clVi (C := RX3) (b := t) (As := [.int 1]) (rest := [.long y_8]) ⟨hx, hb, hml, hown, hts⟩ hM hE hS (ok_X3_countState l D cs A t 1 _ _ h) (cwV 1 hts gX3_agree_X3_countState rfl rfl rfl (by decide +kernel) ⟨(Nat.le_of_ble_eq_true rfl), (Nat.le_of_ble_eq_true rfl)⟩) (rc3 hM hE.1 hk_21) rfl hl.1 rfl (Nat.le_of_ble_eq_true rfl) dX3_agree_108 ⟨(Nat.le_of_ble_eq_true rfl), (Nat.le_of_ble_eq_true rfl)⟩ (fun x_23 σ_22 H locs h1 hM hS => ?_)
    replace h := h1
    clear h1
    refine lv_i2l hx hb dX3_agree_111 (v := x_23.toInt64) rfl ?_
    refine lv_ladd hx hb dX3_agree_112 ?_
    refine lv_lload_n hx hb dX3_agree_113 rfl (lv_at hl 1 rfl) ?_
    refine lv_lsub hx hb dX3_agree_114 ?_
    exact W.lret (v := (y_8 + x_23.toInt64) - y_4) hx hb hr (fun t_ ht hW => ⟨⟨_, _, rfl, h, mB_of ht hM⟩, hS.F ht⟩) hS.2.2 dX3_agree_115
end S_X3_agree
set_option maxHeartbeats 4000000 in
set_option maxRecDepth 100000 in
theorem ok_X3_agree (l : Launch) (D : va_G) (cs : CS) (A : Nat → Prop) (t : Nat) (x1 : Int32) (σ : MM) (k : Int64 → MM → Prop) (h : wX3_agree t x1 σ k) : Met l yX3_agree wsX3_agree rmX3_agree (va_Pc [.ref t, .int x1] (mP D cs A σ)) (va_Ql k (mB D cs A) A) 0 0 A := by
  refine Met.ofW (cc := cX3_agree) (maxL := 6) (ret := (some .long)) (by decide) rfl ?_
  intro p e s m args below meth c s₁ B hml hv
  obtain ⟨rfl, hM, hE⟩ := hv
  have CX : CXM p s m _ meth c cX3_agree 6 (some .long) "agree" RX3 wsX3_agree D cs A := ⟨B.exec, B.bytes, hml, B.returns, (name_of_methodNamed B.named B.method).1, findClass_of_methodNamed B.named, atoms_spec (ws := wsX3_agree) B.pre, B.notSynchronized, hE⟩
  have hl := lv_entry ([.ref t, .int x1]) (n := 6) (Nat.le_of_ble_eq_true rfl)
  rw [lg_entry_eq]
  exact oX3_agree_0 CX x1 σ _ _ _ h hM va_S.rf hl
/-! WorkCoder.countQuarrels()I -/
abbrev rmX3_countQuarrels : Room := { frames := 2, cells := 0, slots := 0, locals := 45 }
theorem inX3_countQuarrels_3 : ∀ w ∈ wsX30, w ∈ wsX3_countQuarrels := fun _ h => List.mem_cons_of_mem _ (List.mem_append_left _ (List.mem_append_right _ (h)))
section S_X3_countQuarrels
variable {p : Program} {l : Launch} {e : Env} {s : State} {m : MethodId} {args : Array Value} {below : List Frame} {meth : Method} {c : Code} {D : va_G} {cs : CS} {A : Nat → Prop}
set_option maxHeartbeats 4000000 in
set_option maxRecDepth 100000 in
theorem oX3_countQuarrels_17 {k : Int32 → MM → Prop} {t : Nat} {g4 : Int32 → Int32 → MM → Prop} (CX : CXM p s m args meth c cX3_countQuarrels 4 (some .int) "countQuarrels" RX3 wsX3_countQuarrels D cs A) (hg4 : ∀ (x1 : Int32) (x2 : Int32) (σ : MM) (H : Heap) (locs : List Loc) (ls : Array Slot), g4 x1 x2 σ → PH D cs A σ H → va_S A s.heap H locs → lv_has ls 4 [(0, .ref t), (1, .int x1), (2, .int x2)] → W p l e (headSpec wsX3_countQuarrels rmX3_countQuarrels).room s m args below meth c H locs 0 0 (MQ below (va_Qi k (mB D cs A) A) args s 0 0 A) (F0 m 4 ls [])) : ∀ (n : Nat), ∀ (x1 : Int32) (x2 : Int32) (x3 : Int32) (σ : MM) (H : Heap) (locs : List Loc) (ls : Array Slot), wX3_countQuarrels_17 k t g4 n x1 x2 x3 σ → PH D cs A σ H → va_S A s.heap H locs → lv_has ls 4 [(0, .ref t), (1, .int x1), (2, .int x2), (3, .int x3)] → W p l e (headSpec wsX3_countQuarrels rmX3_countQuarrels).room s m args below meth c H locs 0 0 (MQ below (va_Qi k (mB D cs A) A) args s 0 0 A) (F0 m 17 ls []) := by
  intro n
  induction n with
  | zero => intro x1 x2 x3 σ H locs ls h; exact h.elim
  | succ n ih =>
    intro x1 x2 x3 σ H locs ls h hM hS hl
    have ⟨hx, hb, hml, hr, hnm, hown, hts, hlocks, hE⟩ := CX
    unfold wX3_countQuarrels_17 at h
    refine lv_iload_n hx hb dX3_countQuarrels_17 rfl (lv_at hl 3 rfl) ?_
    refine lv_aload_n hx hb dX3_countQuarrels_18 rfl (lv_at hl 0 rfl) ?_
    obtain ⟨hk_1, h⟩ := h
    refine gf3_7 hx hb hts inX3_countQuarrels_3 hown hE.1 hM hk_1 (hts (.fieldLink RX3 44 "WorkCoder" "rules" "[LWorkCoder$Rule;") (by decide +kernel)) dX3_countQuarrels_19 (fun r_2 er_2 => ?_)
    replace h := h r_2 er_2
    clear er_2
    obtain ⟨a_3, rfl, h⟩ := h
    obtain ⟨hk_4, h⟩ := h
    refine mm_alen10 hx hb hE.1 hM hk_4 dX3_countQuarrels_22 ?_
    refine lv_icmp_ge (tgt := 44) hx hb dX3_countQuarrels_23 (by decide) (fun hc => ?_) (fun hc => ?_)
    · replace h := h.1 hc
      obtain ⟨x_5, ex_5⟩ : ∃ y : Int32, y = x2 + 1 := ⟨_, rfl⟩
      replace h := h x_5 ex_5
      refine lv_iinc (v := x_5) (lv' := [(2, .int x_5), (0, .ref t), (1, .int x1), (3, .int x3)]) hx hb dX3_countQuarrels_44 hl (k := 2) rfl (by rw [ex_5]; rfl) (by decide) rfl (fun ls hl => ?_)
      refine lv_goto (tgt := 4) hx hb dX3_countQuarrels_47 (by decide) ?_
      exact hg4 _ _ _ _ _ _ h hM hS (lv_sub hl [1, 2, 0] rfl)
    · replace h := h.2 hc
      refine lv_aload_n hx hb dX3_countQuarrels_26 rfl (lv_at hl 0 rfl) ?_
      refine lv_iload_n hx hb dX3_countQuarrels_27 rfl (lv_at hl 2 rfl) ?_
      refine lv_iload_n hx hb dX3_countQuarrels_28 rfl (lv_at hl 3 rfl) ?_
      refine clVi (C := RX3) (b := t) (As := [.int x2, .int x3]) (rest := []) ⟨hx, hb, hml, hown, hts⟩ hM hE hS (ok_X3_doQuarrel l D cs A t x2 x3 _ _ h) (cwV 2 hts gX3_countQuarrels_X3_doQuarrel rfl rfl rfl (by decide +kernel) ⟨(Nat.le_of_ble_eq_true rfl), (Nat.le_of_ble_eq_true rfl)⟩) (rc3 hM hE.1 hk_1) rfl hl.1 rfl (Nat.le_of_ble_eq_true rfl) dX3_countQuarrels_29 ⟨(Nat.le_of_ble_eq_true rfl), (Nat.le_of_ble_eq_true rfl)⟩ (fun x_7 σ_6 H locs h1 hM hS => ?_)
      replace h := h1
      clear h1
      refine lv_if_eq (tgt := 38) hx hb dX3_countQuarrels_32 (by decide) (fun hc => ?_) (fun hc => ?_)
      · replace h := h.1 hc
        obtain ⟨x_8, ex_8⟩ : ∃ y : Int32, y = x3 + 1 := ⟨_, rfl⟩
        replace h := h x_8 ex_8
        refine lv_iinc (v := x_8) (lv' := [(3, .int x_8), (0, .ref t), (1, .int x1), (2, .int x2)]) hx hb dX3_countQuarrels_38 hl (k := 3) rfl (by rw [ex_8]; rfl) (by decide) rfl (fun ls hl => ?_)
        refine lv_goto (tgt := 17) hx hb dX3_countQuarrels_41 (by decide) ?_
        exact ih _ _ _ _ _ _ _ h hM hS (lv_sub hl [1, 2, 3, 0] rfl)
      · replace h := h.2 hc
        obtain ⟨x_9, ex_9⟩ : ∃ y : Int32, y = x1 + 1 := ⟨_, rfl⟩
        replace h := h x_9 ex_9
        refine lv_iinc (v := x_9) (lv' := [(1, .int x_9), (0, .ref t), (2, .int x2), (3, .int x3)]) hx hb dX3_countQuarrels_35 hl (k := 1) rfl (by rw [ex_9]; rfl) (by decide) rfl (fun ls hl => ?_)
        obtain ⟨x_10, ex_10⟩ : ∃ y : Int32, y = x3 + 1 := ⟨_, rfl⟩
        replace h := h x_10 ex_10
        refine lv_iinc (v := x_10) (lv' := [(3, .int x_10), (1, .int x_9), (0, .ref t), (2, .int x2)]) hx hb dX3_countQuarrels_38 hl (k := 3) rfl (by rw [ex_10]; rfl) (by decide) rfl (fun ls hl => ?_)
        refine lv_goto (tgt := 17) hx hb dX3_countQuarrels_41 (by decide) ?_
        exact ih _ _ _ _ _ _ _ h hM hS (lv_sub hl [2, 1, 3, 0] rfl)
set_option maxHeartbeats 4000000 in
set_option maxRecDepth 100000 in
theorem oX3_countQuarrels_4 {k : Int32 → MM → Prop} {t : Nat} (CX : CXM p s m args meth c cX3_countQuarrels 4 (some .int) "countQuarrels" RX3 wsX3_countQuarrels D cs A) : ∀ (n : Nat), ∀ (x1 : Int32) (x2 : Int32) (σ : MM) (H : Heap) (locs : List Loc) (ls : Array Slot), wX3_countQuarrels_4 k t  n x1 x2 σ → PH D cs A σ H → va_S A s.heap H locs → lv_has ls 4 [(0, .ref t), (1, .int x1), (2, .int x2)] → W p l e (headSpec wsX3_countQuarrels rmX3_countQuarrels).room s m args below meth c H locs 0 0 (MQ below (va_Qi k (mB D cs A) A) args s 0 0 A) (F0 m 4 ls []) := by
  intro n
  induction n with
  | zero => intro x1 x2 σ H locs ls h; exact h.elim
  | succ n ih =>
    intro x1 x2 σ H locs ls h hM hS hl
    have ⟨hx, hb, hml, hr, hnm, hown, hts, hlocks, hE⟩ := CX
    unfold wX3_countQuarrels_4 at h
    refine lv_iload_n hx hb dX3_countQuarrels_4 rfl (lv_at hl 2 rfl) ?_
    refine lv_aload_n hx hb dX3_countQuarrels_5 rfl (lv_at hl 0 rfl) ?_
    obtain ⟨hk_1, h⟩ := h
    refine gf3_7 hx hb hts inX3_countQuarrels_3 hown hE.1 hM hk_1 (hts (.fieldLink RX3 44 "WorkCoder" "rules" "[LWorkCoder$Rule;") (by decide +kernel)) dX3_countQuarrels_6 (fun r_2 er_2 => ?_)
    replace h := h r_2 er_2
    clear er_2
    obtain ⟨a_3, rfl, h⟩ := h
    obtain ⟨hk_4, h⟩ := h
    refine mm_alen10 hx hb hE.1 hM hk_4 dX3_countQuarrels_9 ?_
    refine lv_icmp_ge (tgt := 50) hx hb dX3_countQuarrels_10 (by decide) (fun hc => ?_) (fun hc => ?_)
    · replace h := h.1 hc
      refine lv_iload_n hx hb dX3_countQuarrels_50 rfl (lv_at hl 1 rfl) ?_
      exact W.iret (v := x1) hx hb hr (fun t_ ht hW => ⟨⟨_, _, rfl, h, mB_of ht hM⟩, hS.F ht⟩) hS.2.2 dX3_countQuarrels_51
    · replace h := h.2 hc
      refine lv_iload_n hx hb dX3_countQuarrels_13 rfl (lv_at hl 2 rfl) ?_
      refine lv_iconst (v := 1) hx hb dX3_countQuarrels_14 (by decide) ?_
      refine lv_iadd hx hb dX3_countQuarrels_15 ?_
      refine lv_topi (fun x_5 ex_5 => ?_)
      replace h := h x_5 ex_5
      refine lv_istore_n (i := 3) (lv' := [(3, .int x_5), (0, .ref t), (1, .int x1), (2, .int x2)]) hx hb dX3_countQuarrels_16 rfl hl (by decide) rfl (fun ls hl => ?_)
      obtain ⟨n0, h⟩ := h
      exact oX3_countQuarrels_17 CX ih n0 _ _ _ _ _ _ _ h hM hS (lv_sub hl [1, 2, 3, 0] rfl)
set_option maxHeartbeats 4000000 in
set_option maxRecDepth 100000 in
theorem oX3_countQuarrels_0 {k : Int32 → MM → Prop} {t : Nat} (CX : CXM p s m args meth c cX3_countQuarrels 4 (some .int) "countQuarrels" RX3 wsX3_countQuarrels D cs A) : ∀ (σ : MM) (H : Heap) (locs : List Loc) (ls : Array Slot), wX3_countQuarrels t σ k → PH D cs A σ H → va_S A s.heap H locs → lv_has ls 4 [(0, .ref t)] → W p l e (headSpec wsX3_countQuarrels rmX3_countQuarrels).room s m args below meth c H locs 0 0 (MQ below (va_Qi k (mB D cs A) A) args s 0 0 A) (F0 m 0 ls []) := by
  intro  σ H locs ls h hM hS hl
  have ⟨hx, hb, hml, hr, hnm, hown, hts, hlocks, hE⟩ := CX
  unfold wX3_countQuarrels at h
  refine lv_iconst (v := 0) hx hb dX3_countQuarrels_0 (by decide) ?_
  refine lv_istore_n (i := 1) (lv' := [(1, .int 0), (0, .ref t)]) hx hb dX3_countQuarrels_1 rfl hl (by decide) rfl (fun ls hl => ?_)
  refine lv_iconst (v := 0) hx hb dX3_countQuarrels_2 (by decide) ?_
  refine lv_istore_n (i := 2) (lv' := [(2, .int 0), (1, .int 0), (0, .ref t)]) hx hb dX3_countQuarrels_3 rfl hl (by decide) rfl (fun ls hl => ?_)
  obtain ⟨n0, h⟩ := h
  exact oX3_countQuarrels_4 CX  n0 _ _ _ _ _ _ h hM hS (lv_sub hl [2, 1, 0] rfl)
end S_X3_countQuarrels
set_option maxHeartbeats 4000000 in
set_option maxRecDepth 100000 in
theorem ok_X3_countQuarrels (l : Launch) (D : va_G) (cs : CS) (A : Nat → Prop) (t : Nat) (σ : MM) (k : Int32 → MM → Prop) (h : wX3_countQuarrels t σ k) : Met l yX3_countQuarrels wsX3_countQuarrels rmX3_countQuarrels (va_Pc [.ref t] (mP D cs A σ)) (va_Qi k (mB D cs A) A) 0 0 A := by
  refine Met.ofW (cc := cX3_countQuarrels) (maxL := 4) (ret := (some .int)) (by decide) rfl ?_
  intro p e s m args below meth c s₁ B hml hv
  obtain ⟨rfl, hM, hE⟩ := hv
  have CX : CXM p s m _ meth c cX3_countQuarrels 4 (some .int) "countQuarrels" RX3 wsX3_countQuarrels D cs A := ⟨B.exec, B.bytes, hml, B.returns, (name_of_methodNamed B.named B.method).1, findClass_of_methodNamed B.named, atoms_spec (ws := wsX3_countQuarrels) B.pre, B.notSynchronized, hE⟩
  have hl := lv_entry ([.ref t]) (n := 4) (Nat.le_of_ble_eq_true rfl)
  rw [lg_entry_eq]
  exact oX3_countQuarrels_0 CX  σ _ _ _ h hM va_S.rf hl
/-! WorkCoder.countStale()I -/
abbrev rmX3_countStale : Room := { frames := 5, cells := 0, slots := 0, locals := 115 }
theorem inX3_countStale_3 : ∀ w ∈ wsX30, w ∈ wsX3_countStale := fun _ h => List.mem_cons_of_mem _ (List.mem_append_left _ (List.mem_append_left _ (List.mem_append_right _ (h))))
section S_X3_countStale
variable {p : Program} {l : Launch} {e : Env} {s : State} {m : MethodId} {args : Array Value} {below : List Frame} {meth : Method} {c : Code} {D : va_G} {cs : CS} {A : Nat → Prop}
set_option maxHeartbeats 4000000 in
set_option maxRecDepth 100000 in
theorem oX3_countStale_4 {k : Int32 → MM → Prop} {t : Nat} (CX : CXM p s m args meth c cX3_countStale 3 (some .int) "countStale" RX3 wsX3_countStale D cs A) : ∀ (n : Nat), ∀ (x1 : Int32) (x2 : Int32) (σ : MM) (H : Heap) (locs : List Loc) (ls : Array Slot), wX3_countStale_4 k t  n x1 x2 σ → PH D cs A σ H → va_S A s.heap H locs → lv_has ls 3 [(0, .ref t), (1, .int x1), (2, .int x2)] → W p l e (headSpec wsX3_countStale rmX3_countStale).room s m args below meth c H locs 0 0 (MQ below (va_Qi k (mB D cs A) A) args s 0 0 A) (F0 m 4 ls []) := by
  intro n
  induction n with
  | zero => intro x1 x2 σ H locs ls h; exact h.elim
  | succ n ih =>
    intro x1 x2 σ H locs ls h hM hS hl
    have ⟨hx, hb, hml, hr, hnm, hown, hts, hlocks, hE⟩ := CX
    unfold wX3_countStale_4 at h
    refine lv_iload_n hx hb dX3_countStale_4 rfl (lv_at hl 2 rfl) ?_
    refine lv_aload_n hx hb dX3_countStale_5 rfl (lv_at hl 0 rfl) ?_
    obtain ⟨hk_1, h⟩ := h
    refine gf3_5 hx hb hts inX3_countStale_3 hown hE.1 hM hk_1 (hts (.fieldLink RX3 34 "WorkCoder" "items" "[LWorkCoder$Item;") (by decide +kernel)) dX3_countStale_6 (fun r_2 er_2 => ?_)
    replace h := h r_2 er_2
    clear er_2
    obtain ⟨a_3, rfl, h⟩ := h
    obtain ⟨hk_4, h⟩ := h
    refine mm_alen9 hx hb hE.1 hM hk_4 dX3_countStale_9 ?_
    refine lv_icmp_ge (tgt := 35) hx hb dX3_countStale_10 (by decide) (fun hc => ?_) (fun hc => ?_)
    · replace h := h.1 hc
      refine lv_iload_n hx hb dX3_countStale_35 rfl (lv_at hl 1 rfl) ?_
      exact W.iret (v := x1) hx hb hr (fun t_ ht hW => ⟨⟨_, _, rfl, h, mB_of ht hM⟩, hS.F ht⟩) hS.2.2 dX3_countStale_36
    · replace h := h.2 hc
      refine lv_aload_n hx hb dX3_countStale_13 rfl (lv_at hl 0 rfl) ?_
      refine lv_aload_n hx hb dX3_countStale_14 rfl (lv_at hl 0 rfl) ?_
      refine gf3_5 hx hb hts inX3_countStale_3 hown hE.1 hM hk_1 (hts (.fieldLink RX3 34 "WorkCoder" "items" "[LWorkCoder$Item;") (by decide +kernel)) dX3_countStale_15 (fun r_5 er_5 => ?_)
      replace h := h r_5 er_5
      clear er_5
      refine lv_iload_n hx hb dX3_countStale_18 rfl (lv_at hl 2 rfl) ?_
      obtain ⟨a_6, rfl, h⟩ := h
      obtain ⟨hk_7, h⟩ := h
      obtain ⟨hv_8, h⟩ := h
      refine mm_aald9 hx hb hE.1 hM hk_7 hv_8 dX3_countStale_19 (fun r_9 er_9 => ?_)
      replace h := h r_9 er_9
      clear er_9
      refine clVi (C := RX3) (b := t) (As := [va_rf r_9]) (rest := []) ⟨hx, hb, hml, hown, hts⟩ hM hE hS (ok_X3_isStale l D cs A t r_9 _ _ h) (cwV 1 hts gX3_countStale_X3_isStale rfl rfl rfl (by decide +kernel) ⟨(Nat.le_of_ble_eq_true rfl), (Nat.le_of_ble_eq_true rfl)⟩) (rc3 hM hE.1 hk_1) rfl hl.1 rfl (Nat.le_of_ble_eq_true rfl) dX3_countStale_20 ⟨(Nat.le_of_ble_eq_true rfl), (Nat.le_of_ble_eq_true rfl)⟩ (fun x_11 σ_10 H locs h1 hM hS => ?_)
      replace h := h1
      clear h1
      refine lv_if_eq (tgt := 29) hx hb dX3_countStale_23 (by decide) (fun hc => ?_) (fun hc => ?_)
      · replace h := h.1 hc
        obtain ⟨x_12, ex_12⟩ : ∃ y : Int32, y = x2 + 1 := ⟨_, rfl⟩
        replace h := h x_12 ex_12
        refine lv_iinc (v := x_12) (lv' := [(2, .int x_12), (0, .ref t), (1, .int x1)]) hx hb dX3_countStale_29 hl (k := 2) rfl (by rw [ex_12]; rfl) (by decide) rfl (fun ls hl => ?_)
        refine lv_goto (tgt := 4) hx hb dX3_countStale_32 (by decide) ?_
        exact ih _ _ _ _ _ _ h hM hS (lv_sub hl [1, 2, 0] rfl)
      · replace h := h.2 hc
        obtain ⟨x_13, ex_13⟩ : ∃ y : Int32, y = x1 + 1 := ⟨_, rfl⟩
        replace h := h x_13 ex_13
        refine lv_iinc (v := x_13) (lv' := [(1, .int x_13), (0, .ref t), (2, .int x2)]) hx hb dX3_countStale_26 hl (k := 1) rfl (by rw [ex_13]; rfl) (by decide) rfl (fun ls hl => ?_)
        obtain ⟨x_14, ex_14⟩ : ∃ y : Int32, y = x2 + 1 := ⟨_, rfl⟩
        replace h := h x_14 ex_14
        refine lv_iinc (v := x_14) (lv' := [(2, .int x_14), (1, .int x_13), (0, .ref t)]) hx hb dX3_countStale_29 hl (k := 2) rfl (by rw [ex_14]; rfl) (by decide) rfl (fun ls hl => ?_)
        refine lv_goto (tgt := 4) hx hb dX3_countStale_32 (by decide) ?_
        exact ih _ _ _ _ _ _ h hM hS (lv_sub hl [2, 1, 0] rfl)
set_option maxHeartbeats 4000000 in
set_option maxRecDepth 100000 in
theorem oX3_countStale_0 {k : Int32 → MM → Prop} {t : Nat} (CX : CXM p s m args meth c cX3_countStale 3 (some .int) "countStale" RX3 wsX3_countStale D cs A) : ∀ (σ : MM) (H : Heap) (locs : List Loc) (ls : Array Slot), wX3_countStale t σ k → PH D cs A σ H → va_S A s.heap H locs → lv_has ls 3 [(0, .ref t)] → W p l e (headSpec wsX3_countStale rmX3_countStale).room s m args below meth c H locs 0 0 (MQ below (va_Qi k (mB D cs A) A) args s 0 0 A) (F0 m 0 ls []) := by
  intro  σ H locs ls h hM hS hl
  have ⟨hx, hb, hml, hr, hnm, hown, hts, hlocks, hE⟩ := CX
  unfold wX3_countStale at h
  refine lv_iconst (v := 0) hx hb dX3_countStale_0 (by decide) ?_
  refine lv_istore_n (i := 1) (lv' := [(1, .int 0), (0, .ref t)]) hx hb dX3_countStale_1 rfl hl (by decide) rfl (fun ls hl => ?_)
  refine lv_iconst (v := 0) hx hb dX3_countStale_2 (by decide) ?_
  refine lv_istore_n (i := 2) (lv' := [(2, .int 0), (1, .int 0), (0, .ref t)]) hx hb dX3_countStale_3 rfl hl (by decide) rfl (fun ls hl => ?_)
  obtain ⟨n0, h⟩ := h
  exact oX3_countStale_4 CX  n0 _ _ _ _ _ _ h hM hS (lv_sub hl [2, 1, 0] rfl)
end S_X3_countStale
set_option maxHeartbeats 4000000 in
set_option maxRecDepth 100000 in
theorem ok_X3_countStale (l : Launch) (D : va_G) (cs : CS) (A : Nat → Prop) (t : Nat) (σ : MM) (k : Int32 → MM → Prop) (h : wX3_countStale t σ k) : Met l yX3_countStale wsX3_countStale rmX3_countStale (va_Pc [.ref t] (mP D cs A σ)) (va_Qi k (mB D cs A) A) 0 0 A := by
  refine Met.ofW (cc := cX3_countStale) (maxL := 3) (ret := (some .int)) (by decide) rfl ?_
  intro p e s m args below meth c s₁ B hml hv
  obtain ⟨rfl, hM, hE⟩ := hv
  have CX : CXM p s m _ meth c cX3_countStale 3 (some .int) "countStale" RX3 wsX3_countStale D cs A := ⟨B.exec, B.bytes, hml, B.returns, (name_of_methodNamed B.named B.method).1, findClass_of_methodNamed B.named, atoms_spec (ws := wsX3_countStale) B.pre, B.notSynchronized, hE⟩
  have hl := lv_entry ([.ref t]) (n := 3) (Nat.le_of_ble_eq_true rfl)
  rw [lg_entry_eq]
  exact oX3_countStale_0 CX  σ _ _ _ h hM va_S.rf hl
/-! WorkCoder.count(I)I -/
abbrev rmX3_count : Room := { frames := 6, cells := 0, slots := 0, locals := 137 }
theorem inX3_count_2 : ∀ w ∈ wsX20, w ∈ wsX3_count := fun _ h => List.mem_cons_of_mem _ (List.mem_append_left _ (List.mem_append_left _ (List.mem_append_right _ (h))))
theorem inX3_count_3 : ∀ w ∈ wsX30, w ∈ wsX3_count := fun _ h => List.mem_cons_of_mem _ (List.mem_append_left _ (List.mem_append_left _ (List.mem_append_left _ (List.mem_append_right _ (h)))))
section S_X3_count
variable {p : Program} {l : Launch} {e : Env} {s : State} {m : MethodId} {args : Array Value} {below : List Frame} {meth : Method} {c : Code} {D : va_G} {cs : CS} {A : Nat → Prop}
set_option maxHeartbeats 4000000 in
set_option maxRecDepth 100000 in
theorem oX3_count_0 {k : Int32 → MM → Prop} {t : Nat} (CX : CXM p s m args meth c cX3_count 2 (some .int) "count" RX3 wsX3_count D cs A) : ∀ (x1 : Int32) (σ : MM) (H : Heap) (locs : List Loc) (ls : Array Slot), wX3_count t x1 σ k → PH D cs A σ H → va_S A s.heap H locs → lv_has ls 2 [(0, .ref t), (1, .int x1)] → W p l e (headSpec wsX3_count rmX3_count).room s m args below meth c H locs 0 0 (MQ below (va_Qi k (mB D cs A) A) args s 0 0 A) (F0 m 0 ls []) := by
  intro x1 σ H locs ls h hM hS hl
  have ⟨hx, hb, hml, hr, hnm, hown, hts, hlocks, hE⟩ := CX
  unfold wX3_count at h
  refine lv_iload_n hx hb dX3_count_0 rfl (lv_at hl 1 rfl) ?_
  rcases sw_9 x1 with hc | hc | hc | hc | hc | hc | hc | hc | hc | hc | hc
  · replace h := h.1 hc
    refine lv_tableOut (tgt := 128) hx hb dX3_count_1 hc (by decide) ?_
    refine lv_iconst (v := (-1)) hx hb dX3_count_128 (by decide) ?_
    exact W.iret (v := (-1)) hx hb hr (fun t_ ht hW => ⟨⟨_, _, rfl, h, mB_of ht hM⟩, hS.F ht⟩) hS.2.2 dX3_count_129
  · replace h := h.2.1 hc
    refine lv_tableIn (tgt := 56) (off := 55) hx hb dX3_count_1 (by rw [hc]; decide) (by rw [hc]; decide) (by rw [hc]; rfl) (by decide) ?_
    refine lv_aload_n hx hb dX3_count_56 rfl (lv_at hl 0 rfl) ?_
    obtain ⟨hk_1, h⟩ := h
    refine gf3_0 hx hb hts inX3_count_3 hown hE.1 hM hk_1 (hts (.fieldLink RX3 14 "WorkCoder" "scheme" "LWorkCoder$Scheme;") (by decide +kernel)) dX3_count_57 (fun r_2 er_2 => ?_)
    replace h := h r_2 er_2
    clear er_2
    obtain ⟨a_3, rfl, h⟩ := h
    obtain ⟨hk_4, h⟩ := h
    refine gf2_2 hx hb hts inX3_count_2 hown hE.1 hM hk_4 (hts (.fieldLink RX3 216 "WorkCoder$Scheme" "size" "I") (by decide +kernel)) dX3_count_60 ?_
    exact W.iret (v := mI σ a_3 2) hx hb hr (fun t_ ht hW => ⟨⟨_, _, rfl, h, mB_of ht hM⟩, hS.F ht⟩) hS.2.2 dX3_count_63
  · replace h := h.2.2.1 hc
    refine lv_tableIn (tgt := 64) (off := 63) hx hb dX3_count_1 (by rw [hc]; decide) (by rw [hc]; decide) (by rw [hc]; rfl) (by decide) ?_
    refine lv_aload_n hx hb dX3_count_64 rfl (lv_at hl 0 rfl) ?_
    obtain ⟨hk_5, h⟩ := h
    refine gf3_6 hx hb hts inX3_count_3 hown hE.1 hM hk_5 (hts (.fieldLink RX3 38 "WorkCoder" "answers" "I") (by decide +kernel)) dX3_count_65 ?_
    exact W.iret (v := mI σ t 6) hx hb hr (fun t_ ht hW => ⟨⟨_, _, rfl, h, mB_of ht hM⟩, hS.F ht⟩) hS.2.2 dX3_count_68
  · replace h := h.2.2.2.1 hc
    refine lv_tableIn (tgt := 69) (off := 68) hx hb dX3_count_1 (by rw [hc]; decide) (by rw [hc]; decide) (by rw [hc]; rfl) (by decide) ?_
    refine lv_aload_n hx hb dX3_count_69 rfl (lv_at hl 0 rfl) ?_
    refine lv_iconst (v := 0) hx hb dX3_count_70 (by decide) ?_
    obtain ⟨hk_6, h⟩ := h
    refine clVi (C := RX3) (b := t) (As := [.int 0]) (rest := []) ⟨hx, hb, hml, hown, hts⟩ hM hE hS (ok_X3_countState l D cs A t 0 _ _ h) (cwV 1 hts gX3_count_X3_countState rfl rfl rfl (by decide +kernel) ⟨(Nat.le_of_ble_eq_true rfl), (Nat.le_of_ble_eq_true rfl)⟩) (rc3 hM hE.1 hk_6) rfl hl.1 rfl (Nat.le_of_ble_eq_true rfl) dX3_count_71 ⟨(Nat.le_of_ble_eq_true rfl), (Nat.le_of_ble_eq_true rfl)⟩ (fun x_8 σ_7 H locs h1 hM hS => ?_)
    replace h := h1
    clear h1
    refine lv_aload_n hx hb dX3_count_74 rfl (lv_at hl 0 rfl) ?_
    refine lv_iconst (v := 1) hx hb dX3_count_75 (by decide) ?_
    obtain ⟨hk_9, h⟩ := h
    refine clVi (C := RX3) (b := t) (As := [.int 1]) (rest := [.int x_8]) ⟨hx, hb, hml, hown, hts⟩ hM hE hS (ok_X3_countState l D cs A t 1 _ _ h) (cwV 1 hts gX3_count_X3_countState rfl rfl rfl (by decide +kernel) ⟨(Nat.le_of_ble_eq_true rfl), (Nat.le_of_ble_eq_true rfl)⟩) (rc3 hM hE.1 hk_9) rfl hl.1 rfl (Nat.le_of_ble_eq_true rfl) dX3_count_76 ⟨(Nat.le_of_ble_eq_true rfl), (Nat.le_of_ble_eq_true rfl)⟩ (fun x_11 σ_10 H locs h1 hM hS => ?_)
    replace h := h1
    clear h1
    refine lv_iadd hx hb dX3_count_79 ?_
    refine lv_aload_n hx hb dX3_count_80 rfl (lv_at hl 0 rfl) ?_
    refine lv_iconst (v := 2) hx hb dX3_count_81 (by decide) ?_
    obtain ⟨hk_12, h⟩ := h
    refine clVi (C := RX3) (b := t) (As := [.int 2]) (rest := [.int (x_8 + x_11)]) ⟨hx, hb, hml, hown, hts⟩ hM hE hS (ok_X3_countState l D cs A t 2 _ _ h) (cwV 1 hts gX3_count_X3_countState rfl rfl rfl (by decide +kernel) ⟨(Nat.le_of_ble_eq_true rfl), (Nat.le_of_ble_eq_true rfl)⟩) (rc3 hM hE.1 hk_12) rfl hl.1 rfl (Nat.le_of_ble_eq_true rfl) dX3_count_82 ⟨(Nat.le_of_ble_eq_true rfl), (Nat.le_of_ble_eq_true rfl)⟩ (fun x_14 σ_13 H locs h1 hM hS => ?_)
    replace h := h1
    clear h1
    refine lv_iadd hx hb dX3_count_85 ?_
    exact W.iret (v := (x_8 + x_11) + x_14) hx hb hr (fun t_ ht hW => ⟨⟨_, _, rfl, h, mB_of ht hM⟩, hS.F ht⟩) hS.2.2 dX3_count_86
  · replace h := h.2.2.2.2.1 hc
    refine lv_tableIn (tgt := 87) (off := 86) hx hb dX3_count_1 (by rw [hc]; decide) (by rw [hc]; decide) (by rw [hc]; rfl) (by decide) ?_
    refine lv_aload_n hx hb dX3_count_87 rfl (lv_at hl 0 rfl) ?_
    obtain ⟨hk_15, h⟩ := h
    refine gf3_8 hx hb hts inX3_count_3 hown hE.1 hM hk_15 (hts (.fieldLink RX3 48 "WorkCoder" "ruleCount" "I") (by decide +kernel)) dX3_count_88 ?_
    exact W.iret (v := mI σ t 8) hx hb hr (fun t_ ht hW => ⟨⟨_, _, rfl, h, mB_of ht hM⟩, hS.F ht⟩) hS.2.2 dX3_count_91
  · replace h := h.2.2.2.2.2.1 hc
    refine lv_tableIn (tgt := 92) (off := 91) hx hb dX3_count_1 (by rw [hc]; decide) (by rw [hc]; decide) (by rw [hc]; rfl) (by decide) ?_
    refine lv_aload_n hx hb dX3_count_92 rfl (lv_at hl 0 rfl) ?_
    refine lv_iconst (v := 0) hx hb dX3_count_93 (by decide) ?_
    obtain ⟨hk_16, h⟩ := h
    refine clVi (C := RX3) (b := t) (As := [.int 0]) (rest := []) ⟨hx, hb, hml, hown, hts⟩ hM hE hS (ok_X3_countState l D cs A t 0 _ _ h) (cwV 1 hts gX3_count_X3_countState rfl rfl rfl (by decide +kernel) ⟨(Nat.le_of_ble_eq_true rfl), (Nat.le_of_ble_eq_true rfl)⟩) (rc3 hM hE.1 hk_16) rfl hl.1 rfl (Nat.le_of_ble_eq_true rfl) dX3_count_94 ⟨(Nat.le_of_ble_eq_true rfl), (Nat.le_of_ble_eq_true rfl)⟩ (fun x_18 σ_17 H locs h1 hM hS => ?_)
    replace h := h1
    clear h1
    exact W.iret (v := x_18) hx hb hr (fun t_ ht hW => ⟨⟨_, _, rfl, h, mB_of ht hM⟩, hS.F ht⟩) hS.2.2 dX3_count_97
  · replace h := h.2.2.2.2.2.2.1 hc
    refine lv_tableIn (tgt := 98) (off := 97) hx hb dX3_count_1 (by rw [hc]; decide) (by rw [hc]; decide) (by rw [hc]; rfl) (by decide) ?_
    refine lv_aload_n hx hb dX3_count_98 rfl (lv_at hl 0 rfl) ?_
    refine lv_iconst (v := 1) hx hb dX3_count_99 (by decide) ?_
    obtain ⟨hk_19, h⟩ := h
    refine clVi (C := RX3) (b := t) (As := [.int 1]) (rest := []) ⟨hx, hb, hml, hown, hts⟩ hM hE hS (ok_X3_countState l D cs A t 1 _ _ h) (cwV 1 hts gX3_count_X3_countState rfl rfl rfl (by decide +kernel) ⟨(Nat.le_of_ble_eq_true rfl), (Nat.le_of_ble_eq_true rfl)⟩) (rc3 hM hE.1 hk_19) rfl hl.1 rfl (Nat.le_of_ble_eq_true rfl) dX3_count_100 ⟨(Nat.le_of_ble_eq_true rfl), (Nat.le_of_ble_eq_true rfl)⟩ (fun x_21 σ_20 H locs h1 hM hS => ?_)
    replace h := h1
    clear h1
    exact W.iret (v := x_21) hx hb hr (fun t_ ht hW => ⟨⟨_, _, rfl, h, mB_of ht hM⟩, hS.F ht⟩) hS.2.2 dX3_count_103
  · replace h := h.2.2.2.2.2.2.2.1 hc
    refine lv_tableIn (tgt := 104) (off := 103) hx hb dX3_count_1 (by rw [hc]; decide) (by rw [hc]; decide) (by rw [hc]; rfl) (by decide) ?_
    refine lv_aload_n hx hb dX3_count_104 rfl (lv_at hl 0 rfl) ?_
    refine lv_iconst (v := 2) hx hb dX3_count_105 (by decide) ?_
    obtain ⟨hk_22, h⟩ := h
    refine clVi (C := RX3) (b := t) (As := [.int 2]) (rest := []) ⟨hx, hb, hml, hown, hts⟩ hM hE hS (ok_X3_countState l D cs A t 2 _ _ h) (cwV 1 hts gX3_count_X3_countState rfl rfl rfl (by decide +kernel) ⟨(Nat.le_of_ble_eq_true rfl), (Nat.le_of_ble_eq_true rfl)⟩) (rc3 hM hE.1 hk_22) rfl hl.1 rfl (Nat.le_of_ble_eq_true rfl) dX3_count_106 ⟨(Nat.le_of_ble_eq_true rfl), (Nat.le_of_ble_eq_true rfl)⟩ (fun x_24 σ_23 H locs h1 hM hS => ?_)
    replace h := h1
    clear h1
    exact W.iret (v := x_24) hx hb hr (fun t_ ht hW => ⟨⟨_, _, rfl, h, mB_of ht hM⟩, hS.F ht⟩) hS.2.2 dX3_count_109
  · replace h := h.2.2.2.2.2.2.2.2.1 hc
    refine lv_tableIn (tgt := 110) (off := 109) hx hb dX3_count_1 (by rw [hc]; decide) (by rw [hc]; decide) (by rw [hc]; rfl) (by decide) ?_
    refine lv_aload_n hx hb dX3_count_110 rfl (lv_at hl 0 rfl) ?_
    obtain ⟨hk_25, h⟩ := h
    refine clVi (C := RX3) (b := t) (As := []) (rest := []) ⟨hx, hb, hml, hown, hts⟩ hM hE hS (ok_X3_countQuarrels l D cs A t _ _ h) (cwV 0 hts gX3_count_X3_countQuarrels rfl rfl rfl (by decide +kernel) ⟨(Nat.le_of_ble_eq_true rfl), (Nat.le_of_ble_eq_true rfl)⟩) (rc3 hM hE.1 hk_25) rfl hl.1 rfl (Nat.le_of_ble_eq_true rfl) dX3_count_111 ⟨(Nat.le_of_ble_eq_true rfl), (Nat.le_of_ble_eq_true rfl)⟩ (fun x_27 σ_26 H locs h1 hM hS => ?_)
    replace h := h1
    clear h1
    exact W.iret (v := x_27) hx hb hr (fun t_ ht hW => ⟨⟨_, _, rfl, h, mB_of ht hM⟩, hS.F ht⟩) hS.2.2 dX3_count_114
  · replace h := h.2.2.2.2.2.2.2.2.2.1 hc
    refine lv_tableIn (tgt := 115) (off := 114) hx hb dX3_count_1 (by rw [hc]; decide) (by rw [hc]; decide) (by rw [hc]; rfl) (by decide) ?_
    refine lv_aload_n hx hb dX3_count_115 rfl (lv_at hl 0 rfl) ?_
    obtain ⟨hk_28, h⟩ := h
    refine clVi (C := RX3) (b := t) (As := []) (rest := []) ⟨hx, hb, hml, hown, hts⟩ hM hE hS (ok_X3_countStale l D cs A t _ _ h) (cwV 0 hts gX3_count_X3_countStale rfl rfl rfl (by decide +kernel) ⟨(Nat.le_of_ble_eq_true rfl), (Nat.le_of_ble_eq_true rfl)⟩) (rc3 hM hE.1 hk_28) rfl hl.1 rfl (Nat.le_of_ble_eq_true rfl) dX3_count_116 ⟨(Nat.le_of_ble_eq_true rfl), (Nat.le_of_ble_eq_true rfl)⟩ (fun x_30 σ_29 H locs h1 hM hS => ?_)
    replace h := h1
    clear h1
    exact W.iret (v := x_30) hx hb hr (fun t_ ht hW => ⟨⟨_, _, rfl, h, mB_of ht hM⟩, hS.F ht⟩) hS.2.2 dX3_count_119
  · replace h := h.2.2.2.2.2.2.2.2.2.2 hc
    refine lv_tableIn (tgt := 120) (off := 119) hx hb dX3_count_1 (by rw [hc]; decide) (by rw [hc]; decide) (by rw [hc]; rfl) (by decide) ?_
    refine lv_aload_n hx hb dX3_count_120 rfl (lv_at hl 0 rfl) ?_
    obtain ⟨hk_31, h⟩ := h
    refine gf3_1 hx hb hts inX3_count_3 hown hE.1 hM hk_31 (hts (.fieldLink RX3 18 "WorkCoder" "otherScheme" "LWorkCoder$Scheme;") (by decide +kernel)) dX3_count_121 (fun r_32 er_32 => ?_)
    replace h := h r_32 er_32
    clear er_32
    obtain ⟨a_33, rfl, h⟩ := h
    obtain ⟨hk_34, h⟩ := h
    refine gf2_2 hx hb hts inX3_count_2 hown hE.1 hM hk_34 (hts (.fieldLink RX3 216 "WorkCoder$Scheme" "size" "I") (by decide +kernel)) dX3_count_124 ?_
    exact W.iret (v := mI σ a_33 2) hx hb hr (fun t_ ht hW => ⟨⟨_, _, rfl, h, mB_of ht hM⟩, hS.F ht⟩) hS.2.2 dX3_count_127
end S_X3_count
set_option maxHeartbeats 4000000 in
set_option maxRecDepth 100000 in
theorem ok_X3_count (l : Launch) (D : va_G) (cs : CS) (A : Nat → Prop) (t : Nat) (x1 : Int32) (σ : MM) (k : Int32 → MM → Prop) (h : wX3_count t x1 σ k) : Met l yX3_count wsX3_count rmX3_count (va_Pc [.ref t, .int x1] (mP D cs A σ)) (va_Qi k (mB D cs A) A) 0 0 A := by
  refine Met.ofW (cc := cX3_count) (maxL := 2) (ret := (some .int)) (by decide) rfl ?_
  intro p e s m args below meth c s₁ B hml hv
  obtain ⟨rfl, hM, hE⟩ := hv
  have CX : CXM p s m _ meth c cX3_count 2 (some .int) "count" RX3 wsX3_count D cs A := ⟨B.exec, B.bytes, hml, B.returns, (name_of_methodNamed B.named B.method).1, findClass_of_methodNamed B.named, atoms_spec (ws := wsX3_count) B.pre, B.notSynchronized, hE⟩
  have hl := lv_entry ([.ref t, .int x1]) (n := 2) (Nat.le_of_ble_eq_true rfl)
  rw [lg_entry_eq]
  exact oX3_count_0 CX x1 σ _ _ _ h hM va_S.rf hl
