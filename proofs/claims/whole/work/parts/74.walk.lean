/-! WorkCoder$Item.<init>(II)V -/
abbrev rmX0_init : Room := { frames := 1, cells := 0, slots := 0, locals := 20 }
theorem inX0_init_0 : ∀ w ∈ wsX00, w ∈ wsX0_init := fun _ h => List.mem_cons_of_mem _ (List.mem_append_right _ (h))
section S_X0_init
variable {p : Program} {l : Launch} {e : Env} {s : State} {m : MethodId} {args : Array Value} {below : List Frame} {meth : Method} {c : Code} {D : va_G} {cs : CS} {A : Nat → Prop}
set_option maxHeartbeats 4000000 in
set_option maxRecDepth 100000 in
theorem oX0_init_0 {k : MM → Prop} {t : Nat} (CX : CXM p s m args meth c cX0_init 3 none "<init>" RX0 wsX0_init D cs A) : ∀ (x1 : Int32) (x2 : Int32) (σ : MM) (H : Heap) (locs : List Loc) (ls : Array Slot), wX0_init t x1 x2 σ k → PH D cs A σ H → va_S A s.heap H locs → lv_has ls 3 [(0, .ref t), (1, .int x1), (2, .int x2)] → W p l e (headSpec wsX0_init rmX0_init).room s m args below meth c H locs 0 0 (MQ below (va_Qv k (mB D cs A) A) args s 0 0 A) (F0 m 0 ls []) := by
  intro x1 x2 σ H locs ls h hM hS hl
  have ⟨hx, hb, hml, hr, hnm, hown, hts, hlocks, hE⟩ := CX
  unfold wX0_init at h
  refine lv_aload_n hx hb dX0_init_0 rfl (lv_at hl 0 rfl) ?_
  refine W.objInit hx hb hown (hts (.methodLink RX0 3 objectInit) (by decide +kernel)) (hts (.instanceMethod objectInit) (by decide +kernel)) (hts (.code objectInit ⟨#[0xb1]⟩ 1 none) (by decide +kernel)) rfl (by rw [hml]; exact hl.1) rfl dX0_init_1 (Nat.le_of_ble_eq_true rfl) (Nat.le_of_ble_eq_true rfl) ?_
  refine lv_aload_n hx hb dX0_init_4 rfl (lv_at hl 0 rfl) ?_
  refine lv_lconst (v := 0) hx hb dX0_init_5 (by decide) ?_
  obtain ⟨hk_1, h⟩ := h
  refine pf0_2 hx hb hts inX0_init_0 hown hE.1 hM hS hk_1 (hts (.fieldLink RX0 9 "WorkCoder$Item" "words" "J") (by decide +kernel)) dX0_init_6 (fun H locs hM hS => ?_)
  replace h := h _ rfl
  refine lv_aload_n hx hb dX0_init_9 rfl (lv_at hl 0 rfl) ?_
  refine lv_lconst (v := 0) hx hb dX0_init_10 (by decide) ?_
  refine pf0_3 hx hb hts inX0_init_0 hown hE.1 hM hS hk_1 (hts (.fieldLink RX0 15 "WorkCoder$Item" "set" "J") (by decide +kernel)) dX0_init_11 (fun H locs hM hS => ?_)
  replace h := h _ rfl
  refine lv_aload_n hx hb dX0_init_14 rfl (lv_at hl 0 rfl) ?_
  refine lv_iconst (v := 0) hx hb dX0_init_15 (by decide) ?_
  refine pf0_4 hx hb hts inX0_init_0 hown hE.1 hM hS hk_1 (hts (.fieldLink RX0 18 "WorkCoder$Item" "state" "I") (by decide +kernel)) dX0_init_16 (fun H locs hM hS => ?_)
  replace h := h _ rfl
  refine lv_aload_n hx hb dX0_init_19 rfl (lv_at hl 0 rfl) ?_
  refine lv_iconst (v := (-1)) hx hb dX0_init_20 (by decide) ?_
  refine pf0_5 hx hb hts inX0_init_0 hown hE.1 hM hS hk_1 (hts (.fieldLink RX0 22 "WorkCoder$Item" "code" "I") (by decide +kernel)) dX0_init_21 (fun H locs hM hS => ?_)
  replace h := h _ rfl
  refine lv_aload_n hx hb dX0_init_24 rfl (lv_at hl 0 rfl) ?_
  refine lv_iconst (v := (-1)) hx hb dX0_init_25 (by decide) ?_
  refine pf0_6 hx hb hts inX0_init_0 hown hE.1 hM hS hk_1 (hts (.fieldLink RX0 25 "WorkCoder$Item" "means" "I") (by decide +kernel)) dX0_init_26 (fun H locs hM hS => ?_)
  replace h := h _ rfl
  refine lv_aload_n hx hb dX0_init_29 rfl (lv_at hl 0 rfl) ?_
  refine lv_iconst (v := (-1)) hx hb dX0_init_30 (by decide) ?_
  refine pf0_7 hx hb hts inX0_init_0 hown hE.1 hM hS hk_1 (hts (.fieldLink RX0 28 "WorkCoder$Item" "by" "I") (by decide +kernel)) dX0_init_31 (fun H locs hM hS => ?_)
  replace h := h _ rfl
  refine lv_aload_n hx hb dX0_init_34 rfl (lv_at hl 0 rfl) ?_
  refine lv_iconst (v := (-1)) hx hb dX0_init_35 (by decide) ?_
  refine pf0_8 hx hb hts inX0_init_0 hown hE.1 hM hS hk_1 (hts (.fieldLink RX0 31 "WorkCoder$Item" "second" "I") (by decide +kernel)) dX0_init_36 (fun H locs hM hS => ?_)
  replace h := h _ rfl
  refine lv_aload_n hx hb dX0_init_39 rfl (lv_at hl 0 rfl) ?_
  refine lv_iconst (v := (-1)) hx hb dX0_init_40 (by decide) ?_
  refine pf0_9 hx hb hts inX0_init_0 hown hE.1 hM hS hk_1 (hts (.fieldLink RX0 34 "WorkCoder$Item" "plannedCode" "I") (by decide +kernel)) dX0_init_41 (fun H locs hM hS => ?_)
  replace h := h _ rfl
  refine lv_aload_n hx hb dX0_init_44 rfl (lv_at hl 0 rfl) ?_
  refine lv_iconst (v := (-1)) hx hb dX0_init_45 (by decide) ?_
  refine pf0_10 hx hb hts inX0_init_0 hown hE.1 hM hS hk_1 (hts (.fieldLink RX0 37 "WorkCoder$Item" "plannedMeans" "I") (by decide +kernel)) dX0_init_46 (fun H locs hM hS => ?_)
  replace h := h _ rfl
  refine lv_aload_n hx hb dX0_init_49 rfl (lv_at hl 0 rfl) ?_
  refine lv_iconst (v := (-1)) hx hb dX0_init_50 (by decide) ?_
  refine pf0_11 hx hb hts inX0_init_0 hown hE.1 hM hS hk_1 (hts (.fieldLink RX0 40 "WorkCoder$Item" "plannedBy" "I") (by decide +kernel)) dX0_init_51 (fun H locs hM hS => ?_)
  replace h := h _ rfl
  refine lv_aload_n hx hb dX0_init_54 rfl (lv_at hl 0 rfl) ?_
  refine lv_iload_n hx hb dX0_init_55 rfl (lv_at hl 1 rfl) ?_
  refine pf0_0 hx hb hts inX0_init_0 hown hE.1 hM hS hk_1 (hts (.fieldLink RX0 43 "WorkCoder$Item" "trade" "I") (by decide +kernel)) hnm rfl dX0_init_56 (fun H locs hM hS => ?_)
  replace h := h _ rfl
  refine lv_aload_n hx hb dX0_init_59 rfl (lv_at hl 0 rfl) ?_
  refine lv_iload_n hx hb dX0_init_60 rfl (lv_at hl 2 rfl) ?_
  refine pf0_1 hx hb hts inX0_init_0 hown hE.1 hM hS hk_1 (hts (.fieldLink RX0 46 "WorkCoder$Item" "schooling" "I") (by decide +kernel)) hnm rfl dX0_init_61 (fun H locs hM hS => ?_)
  replace h := h _ rfl
  exact W.vret hx hb hr (fun t_ ht hW => ⟨⟨_, rfl, h, mB_of ht hM⟩, hS.F ht⟩) hS.2.2 dX0_init_64
end S_X0_init
set_option maxHeartbeats 4000000 in
set_option maxRecDepth 100000 in
theorem ok_X0_init (l : Launch) (D : va_G) (cs : CS) (A : Nat → Prop) (t : Nat) (x1 : Int32) (x2 : Int32) (σ : MM) (k : MM → Prop) (h : wX0_init t x1 x2 σ k) : Met l yX0_init wsX0_init rmX0_init (va_Pc [.ref t, .int x1, .int x2] (mP D cs A σ)) (va_Qv k (mB D cs A) A) 0 0 A := by
  refine Met.ofW (cc := cX0_init) (maxL := 3) (ret := none) (by decide) rfl ?_
  intro p e s m args below meth c s₁ B hml hv
  obtain ⟨rfl, hM, hE⟩ := hv
  have CX : CXM p s m _ meth c cX0_init 3 none "<init>" RX0 wsX0_init D cs A := ⟨B.exec, B.bytes, hml, B.returns, (name_of_methodNamed B.named B.method).1, findClass_of_methodNamed B.named, atoms_spec (ws := wsX0_init) B.pre, B.notSynchronized, hE⟩
  have hl := lv_entry ([.ref t, .int x1, .int x2]) (n := 3) (Nat.le_of_ble_eq_true rfl)
  rw [lg_entry_eq]
  exact oX0_init_0 CX x1 x2 σ _ _ _ h hM va_S.rf hl
/-! WorkCoder$Item.isAlike(LWorkCoder$Item;)Z -/
abbrev rmX0_isAlike : Room := { frames := 0, cells := 0, slots := 0, locals := 0 }
theorem inX0_isAlike_0 : ∀ w ∈ wsX00, w ∈ wsX0_isAlike := fun _ h => List.mem_cons_of_mem _ (List.mem_append_right _ (h))
section S_X0_isAlike
variable {p : Program} {l : Launch} {e : Env} {s : State} {m : MethodId} {args : Array Value} {below : List Frame} {meth : Method} {c : Code} {D : va_G} {cs : CS} {A : Nat → Prop}
set_option maxHeartbeats 4000000 in
set_option maxRecDepth 100000 in
theorem oX0_isAlike_0 {k : Int32 → MM → Prop} {t : Nat} (CX : CXM p s m args meth c cX0_isAlike 2 (some .boolean) "isAlike" RX0 wsX0_isAlike D cs A) : ∀ (r1 : Option Nat) (σ : MM) (H : Heap) (locs : List Loc) (ls : Array Slot), wX0_isAlike t r1 σ k → PH D cs A σ H → va_S A s.heap H locs → lv_has ls 2 [(0, .ref t), (1, va_rf r1)] → W p l e (headSpec wsX0_isAlike rmX0_isAlike).room s m args below meth c H locs 0 0 (MQ below (va_Qi k (mB D cs A) A) args s 0 0 A) (F0 m 0 ls []) := by
  intro r1 σ H locs ls h hM hS hl
  have ⟨hx, hb, hml, hr, hnm, hown, hts, hlocks, hE⟩ := CX
  unfold wX0_isAlike at h
  refine lv_aload_n hx hb dX0_isAlike_0 rfl (lv_at hl 0 rfl) ?_
  obtain ⟨hk_1, h⟩ := h
  refine gf0_3 hx hb hts inX0_isAlike_0 hown hE.1 hM hk_1 (hts (.fieldLink RX0 15 "WorkCoder$Item" "set" "J") (by decide +kernel)) dX0_isAlike_1 ?_
  refine nl_aload_n hx hb dX0_isAlike_4 rfl (lv_at hl 1 rfl) ?_
  obtain ⟨a_2, rfl, h⟩ := h
  obtain ⟨hk_3, h⟩ := h
  refine gf0_3 hx hb hts inX0_isAlike_0 hown hE.1 hM hk_3 (hts (.fieldLink RX0 15 "WorkCoder$Item" "set" "J") (by decide +kernel)) dX0_isAlike_5 ?_
  refine lc_ne (tgt := 38) hx hb dX0_isAlike_8 dX0_isAlike_9 (by decide) (fun hc => ?_) (fun hc => ?_)
  · replace h := h.1 hc
    refine lv_iconst (v := 0) hx hb dX0_isAlike_38 (by decide) ?_
    exact W.zret (v := 0) (ty := .boolean) hx hb hr rfl (fun t_ ht hW => ⟨⟨_, _, rfl, h, mB_of ht hM⟩, hS.F ht⟩) hS.2.2 dX0_isAlike_39
  · replace h := h.2 hc
    refine lv_aload_n hx hb dX0_isAlike_12 rfl (lv_at hl 0 rfl) ?_
    refine gf0_0 hx hb hts inX0_isAlike_0 hown hE.1 hM hk_1 (hts (.fieldLink RX0 43 "WorkCoder$Item" "trade" "I") (by decide +kernel)) dX0_isAlike_13 ?_
    refine lv_aload_n hx hb dX0_isAlike_16 rfl (lv_at hl 1 rfl) ?_
    refine gf0_0 hx hb hts inX0_isAlike_0 hown hE.1 hM hk_3 (hts (.fieldLink RX0 43 "WorkCoder$Item" "trade" "I") (by decide +kernel)) dX0_isAlike_17 ?_
    refine lv_icmp_ne (tgt := 38) hx hb dX0_isAlike_20 (by decide) (fun hc => ?_) (fun hc => ?_)
    · replace h := h.1 hc
      refine lv_iconst (v := 0) hx hb dX0_isAlike_38 (by decide) ?_
      exact W.zret (v := 0) (ty := .boolean) hx hb hr rfl (fun t_ ht hW => ⟨⟨_, _, rfl, h, mB_of ht hM⟩, hS.F ht⟩) hS.2.2 dX0_isAlike_39
    · replace h := h.2 hc
      refine lv_aload_n hx hb dX0_isAlike_23 rfl (lv_at hl 0 rfl) ?_
      refine gf0_1 hx hb hts inX0_isAlike_0 hown hE.1 hM hk_1 (hts (.fieldLink RX0 46 "WorkCoder$Item" "schooling" "I") (by decide +kernel)) dX0_isAlike_24 ?_
      refine lv_aload_n hx hb dX0_isAlike_27 rfl (lv_at hl 1 rfl) ?_
      refine gf0_1 hx hb hts inX0_isAlike_0 hown hE.1 hM hk_3 (hts (.fieldLink RX0 46 "WorkCoder$Item" "schooling" "I") (by decide +kernel)) dX0_isAlike_28 ?_
      refine lv_icmp_ne (tgt := 38) hx hb dX0_isAlike_31 (by decide) (fun hc => ?_) (fun hc => ?_)
      · replace h := h.1 hc
        refine lv_iconst (v := 0) hx hb dX0_isAlike_38 (by decide) ?_
        exact W.zret (v := 0) (ty := .boolean) hx hb hr rfl (fun t_ ht hW => ⟨⟨_, _, rfl, h, mB_of ht hM⟩, hS.F ht⟩) hS.2.2 dX0_isAlike_39
      · replace h := h.2 hc
        refine lv_iconst (v := 1) hx hb dX0_isAlike_34 (by decide) ?_
        refine lv_goto (tgt := 39) hx hb dX0_isAlike_35 (by decide) ?_
        exact W.zret (v := 1) (ty := .boolean) hx hb hr rfl (fun t_ ht hW => ⟨⟨_, _, rfl, h, mB_of ht hM⟩, hS.F ht⟩) hS.2.2 dX0_isAlike_39
end S_X0_isAlike
set_option maxHeartbeats 4000000 in
set_option maxRecDepth 100000 in
theorem ok_X0_isAlike (l : Launch) (D : va_G) (cs : CS) (A : Nat → Prop) (t : Nat) (r1 : Option Nat) (σ : MM) (k : Int32 → MM → Prop) (h : wX0_isAlike t r1 σ k) : Met l yX0_isAlike wsX0_isAlike rmX0_isAlike (va_Pc [.ref t, va_rf r1] (mP D cs A σ)) (va_Qi k (mB D cs A) A) 0 0 A := by
  refine Met.ofW (cc := cX0_isAlike) (maxL := 2) (ret := (some .boolean)) (by decide) rfl ?_
  intro p e s m args below meth c s₁ B hml hv
  obtain ⟨rfl, hM, hE⟩ := hv
  have CX : CXM p s m _ meth c cX0_isAlike 2 (some .boolean) "isAlike" RX0 wsX0_isAlike D cs A := ⟨B.exec, B.bytes, hml, B.returns, (name_of_methodNamed B.named B.method).1, findClass_of_methodNamed B.named, atoms_spec (ws := wsX0_isAlike) B.pre, B.notSynchronized, hE⟩
  cases r1 with
  | none =>
    have hl := lv_entry ([.ref t, va_rf none]) (n := 2) (Nat.le_of_ble_eq_true rfl)
    rw [lg_entry_eq]
    exact oX0_isAlike_0 CX none σ _ _ _ h hM va_S.rf hl
  | some a0 =>
    have hl := lv_entry ([.ref t, va_rf (some a0)]) (n := 2) (Nat.le_of_ble_eq_true rfl)
    rw [lg_entry_eq]
    exact oX0_isAlike_0 CX (some a0) σ _ _ _ h hM va_S.rf hl
/-! java/lang/Long.bitCount(J)I -/
abbrev rmJ13_bitCount_95d88 : Room := { frames := 0, cells := 0, slots := 0, locals := 0 }
section S_J13_bitCount_95d88
variable {p : Program} {l : Launch} {e : Env} {s : State} {m : MethodId} {args : Array Value} {below : List Frame} {meth : Method} {c : Code} {D : va_G} {cs : CS} {A : Nat → Prop}
set_option maxHeartbeats 4000000 in
set_option maxRecDepth 100000 in
theorem oJ13_bitCount_95d88_0 {k : Int32 → MM → Prop} (CX : CXM p s m args meth c cJ13_bitCount_95d88 2 (some .int) "bitCount" RJ13 wsJ13_bitCount_95d88 D cs A) : ∀ (y0 : Int64) (σ : MM) (H : Heap) (locs : List Loc) (ls : Array Slot), wJ13_bitCount_95d88 y0 σ k → PH D cs A σ H → va_S A s.heap H locs → lv_has ls 2 [(0, .long y0)] → W p l e (headSpec wsJ13_bitCount_95d88 rmJ13_bitCount_95d88).room s m args below meth c H locs 0 0 (MQ below (va_Qi k (mB D cs A) A) args s 0 0 A) (F0 m 0 ls []) := by
  intro y0 σ H locs ls h hM hS hl
  have ⟨hx, hb, hml, hr, hnm, hown, hts, hlocks, hE⟩ := CX
  unfold wJ13_bitCount_95d88 at h
  refine lv_lload_n hx hb dJ13_bitCount_95d88_0 rfl (lv_at hl 0 rfl) ?_
  refine lv_lload_n hx hb dJ13_bitCount_95d88_1 rfl (lv_at hl 0 rfl) ?_
  refine lv_iconst (v := 1) hx hb dJ13_bitCount_95d88_2 (by decide) ?_
  refine lv_lushr hx hb dJ13_bitCount_95d88_3 (v := lUsh y0 (1 : Int32)) rfl ?_
  refine lv_ldc2 (v := 6148914691236517205) hx hb hown (hts (.constantLong RJ13 314 (6148914691236517205)) (by decide +kernel)) dJ13_bitCount_95d88_4 ?_
  refine lv_land hx hb dJ13_bitCount_95d88_7 ?_
  refine lv_lsub hx hb dJ13_bitCount_95d88_8 ?_
  refine lv_topl (fun y_1 ey_1 => ?_)
  replace h := h y_1 ey_1
  refine lv_lstore_n (i := 0) (lv' := [(0, .long y_1)]) hx hb dJ13_bitCount_95d88_9 rfl hl (by decide) rfl (fun ls hl => ?_)
  refine lv_lload_n hx hb dJ13_bitCount_95d88_10 rfl (lv_at hl 0 rfl) ?_
  refine lv_ldc2 (v := 3689348814741910323) hx hb hown (hts (.constantLong RJ13 316 (3689348814741910323)) (by decide +kernel)) dJ13_bitCount_95d88_11 ?_
  refine lv_land hx hb dJ13_bitCount_95d88_14 ?_
  refine lv_lload_n hx hb dJ13_bitCount_95d88_15 rfl (lv_at hl 0 rfl) ?_
  refine lv_iconst (v := 2) hx hb dJ13_bitCount_95d88_16 (by decide) ?_
  refine lv_lushr hx hb dJ13_bitCount_95d88_17 (v := lUsh y_1 (2 : Int32)) rfl ?_
  refine lv_ldc2 (v := 3689348814741910323) hx hb hown (hts (.constantLong RJ13 316 (3689348814741910323)) (by decide +kernel)) dJ13_bitCount_95d88_18 ?_
  refine lv_land hx hb dJ13_bitCount_95d88_21 ?_
  refine lv_ladd hx hb dJ13_bitCount_95d88_22 ?_
  refine lv_topl (fun y_2 ey_2 => ?_)
  replace h := h y_2 ey_2
  refine lv_lstore_n (i := 0) (lv' := [(0, .long y_2)]) hx hb dJ13_bitCount_95d88_23 rfl hl (by decide) rfl (fun ls hl => ?_)
  refine lv_lload_n hx hb dJ13_bitCount_95d88_24 rfl (lv_at hl 0 rfl) ?_
  refine lv_lload_n hx hb dJ13_bitCount_95d88_25 rfl (lv_at hl 0 rfl) ?_
  refine lv_iconst (v := 4) hx hb dJ13_bitCount_95d88_26 (by decide) ?_
  refine lv_lushr hx hb dJ13_bitCount_95d88_27 (v := lUsh y_2 (4 : Int32)) rfl ?_
  refine lv_ladd hx hb dJ13_bitCount_95d88_28 ?_
  refine lv_ldc2 (v := 1085102592571150095) hx hb hown (hts (.constantLong RJ13 318 (1085102592571150095)) (by decide +kernel)) dJ13_bitCount_95d88_29 ?_
  refine lv_land hx hb dJ13_bitCount_95d88_32 ?_
  refine lv_topl (fun y_3 ey_3 => ?_)
  replace h := h y_3 ey_3
  refine lv_lstore_n (i := 0) (lv' := [(0, .long y_3)]) hx hb dJ13_bitCount_95d88_33 rfl hl (by decide) rfl (fun ls hl => ?_)
  refine lv_lload_n hx hb dJ13_bitCount_95d88_34 rfl (lv_at hl 0 rfl) ?_
  refine lv_lload_n hx hb dJ13_bitCount_95d88_35 rfl (lv_at hl 0 rfl) ?_
  refine lv_bipush (v := 8) hx hb dJ13_bitCount_95d88_36 (by decide) ?_
  refine lv_lushr hx hb dJ13_bitCount_95d88_38 (v := lUsh y_3 (8 : Int32)) rfl ?_
  refine lv_ladd hx hb dJ13_bitCount_95d88_39 ?_
  refine lv_topl (fun y_4 ey_4 => ?_)
  replace h := h y_4 ey_4
  refine lv_lstore_n (i := 0) (lv' := [(0, .long y_4)]) hx hb dJ13_bitCount_95d88_40 rfl hl (by decide) rfl (fun ls hl => ?_)
  refine lv_lload_n hx hb dJ13_bitCount_95d88_41 rfl (lv_at hl 0 rfl) ?_
  refine lv_lload_n hx hb dJ13_bitCount_95d88_42 rfl (lv_at hl 0 rfl) ?_
  refine lv_bipush (v := 16) hx hb dJ13_bitCount_95d88_43 (by decide) ?_
  refine lv_lushr hx hb dJ13_bitCount_95d88_45 (v := lUsh y_4 (16 : Int32)) rfl ?_
  refine lv_ladd hx hb dJ13_bitCount_95d88_46 ?_
  refine lv_topl (fun y_5 ey_5 => ?_)
  replace h := h y_5 ey_5
  refine lv_lstore_n (i := 0) (lv' := [(0, .long y_5)]) hx hb dJ13_bitCount_95d88_47 rfl hl (by decide) rfl (fun ls hl => ?_)
  refine lv_lload_n hx hb dJ13_bitCount_95d88_48 rfl (lv_at hl 0 rfl) ?_
  refine lv_lload_n hx hb dJ13_bitCount_95d88_49 rfl (lv_at hl 0 rfl) ?_
  refine lv_bipush (v := 32) hx hb dJ13_bitCount_95d88_50 (by decide) ?_
  refine lv_lushr hx hb dJ13_bitCount_95d88_52 (v := lUsh y_5 (32 : Int32)) rfl ?_
  refine lv_ladd hx hb dJ13_bitCount_95d88_53 ?_
  refine lv_topl (fun y_6 ey_6 => ?_)
  replace h := h y_6 ey_6
  refine lv_lstore_n (i := 0) (lv' := [(0, .long y_6)]) hx hb dJ13_bitCount_95d88_54 rfl hl (by decide) rfl (fun ls hl => ?_)
  refine lv_lload_n hx hb dJ13_bitCount_95d88_55 rfl (lv_at hl 0 rfl) ?_
  refine lv_l2i hx hb dJ13_bitCount_95d88_56 (v := y_6.toInt32) rfl ?_
  refine lv_bipush (v := 127) hx hb dJ13_bitCount_95d88_57 (by decide) ?_
  refine lv_iand hx hb dJ13_bitCount_95d88_59 ?_
  exact W.iret (v := y_6.toInt32 &&& 127) hx hb hr (fun t_ ht hW => ⟨⟨_, _, rfl, h, mB_of ht hM⟩, hS.F ht⟩) hS.2.2 dJ13_bitCount_95d88_60
end S_J13_bitCount_95d88
set_option maxHeartbeats 4000000 in
set_option maxRecDepth 100000 in
theorem ok_J13_bitCount_95d88 (l : Launch) (D : va_G) (cs : CS) (A : Nat → Prop) (y0 : Int64) (σ : MM) (k : Int32 → MM → Prop) (h : wJ13_bitCount_95d88 y0 σ k) : Met l yJ13_bitCount_95d88 wsJ13_bitCount_95d88 rmJ13_bitCount_95d88 (va_Pc [.long y0] (mP D cs A σ)) (va_Qi k (mB D cs A) A) 0 0 A := by
  refine Met.ofW (cc := cJ13_bitCount_95d88) (maxL := 2) (ret := (some .int)) (by decide) rfl ?_
  intro p e s m args below meth c s₁ B hml hv
  obtain ⟨rfl, hM, hE⟩ := hv
  have CX : CXM p s m _ meth c cJ13_bitCount_95d88 2 (some .int) "bitCount" RJ13 wsJ13_bitCount_95d88 D cs A := ⟨B.exec, B.bytes, hml, B.returns, (name_of_methodNamed B.named B.method).1, findClass_of_methodNamed B.named, atoms_spec (ws := wsJ13_bitCount_95d88) B.pre, B.notSynchronized, hE⟩
  have hl := lv_entry ([.long y0]) (n := 2) (Nat.le_of_ble_eq_true rfl)
  rw [lg_entry_eq]
  exact oJ13_bitCount_95d88_0 CX y0 σ _ _ _ h hM va_S.rf hl
/-! WorkCoder$Item.likenessTo(LWorkCoder$Item;)I -/
abbrev rmX0_likenessTo : Room := { frames := 1, cells := 0, slots := 0, locals := 21 }
theorem inX0_likenessTo_0 : ∀ w ∈ wsX00, w ∈ wsX0_likenessTo := fun _ h => List.mem_cons_of_mem _ (List.mem_append_right _ (h))
section S_X0_likenessTo
variable {p : Program} {l : Launch} {e : Env} {s : State} {m : MethodId} {args : Array Value} {below : List Frame} {meth : Method} {c : Code} {D : va_G} {cs : CS} {A : Nat → Prop}
set_option maxHeartbeats 4000000 in
set_option maxRecDepth 100000 in
theorem oX0_likenessTo_0 {k : Int32 → MM → Prop} {t : Nat} (CX : CXM p s m args meth c cX0_likenessTo 3 (some .int) "likenessTo" RX0 wsX0_likenessTo D cs A) : ∀ (r1 : Option Nat) (σ : MM) (H : Heap) (locs : List Loc) (ls : Array Slot), wX0_likenessTo t r1 σ k → PH D cs A σ H → va_S A s.heap H locs → lv_has ls 3 [(0, .ref t), (1, va_rf r1)] → W p l e (headSpec wsX0_likenessTo rmX0_likenessTo).room s m args below meth c H locs 0 0 (MQ below (va_Qi k (mB D cs A) A) args s 0 0 A) (F0 m 0 ls []) := by
  intro r1 σ H locs ls h hM hS hl
  have ⟨hx, hb, hml, hr, hnm, hown, hts, hlocks, hE⟩ := CX
  unfold wX0_likenessTo at h
  refine lv_aload_n hx hb dX0_likenessTo_0 rfl (lv_at hl 0 rfl) ?_
  obtain ⟨hk_1, h⟩ := h
  refine gf0_3 hx hb hts inX0_likenessTo_0 hown hE.1 hM hk_1 (hts (.fieldLink RX0 15 "WorkCoder$Item" "set" "J") (by decide +kernel)) dX0_likenessTo_1 ?_
  refine nl_aload_n hx hb dX0_likenessTo_4 rfl (lv_at hl 1 rfl) ?_
  obtain ⟨a_2, rfl, h⟩ := h
  obtain ⟨hk_3, h⟩ := h
  refine gf0_3 hx hb hts inX0_likenessTo_0 hown hE.1 hM hk_3 (hts (.fieldLink RX0 15 "WorkCoder$Item" "set" "J") (by decide +kernel)) dX0_likenessTo_5 ?_
  refine lv_lor hx hb dX0_likenessTo_8 ?_
  refine clSi (As := [.long ((mL σ t 3) ||| (mL σ a_2 3))]) (rest := []) ⟨hx, hb, hml, hown, hts⟩ hM hE hS (ok_J13_bitCount_95d88 l D cs A ((mL σ t 3) ||| (mL σ a_2 3)) _ _ h) (va_cwS 1 hts gX0_likenessTo_J13_bitCount_95d88 rfl rfl rfl (by decide +kernel) ⟨(Nat.le_of_ble_eq_true rfl), (Nat.le_of_ble_eq_true rfl)⟩) rfl hl.1 rfl (Nat.le_of_ble_eq_true rfl) dX0_likenessTo_9 ⟨(Nat.le_of_ble_eq_true rfl), (Nat.le_of_ble_eq_true rfl)⟩ (fun x_5 σ_4 H locs h1 hM hS => ?_)
  replace h := h1
  clear h1
  refine lv_istore_n (i := 2) (lv' := [(2, .int x_5), (0, .ref t), (1, .ref a_2)]) hx hb dX0_likenessTo_12 rfl hl (by decide) rfl (fun ls hl => ?_)
  refine lv_iload_n hx hb dX0_likenessTo_13 rfl (lv_at hl 0 rfl) ?_
  refine lv_if_ne (tgt := 21) hx hb dX0_likenessTo_14 (by decide) (fun hc => ?_) (fun hc => ?_)
  · replace h := h.1 hc
    refine lv_sipush (v := 1000) hx hb dX0_likenessTo_21 (by decide) ?_
    refine lv_aload_n hx hb dX0_likenessTo_24 rfl (lv_at hl 1 rfl) ?_
    obtain ⟨hk_6, h⟩ := h
    refine gf0_3 hx hb hts inX0_likenessTo_0 hown hE.1 hM hk_6 (hts (.fieldLink RX0 15 "WorkCoder$Item" "set" "J") (by decide +kernel)) dX0_likenessTo_25 ?_
    refine lv_aload_n hx hb dX0_likenessTo_28 rfl (lv_at hl 2 rfl) ?_
    obtain ⟨hk_7, h⟩ := h
    refine gf0_3 hx hb hts inX0_likenessTo_0 hown hE.1 hM hk_7 (hts (.fieldLink RX0 15 "WorkCoder$Item" "set" "J") (by decide +kernel)) dX0_likenessTo_29 ?_
    refine lv_land hx hb dX0_likenessTo_32 ?_
    refine clSi (As := [.long ((mL σ_4 t 3) &&& (mL σ_4 a_2 3))]) (rest := [.int 1000]) ⟨hx, hb, hml, hown, hts⟩ hM hE hS (ok_J13_bitCount_95d88 l D cs A ((mL σ_4 t 3) &&& (mL σ_4 a_2 3)) _ _ h) (va_cwS 1 hts gX0_likenessTo_J13_bitCount_95d88 rfl rfl rfl (by decide +kernel) ⟨(Nat.le_of_ble_eq_true rfl), (Nat.le_of_ble_eq_true rfl)⟩) rfl hl.1 rfl (Nat.le_of_ble_eq_true rfl) dX0_likenessTo_33 ⟨(Nat.le_of_ble_eq_true rfl), (Nat.le_of_ble_eq_true rfl)⟩ (fun x_9 σ_8 H locs h1 hM hS => ?_)
    replace h := h1
    clear h1
    refine lv_imul hx hb dX0_likenessTo_36 ?_
    refine lv_iload_n hx hb dX0_likenessTo_37 rfl (lv_at hl 0 rfl) ?_
    obtain ⟨hz_10, h⟩ := h
    refine lv_idiv hx hb dX0_likenessTo_38 hz_10 ?_
    exact W.iret (v := ((1000 : Int32) * x_9) / x_5) hx hb hr (fun t_ ht hW => ⟨⟨_, _, rfl, h, mB_of ht hM⟩, hS.F ht⟩) hS.2.2 dX0_likenessTo_39
  · replace h := h.2 hc
    refine lv_iconst (v := 0) hx hb dX0_likenessTo_17 (by decide) ?_
    refine lv_goto (tgt := 39) hx hb dX0_likenessTo_18 (by decide) ?_
    exact W.iret (v := 0) hx hb hr (fun t_ ht hW => ⟨⟨_, _, rfl, h, mB_of ht hM⟩, hS.F ht⟩) hS.2.2 dX0_likenessTo_39
end S_X0_likenessTo
set_option maxHeartbeats 4000000 in
set_option maxRecDepth 100000 in
theorem ok_X0_likenessTo (l : Launch) (D : va_G) (cs : CS) (A : Nat → Prop) (t : Nat) (r1 : Option Nat) (σ : MM) (k : Int32 → MM → Prop) (h : wX0_likenessTo t r1 σ k) : Met l yX0_likenessTo wsX0_likenessTo rmX0_likenessTo (va_Pc [.ref t, va_rf r1] (mP D cs A σ)) (va_Qi k (mB D cs A) A) 0 0 A := by
  refine Met.ofW (cc := cX0_likenessTo) (maxL := 3) (ret := (some .int)) (by decide) rfl ?_
  intro p e s m args below meth c s₁ B hml hv
  obtain ⟨rfl, hM, hE⟩ := hv
  have CX : CXM p s m _ meth c cX0_likenessTo 3 (some .int) "likenessTo" RX0 wsX0_likenessTo D cs A := ⟨B.exec, B.bytes, hml, B.returns, (name_of_methodNamed B.named B.method).1, findClass_of_methodNamed B.named, atoms_spec (ws := wsX0_likenessTo) B.pre, B.notSynchronized, hE⟩
  cases r1 with
  | none =>
    have hl := lv_entry ([.ref t, va_rf none]) (n := 3) (Nat.le_of_ble_eq_true rfl)
    rw [lg_entry_eq]
    exact oX0_likenessTo_0 CX none σ _ _ _ h hM va_S.rf hl
  | some a0 =>
    have hl := lv_entry ([.ref t, va_rf (some a0)]) (n := 3) (Nat.le_of_ble_eq_true rfl)
    rw [lg_entry_eq]
    exact oX0_likenessTo_0 CX (some a0) σ _ _ _ h hM va_S.rf hl
/-! WorkCoder$Item.take(III)V -/
abbrev rmX0_take : Room := { frames := 0, cells := 0, slots := 0, locals := 0 }
theorem inX0_take_0 : ∀ w ∈ wsX00, w ∈ wsX0_take := fun _ h => List.mem_cons_of_mem _ (List.mem_append_right _ (h))
section S_X0_take
variable {p : Program} {l : Launch} {e : Env} {s : State} {m : MethodId} {args : Array Value} {below : List Frame} {meth : Method} {c : Code} {D : va_G} {cs : CS} {A : Nat → Prop}
set_option maxHeartbeats 4000000 in
set_option maxRecDepth 100000 in
theorem oX0_take_0 {k : MM → Prop} {t : Nat} (CX : CXM p s m args meth c cX0_take 4 none "take" RX0 wsX0_take D cs A) : ∀ (x1 : Int32) (x2 : Int32) (x3 : Int32) (σ : MM) (H : Heap) (locs : List Loc) (ls : Array Slot), wX0_take t x1 x2 x3 σ k → PH D cs A σ H → va_S A s.heap H locs → lv_has ls 4 [(0, .ref t), (1, .int x1), (2, .int x2), (3, .int x3)] → W p l e (headSpec wsX0_take rmX0_take).room s m args below meth c H locs 0 0 (MQ below (va_Qv k (mB D cs A) A) args s 0 0 A) (F0 m 0 ls []) := by
  intro x1 x2 x3 σ H locs ls h hM hS hl
  have ⟨hx, hb, hml, hr, hnm, hown, hts, hlocks, hE⟩ := CX
  unfold wX0_take at h
  refine lv_aload_n hx hb dX0_take_0 rfl (lv_at hl 0 rfl) ?_
  refine lv_iconst (v := 1) hx hb dX0_take_1 (by decide) ?_
  obtain ⟨hk_1, h⟩ := h
  refine pf0_4 hx hb hts inX0_take_0 hown hE.1 hM hS hk_1 (hts (.fieldLink RX0 18 "WorkCoder$Item" "state" "I") (by decide +kernel)) dX0_take_2 (fun H locs hM hS => ?_)
  replace h := h _ rfl
  refine lv_aload_n hx hb dX0_take_5 rfl (lv_at hl 0 rfl) ?_
  refine lv_iload_n hx hb dX0_take_6 rfl (lv_at hl 1 rfl) ?_
  refine pf0_5 hx hb hts inX0_take_0 hown hE.1 hM hS hk_1 (hts (.fieldLink RX0 22 "WorkCoder$Item" "code" "I") (by decide +kernel)) dX0_take_7 (fun H locs hM hS => ?_)
  replace h := h _ rfl
  refine lv_aload_n hx hb dX0_take_10 rfl (lv_at hl 0 rfl) ?_
  refine lv_iload_n hx hb dX0_take_11 rfl (lv_at hl 2 rfl) ?_
  refine pf0_6 hx hb hts inX0_take_0 hown hE.1 hM hS hk_1 (hts (.fieldLink RX0 25 "WorkCoder$Item" "means" "I") (by decide +kernel)) dX0_take_12 (fun H locs hM hS => ?_)
  replace h := h _ rfl
  refine lv_aload_n hx hb dX0_take_15 rfl (lv_at hl 0 rfl) ?_
  refine lv_iload_n hx hb dX0_take_16 rfl (lv_at hl 3 rfl) ?_
  refine pf0_7 hx hb hts inX0_take_0 hown hE.1 hM hS hk_1 (hts (.fieldLink RX0 28 "WorkCoder$Item" "by" "I") (by decide +kernel)) dX0_take_17 (fun H locs hM hS => ?_)
  replace h := h _ rfl
  exact W.vret hx hb hr (fun t_ ht hW => ⟨⟨_, rfl, h, mB_of ht hM⟩, hS.F ht⟩) hS.2.2 dX0_take_20
end S_X0_take
set_option maxHeartbeats 4000000 in
set_option maxRecDepth 100000 in
theorem ok_X0_take (l : Launch) (D : va_G) (cs : CS) (A : Nat → Prop) (t : Nat) (x1 : Int32) (x2 : Int32) (x3 : Int32) (σ : MM) (k : MM → Prop) (h : wX0_take t x1 x2 x3 σ k) : Met l yX0_take wsX0_take rmX0_take (va_Pc [.ref t, .int x1, .int x2, .int x3] (mP D cs A σ)) (va_Qv k (mB D cs A) A) 0 0 A := by
  refine Met.ofW (cc := cX0_take) (maxL := 4) (ret := none) (by decide) rfl ?_
  intro p e s m args below meth c s₁ B hml hv
  obtain ⟨rfl, hM, hE⟩ := hv
  have CX : CXM p s m _ meth c cX0_take 4 none "take" RX0 wsX0_take D cs A := ⟨B.exec, B.bytes, hml, B.returns, (name_of_methodNamed B.named B.method).1, findClass_of_methodNamed B.named, atoms_spec (ws := wsX0_take) B.pre, B.notSynchronized, hE⟩
  have hl := lv_entry ([.ref t, .int x1, .int x2, .int x3]) (n := 4) (Nat.le_of_ble_eq_true rfl)
  rw [lg_entry_eq]
  exact oX0_take_0 CX x1 x2 x3 σ _ _ _ h hM va_S.rf hl
/-! WorkCoder$Item.renew()V -/
abbrev rmX0_renew : Room := { frames := 0, cells := 0, slots := 0, locals := 0 }
theorem inX0_renew_0 : ∀ w ∈ wsX00, w ∈ wsX0_renew := fun _ h => List.mem_cons_of_mem _ (List.mem_append_right _ (h))
section S_X0_renew
variable {p : Program} {l : Launch} {e : Env} {s : State} {m : MethodId} {args : Array Value} {below : List Frame} {meth : Method} {c : Code} {D : va_G} {cs : CS} {A : Nat → Prop}
set_option maxHeartbeats 4000000 in
set_option maxRecDepth 100000 in
theorem oX0_renew_0 {k : MM → Prop} {t : Nat} (CX : CXM p s m args meth c cX0_renew 1 none "renew" RX0 wsX0_renew D cs A) : ∀ (σ : MM) (H : Heap) (locs : List Loc) (ls : Array Slot), wX0_renew t σ k → PH D cs A σ H → va_S A s.heap H locs → lv_has ls 1 [(0, .ref t)] → W p l e (headSpec wsX0_renew rmX0_renew).room s m args below meth c H locs 0 0 (MQ below (va_Qv k (mB D cs A) A) args s 0 0 A) (F0 m 0 ls []) := by
  intro  σ H locs ls h hM hS hl
  have ⟨hx, hb, hml, hr, hnm, hown, hts, hlocks, hE⟩ := CX
  unfold wX0_renew at h
  refine lv_aload_n hx hb dX0_renew_0 rfl (lv_at hl 0 rfl) ?_
  refine lv_iconst (v := 0) hx hb dX0_renew_1 (by decide) ?_
  obtain ⟨hk_1, h⟩ := h
  refine pf0_4 hx hb hts inX0_renew_0 hown hE.1 hM hS hk_1 (hts (.fieldLink RX0 18 "WorkCoder$Item" "state" "I") (by decide +kernel)) dX0_renew_2 (fun H locs hM hS => ?_)
  replace h := h _ rfl
  refine lv_aload_n hx hb dX0_renew_5 rfl (lv_at hl 0 rfl) ?_
  refine lv_iconst (v := (-1)) hx hb dX0_renew_6 (by decide) ?_
  refine pf0_5 hx hb hts inX0_renew_0 hown hE.1 hM hS hk_1 (hts (.fieldLink RX0 22 "WorkCoder$Item" "code" "I") (by decide +kernel)) dX0_renew_7 (fun H locs hM hS => ?_)
  replace h := h _ rfl
  refine lv_aload_n hx hb dX0_renew_10 rfl (lv_at hl 0 rfl) ?_
  refine lv_iconst (v := (-1)) hx hb dX0_renew_11 (by decide) ?_
  refine pf0_6 hx hb hts inX0_renew_0 hown hE.1 hM hS hk_1 (hts (.fieldLink RX0 25 "WorkCoder$Item" "means" "I") (by decide +kernel)) dX0_renew_12 (fun H locs hM hS => ?_)
  replace h := h _ rfl
  refine lv_aload_n hx hb dX0_renew_15 rfl (lv_at hl 0 rfl) ?_
  refine lv_iconst (v := (-1)) hx hb dX0_renew_16 (by decide) ?_
  refine pf0_7 hx hb hts inX0_renew_0 hown hE.1 hM hS hk_1 (hts (.fieldLink RX0 28 "WorkCoder$Item" "by" "I") (by decide +kernel)) dX0_renew_17 (fun H locs hM hS => ?_)
  replace h := h _ rfl
  refine lv_aload_n hx hb dX0_renew_20 rfl (lv_at hl 0 rfl) ?_
  refine lv_iconst (v := (-1)) hx hb dX0_renew_21 (by decide) ?_
  refine pf0_8 hx hb hts inX0_renew_0 hown hE.1 hM hS hk_1 (hts (.fieldLink RX0 31 "WorkCoder$Item" "second" "I") (by decide +kernel)) dX0_renew_22 (fun H locs hM hS => ?_)
  replace h := h _ rfl
  exact W.vret hx hb hr (fun t_ ht hW => ⟨⟨_, rfl, h, mB_of ht hM⟩, hS.F ht⟩) hS.2.2 dX0_renew_25
end S_X0_renew
set_option maxHeartbeats 4000000 in
set_option maxRecDepth 100000 in
theorem ok_X0_renew (l : Launch) (D : va_G) (cs : CS) (A : Nat → Prop) (t : Nat) (σ : MM) (k : MM → Prop) (h : wX0_renew t σ k) : Met l yX0_renew wsX0_renew rmX0_renew (va_Pc [.ref t] (mP D cs A σ)) (va_Qv k (mB D cs A) A) 0 0 A := by
  refine Met.ofW (cc := cX0_renew) (maxL := 1) (ret := none) (by decide) rfl ?_
  intro p e s m args below meth c s₁ B hml hv
  obtain ⟨rfl, hM, hE⟩ := hv
  have CX : CXM p s m _ meth c cX0_renew 1 none "renew" RX0 wsX0_renew D cs A := ⟨B.exec, B.bytes, hml, B.returns, (name_of_methodNamed B.named B.method).1, findClass_of_methodNamed B.named, atoms_spec (ws := wsX0_renew) B.pre, B.notSynchronized, hE⟩
  have hl := lv_entry ([.ref t]) (n := 1) (Nat.le_of_ble_eq_true rfl)
  rw [lg_entry_eq]
  exact oX0_renew_0 CX  σ _ _ _ h hM va_S.rf hl
/-! WorkCoder$Item.plan(III)V -/
abbrev rmX0_plan : Room := { frames := 0, cells := 0, slots := 0, locals := 0 }
theorem inX0_plan_0 : ∀ w ∈ wsX00, w ∈ wsX0_plan := fun _ h => List.mem_cons_of_mem _ (List.mem_append_right _ (h))
section S_X0_plan
variable {p : Program} {l : Launch} {e : Env} {s : State} {m : MethodId} {args : Array Value} {below : List Frame} {meth : Method} {c : Code} {D : va_G} {cs : CS} {A : Nat → Prop}
set_option maxHeartbeats 4000000 in
set_option maxRecDepth 100000 in
theorem oX0_plan_0 {k : MM → Prop} {t : Nat} (CX : CXM p s m args meth c cX0_plan 4 none "plan" RX0 wsX0_plan D cs A) : ∀ (x1 : Int32) (x2 : Int32) (x3 : Int32) (σ : MM) (H : Heap) (locs : List Loc) (ls : Array Slot), wX0_plan t x1 x2 x3 σ k → PH D cs A σ H → va_S A s.heap H locs → lv_has ls 4 [(0, .ref t), (1, .int x1), (2, .int x2), (3, .int x3)] → W p l e (headSpec wsX0_plan rmX0_plan).room s m args below meth c H locs 0 0 (MQ below (va_Qv k (mB D cs A) A) args s 0 0 A) (F0 m 0 ls []) := by
  intro x1 x2 x3 σ H locs ls h hM hS hl
  have ⟨hx, hb, hml, hr, hnm, hown, hts, hlocks, hE⟩ := CX
  unfold wX0_plan at h
  refine lv_aload_n hx hb dX0_plan_0 rfl (lv_at hl 0 rfl) ?_
  refine lv_iload_n hx hb dX0_plan_1 rfl (lv_at hl 1 rfl) ?_
  obtain ⟨hk_1, h⟩ := h
  refine pf0_9 hx hb hts inX0_plan_0 hown hE.1 hM hS hk_1 (hts (.fieldLink RX0 34 "WorkCoder$Item" "plannedCode" "I") (by decide +kernel)) dX0_plan_2 (fun H locs hM hS => ?_)
  replace h := h _ rfl
  refine lv_aload_n hx hb dX0_plan_5 rfl (lv_at hl 0 rfl) ?_
  refine lv_iload_n hx hb dX0_plan_6 rfl (lv_at hl 2 rfl) ?_
  refine pf0_10 hx hb hts inX0_plan_0 hown hE.1 hM hS hk_1 (hts (.fieldLink RX0 37 "WorkCoder$Item" "plannedMeans" "I") (by decide +kernel)) dX0_plan_7 (fun H locs hM hS => ?_)
  replace h := h _ rfl
  refine lv_aload_n hx hb dX0_plan_10 rfl (lv_at hl 0 rfl) ?_
  refine lv_iload_n hx hb dX0_plan_11 rfl (lv_at hl 3 rfl) ?_
  refine pf0_11 hx hb hts inX0_plan_0 hown hE.1 hM hS hk_1 (hts (.fieldLink RX0 40 "WorkCoder$Item" "plannedBy" "I") (by decide +kernel)) dX0_plan_12 (fun H locs hM hS => ?_)
  replace h := h _ rfl
  exact W.vret hx hb hr (fun t_ ht hW => ⟨⟨_, rfl, h, mB_of ht hM⟩, hS.F ht⟩) hS.2.2 dX0_plan_15
end S_X0_plan
set_option maxHeartbeats 4000000 in
set_option maxRecDepth 100000 in
theorem ok_X0_plan (l : Launch) (D : va_G) (cs : CS) (A : Nat → Prop) (t : Nat) (x1 : Int32) (x2 : Int32) (x3 : Int32) (σ : MM) (k : MM → Prop) (h : wX0_plan t x1 x2 x3 σ k) : Met l yX0_plan wsX0_plan rmX0_plan (va_Pc [.ref t, .int x1, .int x2, .int x3] (mP D cs A σ)) (va_Qv k (mB D cs A) A) 0 0 A := by
  refine Met.ofW (cc := cX0_plan) (maxL := 4) (ret := none) (by decide) rfl ?_
  intro p e s m args below meth c s₁ B hml hv
  obtain ⟨rfl, hM, hE⟩ := hv
  have CX : CXM p s m _ meth c cX0_plan 4 none "plan" RX0 wsX0_plan D cs A := ⟨B.exec, B.bytes, hml, B.returns, (name_of_methodNamed B.named B.method).1, findClass_of_methodNamed B.named, atoms_spec (ws := wsX0_plan) B.pre, B.notSynchronized, hE⟩
  have hl := lv_entry ([.ref t, .int x1, .int x2, .int x3]) (n := 4) (Nat.le_of_ble_eq_true rfl)
  rw [lg_entry_eq]
  exact oX0_plan_0 CX x1 x2 x3 σ _ _ _ h hM va_S.rf hl
/-! WorkCoder$Item.followPlan()Z -/
abbrev rmX0_followPlan : Room := { frames := 1, cells := 0, slots := 0, locals := 23 }
theorem inX0_followPlan_0 : ∀ w ∈ wsX00, w ∈ wsX0_followPlan := fun _ h => List.mem_cons_of_mem _ (List.mem_append_right _ (h))
section S_X0_followPlan
variable {p : Program} {l : Launch} {e : Env} {s : State} {m : MethodId} {args : Array Value} {below : List Frame} {meth : Method} {c : Code} {D : va_G} {cs : CS} {A : Nat → Prop}
set_option maxHeartbeats 4000000 in
set_option maxRecDepth 100000 in
theorem oX0_followPlan_0 {k : Int32 → MM → Prop} {t : Nat} (CX : CXM p s m args meth c cX0_followPlan 1 (some .boolean) "followPlan" RX0 wsX0_followPlan D cs A) : ∀ (σ : MM) (H : Heap) (locs : List Loc) (ls : Array Slot), wX0_followPlan t σ k → PH D cs A σ H → va_S A s.heap H locs → lv_has ls 1 [(0, .ref t)] → W p l e (headSpec wsX0_followPlan rmX0_followPlan).room s m args below meth c H locs 0 0 (MQ below (va_Qi k (mB D cs A) A) args s 0 0 A) (F0 m 0 ls []) := by
  intro  σ H locs ls h hM hS hl
  have ⟨hx, hb, hml, hr, hnm, hown, hts, hlocks, hE⟩ := CX
  unfold wX0_followPlan at h
  refine lv_aload_n hx hb dX0_followPlan_0 rfl (lv_at hl 0 rfl) ?_
  obtain ⟨hk_1, h⟩ := h
  refine gf0_9 hx hb hts inX0_followPlan_0 hown hE.1 hM hk_1 (hts (.fieldLink RX0 34 "WorkCoder$Item" "plannedCode" "I") (by decide +kernel)) dX0_followPlan_1 ?_
  refine lv_iconst (v := (-1)) hx hb dX0_followPlan_4 (by decide) ?_
  refine lv_icmp_ne (tgt := 15) hx hb dX0_followPlan_5 (by decide) (fun hc => ?_) (fun hc => ?_)
  · replace h := h.1 hc
    refine lv_aload_n hx hb dX0_followPlan_15 rfl (lv_at hl 0 rfl) ?_
    refine lv_aload_n hx hb dX0_followPlan_16 rfl (lv_at hl 0 rfl) ?_
    refine gf0_9 hx hb hts inX0_followPlan_0 hown hE.1 hM hk_1 (hts (.fieldLink RX0 34 "WorkCoder$Item" "plannedCode" "I") (by decide +kernel)) dX0_followPlan_17 ?_
    refine lv_aload_n hx hb dX0_followPlan_20 rfl (lv_at hl 0 rfl) ?_
    refine gf0_10 hx hb hts inX0_followPlan_0 hown hE.1 hM hk_1 (hts (.fieldLink RX0 37 "WorkCoder$Item" "plannedMeans" "I") (by decide +kernel)) dX0_followPlan_21 ?_
    refine lv_aload_n hx hb dX0_followPlan_24 rfl (lv_at hl 0 rfl) ?_
    refine gf0_11 hx hb hts inX0_followPlan_0 hown hE.1 hM hk_1 (hts (.fieldLink RX0 40 "WorkCoder$Item" "plannedBy" "I") (by decide +kernel)) dX0_followPlan_25 ?_
    refine clVv (C := RX0) (b := t) (As := [.int (mI σ t 9), .int (mI σ t 10), .int (mI σ t 11)]) (rest := []) ⟨hx, hb, hml, hown, hts⟩ hM hE hS (ok_X0_take l D cs A t (mI σ t 9) (mI σ t 10) (mI σ t 11) _ _ h) (cwV 3 hts gX0_followPlan_X0_take rfl rfl rfl (by decide +kernel) ⟨(Nat.le_of_ble_eq_true rfl), (Nat.le_of_ble_eq_true rfl)⟩) (rc0 hM hE.1 hk_1) rfl hl.1 rfl (Nat.le_of_ble_eq_true rfl) dX0_followPlan_28 ⟨(Nat.le_of_ble_eq_true rfl), (Nat.le_of_ble_eq_true rfl)⟩ (fun σ_2 H locs h1 hM hS => ?_)
    replace h := h1
    clear h1
    refine lv_iconst (v := 1) hx hb dX0_followPlan_31 (by decide) ?_
    exact W.zret (v := 1) (ty := .boolean) hx hb hr rfl (fun t_ ht hW => ⟨⟨_, _, rfl, h, mB_of ht hM⟩, hS.F ht⟩) hS.2.2 dX0_followPlan_32
  · replace h := h.2 hc
    refine lv_aload_n hx hb dX0_followPlan_8 rfl (lv_at hl 0 rfl) ?_
    refine lv_iconst (v := 2) hx hb dX0_followPlan_9 (by decide) ?_
    refine pf0_4 hx hb hts inX0_followPlan_0 hown hE.1 hM hS hk_1 (hts (.fieldLink RX0 18 "WorkCoder$Item" "state" "I") (by decide +kernel)) dX0_followPlan_10 (fun H locs hM hS => ?_)
    replace h := h _ rfl
    refine lv_iconst (v := 0) hx hb dX0_followPlan_13 (by decide) ?_
    exact W.zret (v := 0) (ty := .boolean) hx hb hr rfl (fun t_ ht hW => ⟨⟨_, _, rfl, h, mB_of ht hM⟩, hS.F ht⟩) hS.2.2 dX0_followPlan_14
end S_X0_followPlan
set_option maxHeartbeats 4000000 in
set_option maxRecDepth 100000 in
theorem ok_X0_followPlan (l : Launch) (D : va_G) (cs : CS) (A : Nat → Prop) (t : Nat) (σ : MM) (k : Int32 → MM → Prop) (h : wX0_followPlan t σ k) : Met l yX0_followPlan wsX0_followPlan rmX0_followPlan (va_Pc [.ref t] (mP D cs A σ)) (va_Qi k (mB D cs A) A) 0 0 A := by
  refine Met.ofW (cc := cX0_followPlan) (maxL := 1) (ret := (some .boolean)) (by decide) rfl ?_
  intro p e s m args below meth c s₁ B hml hv
  obtain ⟨rfl, hM, hE⟩ := hv
  have CX : CXM p s m _ meth c cX0_followPlan 1 (some .boolean) "followPlan" RX0 wsX0_followPlan D cs A := ⟨B.exec, B.bytes, hml, B.returns, (name_of_methodNamed B.named B.method).1, findClass_of_methodNamed B.named, atoms_spec (ws := wsX0_followPlan) B.pre, B.notSynchronized, hE⟩
  have hl := lv_entry ([.ref t]) (n := 1) (Nat.le_of_ble_eq_true rfl)
  rw [lg_entry_eq]
  exact oX0_followPlan_0 CX  σ _ _ _ h hM va_S.rf hl
/-! WorkCoder$Rule.<init>(III)V -/
abbrev rmX1_init : Room := { frames := 1, cells := 0, slots := 0, locals := 20 }
theorem inX1_init_1 : ∀ w ∈ wsX10, w ∈ wsX1_init := fun _ h => List.mem_cons_of_mem _ (List.mem_append_right _ (h))
section S_X1_init
variable {p : Program} {l : Launch} {e : Env} {s : State} {m : MethodId} {args : Array Value} {below : List Frame} {meth : Method} {c : Code} {D : va_G} {cs : CS} {A : Nat → Prop}
set_option maxHeartbeats 4000000 in
set_option maxRecDepth 100000 in
theorem oX1_init_0 {k : MM → Prop} {t : Nat} (CX : CXM p s m args meth c cX1_init 4 none "<init>" RX1 wsX1_init D cs A) : ∀ (x1 : Int32) (x2 : Int32) (x3 : Int32) (σ : MM) (H : Heap) (locs : List Loc) (ls : Array Slot), wX1_init t x1 x2 x3 σ k → PH D cs A σ H → va_S A s.heap H locs → lv_has ls 4 [(0, .ref t), (1, .int x1), (2, .int x2), (3, .int x3)] → W p l e (headSpec wsX1_init rmX1_init).room s m args below meth c H locs 0 0 (MQ below (va_Qv k (mB D cs A) A) args s 0 0 A) (F0 m 0 ls []) := by
  intro x1 x2 x3 σ H locs ls h hM hS hl
  have ⟨hx, hb, hml, hr, hnm, hown, hts, hlocks, hE⟩ := CX
  unfold wX1_init at h
  refine lv_aload_n hx hb dX1_init_0 rfl (lv_at hl 0 rfl) ?_
  refine W.objInit hx hb hown (hts (.methodLink RX1 3 objectInit) (by decide +kernel)) (hts (.instanceMethod objectInit) (by decide +kernel)) (hts (.code objectInit ⟨#[0xb1]⟩ 1 none) (by decide +kernel)) rfl (by rw [hml]; exact hl.1) rfl dX1_init_1 (Nat.le_of_ble_eq_true rfl) (Nat.le_of_ble_eq_true rfl) ?_
  refine lv_aload_n hx hb dX1_init_4 rfl (lv_at hl 0 rfl) ?_
  refine lv_lconst (v := 0) hx hb dX1_init_5 (by decide) ?_
  obtain ⟨hk_1, h⟩ := h
  refine pf1_3 hx hb hts inX1_init_1 hown hE.1 hM hS hk_1 (hts (.fieldLink RX1 9 "WorkCoder$Rule" "needed" "J") (by decide +kernel)) dX1_init_6 (fun H locs hM hS => ?_)
  replace h := h _ rfl
  refine lv_aload_n hx hb dX1_init_9 rfl (lv_at hl 0 rfl) ?_
  refine lv_lconst (v := 0) hx hb dX1_init_10 (by decide) ?_
  refine pf1_4 hx hb hts inX1_init_1 hown hE.1 hM hS hk_1 (hts (.fieldLink RX1 15 "WorkCoder$Rule" "barred" "J") (by decide +kernel)) dX1_init_11 (fun H locs hM hS => ?_)
  replace h := h _ rfl
  refine lv_aload_n hx hb dX1_init_14 rfl (lv_at hl 0 rfl) ?_
  refine lv_iconst (v := 0) hx hb dX1_init_15 (by decide) ?_
  refine pf1_5 hx hb hts inX1_init_1 hown hE.1 hM hS (v := 0) (by unfold bz; decide) hk_1 (hts (.fieldLink RX1 18 "WorkCoder$Rule" "dropped" "Z") (by decide +kernel)) dX1_init_16 (fun H locs hM hS => ?_)
  replace h := h _ rfl
  refine lv_aload_n hx hb dX1_init_19 rfl (lv_at hl 0 rfl) ?_
  refine lv_iload_n hx hb dX1_init_20 rfl (lv_at hl 1 rfl) ?_
  refine pf1_0 hx hb hts inX1_init_1 hown hE.1 hM hS hk_1 (hts (.fieldLink RX1 22 "WorkCoder$Rule" "rank" "I") (by decide +kernel)) hnm rfl dX1_init_21 (fun H locs hM hS => ?_)
  replace h := h _ rfl
  refine lv_aload_n hx hb dX1_init_24 rfl (lv_at hl 0 rfl) ?_
  refine lv_iload_n hx hb dX1_init_25 rfl (lv_at hl 2 rfl) ?_
  refine pf1_1 hx hb hts inX1_init_1 hown hE.1 hM hS hk_1 (hts (.fieldLink RX1 26 "WorkCoder$Rule" "code" "I") (by decide +kernel)) hnm rfl dX1_init_26 (fun H locs hM hS => ?_)
  replace h := h _ rfl
  refine lv_aload_n hx hb dX1_init_29 rfl (lv_at hl 0 rfl) ?_
  refine lv_iload_n hx hb dX1_init_30 rfl (lv_at hl 3 rfl) ?_
  refine pf1_2 hx hb hts inX1_init_1 hown hE.1 hM hS hk_1 (hts (.fieldLink RX1 29 "WorkCoder$Rule" "trades" "I") (by decide +kernel)) hnm rfl dX1_init_31 (fun H locs hM hS => ?_)
  replace h := h _ rfl
  exact W.vret hx hb hr (fun t_ ht hW => ⟨⟨_, rfl, h, mB_of ht hM⟩, hS.F ht⟩) hS.2.2 dX1_init_34
end S_X1_init
set_option maxHeartbeats 4000000 in
set_option maxRecDepth 100000 in
theorem ok_X1_init (l : Launch) (D : va_G) (cs : CS) (A : Nat → Prop) (t : Nat) (x1 : Int32) (x2 : Int32) (x3 : Int32) (σ : MM) (k : MM → Prop) (h : wX1_init t x1 x2 x3 σ k) : Met l yX1_init wsX1_init rmX1_init (va_Pc [.ref t, .int x1, .int x2, .int x3] (mP D cs A σ)) (va_Qv k (mB D cs A) A) 0 0 A := by
  refine Met.ofW (cc := cX1_init) (maxL := 4) (ret := none) (by decide) rfl ?_
  intro p e s m args below meth c s₁ B hml hv
  obtain ⟨rfl, hM, hE⟩ := hv
  have CX : CXM p s m _ meth c cX1_init 4 none "<init>" RX1 wsX1_init D cs A := ⟨B.exec, B.bytes, hml, B.returns, (name_of_methodNamed B.named B.method).1, findClass_of_methodNamed B.named, atoms_spec (ws := wsX1_init) B.pre, B.notSynchronized, hE⟩
  have hl := lv_entry ([.ref t, .int x1, .int x2, .int x3]) (n := 4) (Nat.le_of_ble_eq_true rfl)
  rw [lg_entry_eq]
  exact oX1_init_0 CX x1 x2 x3 σ _ _ _ h hM va_S.rf hl
/-! WorkCoder.bit(JI)I -/
abbrev rmX3_bit : Room := { frames := 0, cells := 0, slots := 0, locals := 0 }
section S_X3_bit
variable {p : Program} {l : Launch} {e : Env} {s : State} {m : MethodId} {args : Array Value} {below : List Frame} {meth : Method} {c : Code} {D : va_G} {cs : CS} {A : Nat → Prop}
set_option maxHeartbeats 4000000 in
set_option maxRecDepth 100000 in
theorem oX3_bit_0 {k : Int32 → MM → Prop} (CX : CXM p s m args meth c cX3_bit 3 (some .int) "bit" RX3 wsX3_bit D cs A) : ∀ (y0 : Int64) (x2 : Int32) (σ : MM) (H : Heap) (locs : List Loc) (ls : Array Slot), wX3_bit y0 x2 σ k → PH D cs A σ H → va_S A s.heap H locs → lv_has ls 3 [(0, .long y0), (2, .int x2)] → W p l e (headSpec wsX3_bit rmX3_bit).room s m args below meth c H locs 0 0 (MQ below (va_Qi k (mB D cs A) A) args s 0 0 A) (F0 m 0 ls []) := by
  intro y0 x2 σ H locs ls h hM hS hl
  have ⟨hx, hb, hml, hr, hnm, hown, hts, hlocks, hE⟩ := CX
  unfold wX3_bit at h
  refine lv_lload_n hx hb dX3_bit_0 rfl (lv_at hl 0 rfl) ?_
  refine lv_iload_n hx hb dX3_bit_1 rfl (lv_at hl 1 rfl) ?_
  refine lv_lushr hx hb dX3_bit_2 (v := lUsh y0 x2) rfl ?_
  refine lv_lconst (v := 1) hx hb dX3_bit_3 (by decide) ?_
  refine lv_land hx hb dX3_bit_4 ?_
  refine lv_l2i hx hb dX3_bit_5 (v := ((lUsh y0 x2) &&& 1).toInt32) rfl ?_
  exact W.iret (v := ((lUsh y0 x2) &&& 1).toInt32) hx hb hr (fun t_ ht hW => ⟨⟨_, _, rfl, h, mB_of ht hM⟩, hS.F ht⟩) hS.2.2 dX3_bit_6
end S_X3_bit
set_option maxHeartbeats 4000000 in
set_option maxRecDepth 100000 in
theorem ok_X3_bit (l : Launch) (D : va_G) (cs : CS) (A : Nat → Prop) (y0 : Int64) (x2 : Int32) (σ : MM) (k : Int32 → MM → Prop) (h : wX3_bit y0 x2 σ k) : Met l yX3_bit wsX3_bit rmX3_bit (va_Pc [.long y0, .int x2] (mP D cs A σ)) (va_Qi k (mB D cs A) A) 0 0 A := by
  refine Met.ofW (cc := cX3_bit) (maxL := 3) (ret := (some .int)) (by decide) rfl ?_
  intro p e s m args below meth c s₁ B hml hv
  obtain ⟨rfl, hM, hE⟩ := hv
  have CX : CXM p s m _ meth c cX3_bit 3 (some .int) "bit" RX3 wsX3_bit D cs A := ⟨B.exec, B.bytes, hml, B.returns, (name_of_methodNamed B.named B.method).1, findClass_of_methodNamed B.named, atoms_spec (ws := wsX3_bit) B.pre, B.notSynchronized, hE⟩
  have hl := lv_entry ([.long y0, .int x2]) (n := 3) (Nat.le_of_ble_eq_true rfl)
  rw [lg_entry_eq]
  exact oX3_bit_0 CX y0 x2 σ _ _ _ h hM va_S.rf hl
/-! WorkCoder.withBit(JII)J -/
abbrev rmX3_withBit : Room := { frames := 0, cells := 0, slots := 0, locals := 0 }
section S_X3_withBit
variable {p : Program} {l : Launch} {e : Env} {s : State} {m : MethodId} {args : Array Value} {below : List Frame} {meth : Method} {c : Code} {D : va_G} {cs : CS} {A : Nat → Prop}
set_option maxHeartbeats 4000000 in
set_option maxRecDepth 100000 in
theorem oX3_withBit_0 {k : Int64 → MM → Prop} (CX : CXM p s m args meth c cX3_withBit 4 (some .long) "withBit" RX3 wsX3_withBit D cs A) : ∀ (y0 : Int64) (x2 : Int32) (x3 : Int32) (σ : MM) (H : Heap) (locs : List Loc) (ls : Array Slot), wX3_withBit y0 x2 x3 σ k → PH D cs A σ H → va_S A s.heap H locs → lv_has ls 4 [(0, .long y0), (2, .int x2), (3, .int x3)] → W p l e (headSpec wsX3_withBit rmX3_withBit).room s m args below meth c H locs 0 0 (MQ below (va_Ql k (mB D cs A) A) args s 0 0 A) (F0 m 0 ls []) := by
  intro y0 x2 x3 σ H locs ls h hM hS hl
  have ⟨hx, hb, hml, hr, hnm, hown, hts, hlocks, hE⟩ := CX
  unfold wX3_withBit at h
  refine lv_iload_n hx hb dX3_withBit_0 rfl (lv_at hl 2 rfl) ?_
  refine lv_iconst (v := 1) hx hb dX3_withBit_1 (by decide) ?_
  refine lv_icmp_ne (tgt := 13) hx hb dX3_withBit_2 (by decide) (fun hc => ?_) (fun hc => ?_)
  · replace h := h.1 hc
    refine lv_lload_n hx hb dX3_withBit_13 rfl (lv_at hl 0 rfl) ?_
    refine lv_lconst (v := 1) hx hb dX3_withBit_14 (by decide) ?_
    refine lv_iload_n hx hb dX3_withBit_15 rfl (lv_at hl 1 rfl) ?_
    refine lv_lshl hx hb dX3_withBit_16 (v := lShl (1 : Int64) x2) rfl ?_
    refine lv_ldc2 (v := (-1)) hx hb hown (hts (.constantLong RX3 203 (-1)) (by decide +kernel)) dX3_withBit_17 ?_
    refine lv_lxor hx hb dX3_withBit_20 ?_
    refine lv_land hx hb dX3_withBit_21 ?_
    exact W.lret (v := y0 &&& ((lShl (1 : Int64) x2) ^^^ (-1))) hx hb hr (fun t_ ht hW => ⟨⟨_, _, rfl, h, mB_of ht hM⟩, hS.F ht⟩) hS.2.2 dX3_withBit_22
  · replace h := h.2 hc
    refine lv_lload_n hx hb dX3_withBit_5 rfl (lv_at hl 0 rfl) ?_
    refine lv_lconst (v := 1) hx hb dX3_withBit_6 (by decide) ?_
    refine lv_iload_n hx hb dX3_withBit_7 rfl (lv_at hl 1 rfl) ?_
    refine lv_lshl hx hb dX3_withBit_8 (v := lShl (1 : Int64) x2) rfl ?_
    refine lv_lor hx hb dX3_withBit_9 ?_
    refine lv_goto (tgt := 22) hx hb dX3_withBit_10 (by decide) ?_
    exact W.lret (v := y0 ||| (lShl (1 : Int64) x2)) hx hb hr (fun t_ ht hW => ⟨⟨_, _, rfl, h, mB_of ht hM⟩, hS.F ht⟩) hS.2.2 dX3_withBit_22
end S_X3_withBit
set_option maxHeartbeats 4000000 in
set_option maxRecDepth 100000 in
theorem ok_X3_withBit (l : Launch) (D : va_G) (cs : CS) (A : Nat → Prop) (y0 : Int64) (x2 : Int32) (x3 : Int32) (σ : MM) (k : Int64 → MM → Prop) (h : wX3_withBit y0 x2 x3 σ k) : Met l yX3_withBit wsX3_withBit rmX3_withBit (va_Pc [.long y0, .int x2, .int x3] (mP D cs A σ)) (va_Ql k (mB D cs A) A) 0 0 A := by
  refine Met.ofW (cc := cX3_withBit) (maxL := 4) (ret := (some .long)) (by decide) rfl ?_
  intro p e s m args below meth c s₁ B hml hv
  obtain ⟨rfl, hM, hE⟩ := hv
  have CX : CXM p s m _ meth c cX3_withBit 4 (some .long) "withBit" RX3 wsX3_withBit D cs A := ⟨B.exec, B.bytes, hml, B.returns, (name_of_methodNamed B.named B.method).1, findClass_of_methodNamed B.named, atoms_spec (ws := wsX3_withBit) B.pre, B.notSynchronized, hE⟩
  have hl := lv_entry ([.long y0, .int x2, .int x3]) (n := 4) (Nat.le_of_ble_eq_true rfl)
  rw [lg_entry_eq]
  exact oX3_withBit_0 CX y0 x2 x3 σ _ _ _ h hM va_S.rf hl
/-! WorkCoder$Rule.treat(II)I -/
abbrev rmX1_treat : Room := { frames := 1, cells := 0, slots := 0, locals := 23 }
theorem inX1_treat_1 : ∀ w ∈ wsX10, w ∈ wsX1_treat := fun _ h => List.mem_cons_of_mem _ (List.mem_append_right _ (h))
section S_X1_treat
variable {p : Program} {l : Launch} {e : Env} {s : State} {m : MethodId} {args : Array Value} {below : List Frame} {meth : Method} {c : Code} {D : va_G} {cs : CS} {A : Nat → Prop}
set_option maxHeartbeats 4000000 in
set_option maxRecDepth 100000 in
theorem oX1_treat_50 {k : Int32 → MM → Prop} {t : Nat} (CX : CXM p s m args meth c cX1_treat 4 (some .int) "treat" RX1 wsX1_treat D cs A) : ∀ (x1 : Int32) (x2 : Int32) (x3 : Int32) (z1 : Int64) (z2 : Int32) (z3 : Int32) (σ : MM) (H : Heap) (locs : List Loc) (ls : Array Slot), wX1_treat_50 k t  x1 x2 x3 z1 z2 z3 σ → PH D cs A σ H → va_S A s.heap H locs → lv_has ls 4 [(0, .ref t), (1, .int x1), (2, .int x2), (3, .int x3)] → W p l e (headSpec wsX1_treat rmX1_treat).room s m args below meth c H locs 0 0 (MQ below (va_Qi k (mB D cs A) A) args s 0 0 A) (F0 m 50 ls [.int z3, .int z2, .long z1, .ref t]) := by
  intro x1 x2 x3 z1 z2 z3 σ H locs ls h hM hS hl
  have ⟨hx, hb, hml, hr, hnm, hown, hts, hlocks, hE⟩ := CX
  unfold wX1_treat_50 at h
  refine clNl (As := [.long z1, .int z2, .int z3]) (rest := [.ref t]) ⟨hx, hb, hml, hown, hts⟩ hM hE hS (ok_X3_withBit l D cs A z1 z2 z3 _ _ h) ⟨va_cnB 3 hts gX1_treat_X3_withBit_n36 rfl rfl rfl hE.2.2.2.1 (hts (.initialized RX3) (by decide +kernel)) (by decide +kernel) ⟨(Nat.le_of_ble_eq_true rfl), (Nat.le_of_ble_eq_true rfl)⟩, hts (.static yX3_withBit) (by decide +kernel), trivial⟩ rfl hl.1 rfl (Nat.le_of_ble_eq_true rfl) dX1_treat_50 ⟨(Nat.le_of_ble_eq_true rfl), (Nat.le_of_ble_eq_true rfl)⟩ (fun y_2 σ_1 H locs h1 hM hS => ?_)
  replace h := h1
  clear h1
  obtain ⟨hk_3, h⟩ := h
  refine pf1_3 hx hb hts inX1_treat_1 hown hE.1 hM hS hk_3 (hts (.fieldLink RX1 9 "WorkCoder$Rule" "needed" "J") (by decide +kernel)) dX1_treat_53 (fun H locs hM hS => ?_)
  replace h := h _ rfl
  refine lv_aload_n hx hb dX1_treat_56 rfl (lv_at hl 0 rfl) ?_
  refine lv_aload_n hx hb dX1_treat_57 rfl (lv_at hl 0 rfl) ?_
  refine gf1_4 hx hb hts inX1_treat_1 hown hE.1 hM hk_3 (hts (.fieldLink RX1 15 "WorkCoder$Rule" "barred" "J") (by decide +kernel)) dX1_treat_58 ?_
  refine lv_iload_n hx hb dX1_treat_61 rfl (lv_at hl 1 rfl) ?_
  refine lv_iload_n hx hb dX1_treat_62 rfl (lv_at hl 2 rfl) ?_
  refine lv_iconst (v := 2) hx hb dX1_treat_63 (by decide) ?_
  refine lv_icmp_ne (tgt := 71) hx hb dX1_treat_64 (by decide) (fun hc => ?_) (fun hc => ?_)
  · replace h := h.1 hc
    refine lv_iconst (v := 0) hx hb dX1_treat_71 (by decide) ?_
    refine clNl (As := [.long (mL (sL σ_1 t 3 y_2) t 4), .int x1, .int 0]) (rest := [.ref t]) ⟨hx, hb, hml, hown, hts⟩ hM hE hS (ok_X3_withBit l D cs A (mL (sL σ_1 t 3 y_2) t 4) x1 0 _ _ h) ⟨va_cnB 3 hts gX1_treat_X3_withBit_n36 rfl rfl rfl hE.2.2.2.1 (hts (.initialized RX3) (by decide +kernel)) (by decide +kernel) ⟨(Nat.le_of_ble_eq_true rfl), (Nat.le_of_ble_eq_true rfl)⟩, hts (.static yX3_withBit) (by decide +kernel), trivial⟩ rfl hl.1 rfl (Nat.le_of_ble_eq_true rfl) dX1_treat_72 ⟨(Nat.le_of_ble_eq_true rfl), (Nat.le_of_ble_eq_true rfl)⟩ (fun y_6 σ_5 H locs h1 hM hS => ?_)
    replace h := h1
    clear h1
    obtain ⟨hk_7, h⟩ := h
    refine pf1_4 hx hb hts inX1_treat_1 hown hE.1 hM hS hk_7 (hts (.fieldLink RX1 15 "WorkCoder$Rule" "barred" "J") (by decide +kernel)) dX1_treat_75 (fun H locs hM hS => ?_)
    replace h := h _ rfl
    refine lv_iload_n hx hb dX1_treat_78 rfl (lv_at hl 3 rfl) ?_
    exact W.iret (v := x3) hx hb hr (fun t_ ht hW => ⟨⟨_, _, rfl, h, mB_of ht hM⟩, hS.F ht⟩) hS.2.2 dX1_treat_79
  · replace h := h.2 hc
    refine lv_iconst (v := 1) hx hb dX1_treat_67 (by decide) ?_
    refine lv_goto (tgt := 72) hx hb dX1_treat_68 (by decide) ?_
    refine clNl (As := [.long (mL (sL σ_1 t 3 y_2) t 4), .int x1, .int 1]) (rest := [.ref t]) ⟨hx, hb, hml, hown, hts⟩ hM hE hS (ok_X3_withBit l D cs A (mL (sL σ_1 t 3 y_2) t 4) x1 1 _ _ h) ⟨va_cnB 3 hts gX1_treat_X3_withBit_n36 rfl rfl rfl hE.2.2.2.1 (hts (.initialized RX3) (by decide +kernel)) (by decide +kernel) ⟨(Nat.le_of_ble_eq_true rfl), (Nat.le_of_ble_eq_true rfl)⟩, hts (.static yX3_withBit) (by decide +kernel), trivial⟩ rfl hl.1 rfl (Nat.le_of_ble_eq_true rfl) dX1_treat_72 ⟨(Nat.le_of_ble_eq_true rfl), (Nat.le_of_ble_eq_true rfl)⟩ (fun y_10 σ_9 H locs h1 hM hS => ?_)
    replace h := h1
    clear h1
    obtain ⟨hk_11, h⟩ := h
    refine pf1_4 hx hb hts inX1_treat_1 hown hE.1 hM hS hk_11 (hts (.fieldLink RX1 15 "WorkCoder$Rule" "barred" "J") (by decide +kernel)) dX1_treat_75 (fun H locs hM hS => ?_)
    replace h := h _ rfl
    refine lv_iload_n hx hb dX1_treat_78 rfl (lv_at hl 3 rfl) ?_
    exact W.iret (v := x3) hx hb hr (fun t_ ht hW => ⟨⟨_, _, rfl, h, mB_of ht hM⟩, hS.F ht⟩) hS.2.2 dX1_treat_79
set_option maxHeartbeats 4000000 in
set_option maxRecDepth 100000 in
theorem oX1_treat_0 {k : Int32 → MM → Prop} {t : Nat} (CX : CXM p s m args meth c cX1_treat 4 (some .int) "treat" RX1 wsX1_treat D cs A) : ∀ (x1 : Int32) (x2 : Int32) (σ : MM) (H : Heap) (locs : List Loc) (ls : Array Slot), wX1_treat t x1 x2 σ k → PH D cs A σ H → va_S A s.heap H locs → lv_has ls 4 [(0, .ref t), (1, .int x1), (2, .int x2)] → W p l e (headSpec wsX1_treat rmX1_treat).room s m args below meth c H locs 0 0 (MQ below (va_Qi k (mB D cs A) A) args s 0 0 A) (F0 m 0 ls []) := by
  intro x1 x2 σ H locs ls h hM hS hl
  have ⟨hx, hb, hml, hr, hnm, hown, hts, hlocks, hE⟩ := CX
  unfold wX1_treat at h
  refine lv_aload_n hx hb dX1_treat_0 rfl (lv_at hl 0 rfl) ?_
  obtain ⟨hk_1, h⟩ := h
  refine gf1_3 hx hb hts inX1_treat_1 hown hE.1 hM hk_1 (hts (.fieldLink RX1 9 "WorkCoder$Rule" "needed" "J") (by decide +kernel)) dX1_treat_1 ?_
  refine lv_iload_n hx hb dX1_treat_4 rfl (lv_at hl 1 rfl) ?_
  refine clNi (As := [.long (mL σ t 3), .int x1]) (rest := []) ⟨hx, hb, hml, hown, hts⟩ hM hE hS (ok_X3_bit l D cs A (mL σ t 3) x1 _ _ h) ⟨va_cnB 2 hts gX1_treat_X3_bit_n32 rfl rfl rfl hE.2.2.1 (hts (.initialized RX3) (by decide +kernel)) (by decide +kernel) ⟨(Nat.le_of_ble_eq_true rfl), (Nat.le_of_ble_eq_true rfl)⟩, hts (.static yX3_bit) (by decide +kernel), trivial⟩ rfl hl.1 rfl (Nat.le_of_ble_eq_true rfl) dX1_treat_5 ⟨(Nat.le_of_ble_eq_true rfl), (Nat.le_of_ble_eq_true rfl)⟩ (fun x_3 σ_2 H locs h1 hM hS => ?_)
  replace h := h1
  clear h1
  refine lv_iconst (v := 1) hx hb dX1_treat_8 (by decide) ?_
  refine lv_icmp_ne (tgt := 16) hx hb dX1_treat_9 (by decide) (fun hc => ?_) (fun hc => ?_)
  · replace h := h.1 hc
    refine lv_aload_n hx hb dX1_treat_16 rfl (lv_at hl 0 rfl) ?_
    obtain ⟨hk_4, h⟩ := h
    refine gf1_4 hx hb hts inX1_treat_1 hown hE.1 hM hk_4 (hts (.fieldLink RX1 15 "WorkCoder$Rule" "barred" "J") (by decide +kernel)) dX1_treat_17 ?_
    refine lv_iload_n hx hb dX1_treat_20 rfl (lv_at hl 1 rfl) ?_
    refine clNi (As := [.long (mL σ_2 t 4), .int x1]) (rest := []) ⟨hx, hb, hml, hown, hts⟩ hM hE hS (ok_X3_bit l D cs A (mL σ_2 t 4) x1 _ _ h) ⟨va_cnB 2 hts gX1_treat_X3_bit_n32 rfl rfl rfl hE.2.2.1 (hts (.initialized RX3) (by decide +kernel)) (by decide +kernel) ⟨(Nat.le_of_ble_eq_true rfl), (Nat.le_of_ble_eq_true rfl)⟩, hts (.static yX3_bit) (by decide +kernel), trivial⟩ rfl hl.1 rfl (Nat.le_of_ble_eq_true rfl) dX1_treat_21 ⟨(Nat.le_of_ble_eq_true rfl), (Nat.le_of_ble_eq_true rfl)⟩ (fun x_6 σ_5 H locs h1 hM hS => ?_)
    replace h := h1
    clear h1
    refine lv_iconst (v := 1) hx hb dX1_treat_24 (by decide) ?_
    refine lv_icmp_ne (tgt := 32) hx hb dX1_treat_25 (by decide) (fun hc => ?_) (fun hc => ?_)
    · replace h := h.1 hc
      refine lv_iconst (v := 0) hx hb dX1_treat_32 (by decide) ?_
      refine lv_istore_n (i := 3) (lv' := [(3, .int 0), (0, .ref t), (1, .int x1), (2, .int x2)]) hx hb dX1_treat_33 rfl hl (by decide) rfl (fun ls hl => ?_)
      refine lv_aload_n hx hb dX1_treat_34 rfl (lv_at hl 1 rfl) ?_
      refine lv_aload_n hx hb dX1_treat_35 rfl (lv_at hl 1 rfl) ?_
      obtain ⟨hk_7, h⟩ := h
      refine gf1_3 hx hb hts inX1_treat_1 hown hE.1 hM hk_7 (hts (.fieldLink RX1 9 "WorkCoder$Rule" "needed" "J") (by decide +kernel)) dX1_treat_36 ?_
      refine lv_iload_n hx hb dX1_treat_39 rfl (lv_at hl 2 rfl) ?_
      refine lv_iload_n hx hb dX1_treat_40 rfl (lv_at hl 3 rfl) ?_
      refine lv_iconst (v := 1) hx hb dX1_treat_41 (by decide) ?_
      refine lv_icmp_ne (tgt := 49) hx hb dX1_treat_42 (by decide) (fun hc => ?_) (fun hc => ?_)
      · replace h := h.1 hc
        refine lv_iconst (v := 0) hx hb dX1_treat_49 (by decide) ?_
        exact oX1_treat_50 CX  _ _ _ _ _ _ _ _ _ _ h hM hS (lv_sub hl [1, 2, 3, 0] rfl)
      · replace h := h.2 hc
        refine lv_iconst (v := 1) hx hb dX1_treat_45 (by decide) ?_
        refine lv_goto (tgt := 50) hx hb dX1_treat_46 (by decide) ?_
        exact oX1_treat_50 CX  _ _ _ _ _ _ _ _ _ _ h hM hS (lv_sub hl [1, 2, 3, 0] rfl)
    · replace h := h.2 hc
      refine lv_iconst (v := 2) hx hb dX1_treat_28 (by decide) ?_
      refine lv_goto (tgt := 33) hx hb dX1_treat_29 (by decide) ?_
      refine lv_istore_n (i := 3) (lv' := [(3, .int 2), (0, .ref t), (1, .int x1), (2, .int x2)]) hx hb dX1_treat_33 rfl hl (by decide) rfl (fun ls hl => ?_)
      refine lv_aload_n hx hb dX1_treat_34 rfl (lv_at hl 1 rfl) ?_
      refine lv_aload_n hx hb dX1_treat_35 rfl (lv_at hl 1 rfl) ?_
      obtain ⟨hk_8, h⟩ := h
      refine gf1_3 hx hb hts inX1_treat_1 hown hE.1 hM hk_8 (hts (.fieldLink RX1 9 "WorkCoder$Rule" "needed" "J") (by decide +kernel)) dX1_treat_36 ?_
      refine lv_iload_n hx hb dX1_treat_39 rfl (lv_at hl 2 rfl) ?_
      refine lv_iload_n hx hb dX1_treat_40 rfl (lv_at hl 3 rfl) ?_
      refine lv_iconst (v := 1) hx hb dX1_treat_41 (by decide) ?_
      refine lv_icmp_ne (tgt := 49) hx hb dX1_treat_42 (by decide) (fun hc => ?_) (fun hc => ?_)
      · replace h := h.1 hc
        refine lv_iconst (v := 0) hx hb dX1_treat_49 (by decide) ?_
        exact oX1_treat_50 CX  _ _ _ _ _ _ _ _ _ _ h hM hS (lv_sub hl [1, 2, 3, 0] rfl)
      · replace h := h.2 hc
        refine lv_iconst (v := 1) hx hb dX1_treat_45 (by decide) ?_
        refine lv_goto (tgt := 50) hx hb dX1_treat_46 (by decide) ?_
        exact oX1_treat_50 CX  _ _ _ _ _ _ _ _ _ _ h hM hS (lv_sub hl [1, 2, 3, 0] rfl)
  · replace h := h.2 hc
    refine lv_iconst (v := 1) hx hb dX1_treat_12 (by decide) ?_
    refine lv_goto (tgt := 33) hx hb dX1_treat_13 (by decide) ?_
    refine lv_istore_n (i := 3) (lv' := [(3, .int 1), (0, .ref t), (1, .int x1), (2, .int x2)]) hx hb dX1_treat_33 rfl hl (by decide) rfl (fun ls hl => ?_)
    refine lv_aload_n hx hb dX1_treat_34 rfl (lv_at hl 1 rfl) ?_
    refine lv_aload_n hx hb dX1_treat_35 rfl (lv_at hl 1 rfl) ?_
    obtain ⟨hk_9, h⟩ := h
    refine gf1_3 hx hb hts inX1_treat_1 hown hE.1 hM hk_9 (hts (.fieldLink RX1 9 "WorkCoder$Rule" "needed" "J") (by decide +kernel)) dX1_treat_36 ?_
    refine lv_iload_n hx hb dX1_treat_39 rfl (lv_at hl 2 rfl) ?_
    refine lv_iload_n hx hb dX1_treat_40 rfl (lv_at hl 3 rfl) ?_
    refine lv_iconst (v := 1) hx hb dX1_treat_41 (by decide) ?_
    refine lv_icmp_ne (tgt := 49) hx hb dX1_treat_42 (by decide) (fun hc => ?_) (fun hc => ?_)
    · replace h := h.1 hc
      refine lv_iconst (v := 0) hx hb dX1_treat_49 (by decide) ?_
      exact oX1_treat_50 CX  _ _ _ _ _ _ _ _ _ _ h hM hS (lv_sub hl [1, 2, 3, 0] rfl)
    · replace h := h.2 hc
      refine lv_iconst (v := 1) hx hb dX1_treat_45 (by decide) ?_
      refine lv_goto (tgt := 50) hx hb dX1_treat_46 (by decide) ?_
      exact oX1_treat_50 CX  _ _ _ _ _ _ _ _ _ _ h hM hS (lv_sub hl [1, 2, 3, 0] rfl)
end S_X1_treat
set_option maxHeartbeats 4000000 in
set_option maxRecDepth 100000 in
theorem ok_X1_treat (l : Launch) (D : va_G) (cs : CS) (A : Nat → Prop) (t : Nat) (x1 : Int32) (x2 : Int32) (σ : MM) (k : Int32 → MM → Prop) (h : wX1_treat t x1 x2 σ k) : Met l yX1_treat wsX1_treat rmX1_treat (va_Pc [.ref t, .int x1, .int x2] (mP D cs A σ)) (va_Qi k (mB D cs A) A) 0 0 A := by
  refine Met.ofW (cc := cX1_treat) (maxL := 4) (ret := (some .int)) (by decide) rfl ?_
  intro p e s m args below meth c s₁ B hml hv
  obtain ⟨rfl, hM, hE⟩ := hv
  have CX : CXM p s m _ meth c cX1_treat 4 (some .int) "treat" RX1 wsX1_treat D cs A := ⟨B.exec, B.bytes, hml, B.returns, (name_of_methodNamed B.named B.method).1, findClass_of_methodNamed B.named, atoms_spec (ws := wsX1_treat) B.pre, B.notSynchronized, hE⟩
  have hl := lv_entry ([.ref t, .int x1, .int x2]) (n := 4) (Nat.le_of_ble_eq_true rfl)
  rw [lg_entry_eq]
  exact oX1_treat_0 CX x1 x2 σ _ _ _ h hM va_S.rf hl
/-! WorkCoder$Rule.fits(LWorkCoder$Item;)Z -/
abbrev rmX1_fits : Room := { frames := 1, cells := 0, slots := 0, locals := 22 }
theorem inX1_fits_0 : ∀ w ∈ wsX00, w ∈ wsX1_fits := fun _ h => List.mem_cons_of_mem _ (List.mem_append_right _ (h))
theorem inX1_fits_1 : ∀ w ∈ wsX10, w ∈ wsX1_fits := fun _ h => List.mem_cons_of_mem _ (List.mem_append_left _ (List.mem_append_right _ (h)))
section S_X1_fits
variable {p : Program} {l : Launch} {e : Env} {s : State} {m : MethodId} {args : Array Value} {below : List Frame} {meth : Method} {c : Code} {D : va_G} {cs : CS} {A : Nat → Prop}
set_option maxHeartbeats 4000000 in
set_option maxRecDepth 100000 in
theorem oX1_fits_0 {k : Int32 → MM → Prop} {t : Nat} (CX : CXM p s m args meth c cX1_fits 2 (some .boolean) "fits" RX1 wsX1_fits D cs A) : ∀ (r1 : Option Nat) (σ : MM) (H : Heap) (locs : List Loc) (ls : Array Slot), wX1_fits t r1 σ k → PH D cs A σ H → va_S A s.heap H locs → lv_has ls 2 [(0, .ref t), (1, va_rf r1)] → W p l e (headSpec wsX1_fits rmX1_fits).room s m args below meth c H locs 0 0 (MQ below (va_Qi k (mB D cs A) A) args s 0 0 A) (F0 m 0 ls []) := by
  intro r1 σ H locs ls h hM hS hl
  have ⟨hx, hb, hml, hr, hnm, hown, hts, hlocks, hE⟩ := CX
  unfold wX1_fits at h
  refine lv_aload_n hx hb dX1_fits_0 rfl (lv_at hl 0 rfl) ?_
  obtain ⟨hk_1, h⟩ := h
  refine gf1_5 hx hb hts inX1_fits_1 hown hE.1 hM hk_1 (hts (.fieldLink RX1 18 "WorkCoder$Rule" "dropped" "Z") (by decide +kernel)) dX1_fits_1 ?_
  refine lv_if_ne (tgt := 59) hx hb dX1_fits_4 (by decide) (fun hc => ?_) (fun hc => ?_)
  · replace h := h.1 hc
    refine lv_iconst (v := 0) hx hb dX1_fits_59 (by decide) ?_
    exact W.zret (v := 0) (ty := .boolean) hx hb hr rfl (fun t_ ht hW => ⟨⟨_, _, rfl, h, mB_of ht hM⟩, hS.F ht⟩) hS.2.2 dX1_fits_60
  · replace h := h.2 hc
    refine lv_aload_n hx hb dX1_fits_7 rfl (lv_at hl 0 rfl) ?_
    refine gf1_2 hx hb hts inX1_fits_1 hown hE.1 hM hk_1 (hts (.fieldLink RX1 29 "WorkCoder$Rule" "trades" "I") (by decide +kernel)) dX1_fits_8 ?_
    refine lv_i2l hx hb dX1_fits_11 (v := (mI σ t 2).toInt64) rfl ?_
    refine nl_aload_n hx hb dX1_fits_12 rfl (lv_at hl 1 rfl) ?_
    obtain ⟨a_2, rfl, h⟩ := h
    obtain ⟨hk_3, h⟩ := h
    refine gf0_0 hx hb hts inX1_fits_0 hown hE.1 hM hk_3 (hts (.fieldLink RX1 40 "WorkCoder$Item" "trade" "I") (by decide +kernel)) dX1_fits_13 ?_
    refine clNi (As := [.long ((mI σ t 2).toInt64), .int (mI σ a_2 0)]) (rest := []) ⟨hx, hb, hml, hown, hts⟩ hM hE hS (ok_X3_bit l D cs A ((mI σ t 2).toInt64) (mI σ a_2 0) _ _ h) ⟨va_cnB 2 hts gX1_fits_X3_bit_n32 rfl rfl rfl hE.2.2.1 (hts (.initialized RX3) (by decide +kernel)) (by decide +kernel) ⟨(Nat.le_of_ble_eq_true rfl), (Nat.le_of_ble_eq_true rfl)⟩, hts (.static yX3_bit) (by decide +kernel), trivial⟩ rfl hl.1 rfl (Nat.le_of_ble_eq_true rfl) dX1_fits_16 ⟨(Nat.le_of_ble_eq_true rfl), (Nat.le_of_ble_eq_true rfl)⟩ (fun x_5 σ_4 H locs h1 hM hS => ?_)
    replace h := h1
    clear h1
    refine lv_iconst (v := 1) hx hb dX1_fits_19 (by decide) ?_
    refine lv_icmp_ne (tgt := 59) hx hb dX1_fits_20 (by decide) (fun hc => ?_) (fun hc => ?_)
    · replace h := h.1 hc
      refine lv_iconst (v := 0) hx hb dX1_fits_59 (by decide) ?_
      exact W.zret (v := 0) (ty := .boolean) hx hb hr rfl (fun t_ ht hW => ⟨⟨_, _, rfl, h, mB_of ht hM⟩, hS.F ht⟩) hS.2.2 dX1_fits_60
    · replace h := h.2 hc
      refine lv_aload_n hx hb dX1_fits_23 rfl (lv_at hl 0 rfl) ?_
      obtain ⟨hk_6, h⟩ := h
      refine gf1_3 hx hb hts inX1_fits_1 hown hE.1 hM hk_6 (hts (.fieldLink RX1 9 "WorkCoder$Rule" "needed" "J") (by decide +kernel)) dX1_fits_24 ?_
      refine lv_aload_n hx hb dX1_fits_27 rfl (lv_at hl 1 rfl) ?_
      obtain ⟨hk_7, h⟩ := h
      refine gf0_3 hx hb hts inX1_fits_0 hown hE.1 hM hk_7 (hts (.fieldLink RX1 45 "WorkCoder$Item" "set" "J") (by decide +kernel)) dX1_fits_28 ?_
      refine lv_ldc2 (v := (-1)) hx hb hown (hts (.constantLong RX1 48 (-1)) (by decide +kernel)) dX1_fits_31 ?_
      refine lv_lxor hx hb dX1_fits_34 ?_
      refine lv_land hx hb dX1_fits_35 ?_
      refine lv_lconst (v := 0) hx hb dX1_fits_36 (by decide) ?_
      refine lc_ne (tgt := 59) hx hb dX1_fits_37 dX1_fits_38 (by decide) (fun hc => ?_) (fun hc => ?_)
      · replace h := h.1 hc
        refine lv_iconst (v := 0) hx hb dX1_fits_59 (by decide) ?_
        exact W.zret (v := 0) (ty := .boolean) hx hb hr rfl (fun t_ ht hW => ⟨⟨_, _, rfl, h, mB_of ht hM⟩, hS.F ht⟩) hS.2.2 dX1_fits_60
      · replace h := h.2 hc
        refine lv_aload_n hx hb dX1_fits_41 rfl (lv_at hl 0 rfl) ?_
        refine gf1_4 hx hb hts inX1_fits_1 hown hE.1 hM hk_6 (hts (.fieldLink RX1 15 "WorkCoder$Rule" "barred" "J") (by decide +kernel)) dX1_fits_42 ?_
        refine lv_aload_n hx hb dX1_fits_45 rfl (lv_at hl 1 rfl) ?_
        refine gf0_3 hx hb hts inX1_fits_0 hown hE.1 hM hk_7 (hts (.fieldLink RX1 45 "WorkCoder$Item" "set" "J") (by decide +kernel)) dX1_fits_46 ?_
        refine lv_land hx hb dX1_fits_49 ?_
        refine lv_lconst (v := 0) hx hb dX1_fits_50 (by decide) ?_
        refine lc_ne (tgt := 59) hx hb dX1_fits_51 dX1_fits_52 (by decide) (fun hc => ?_) (fun hc => ?_)
        · replace h := h.1 hc
          refine lv_iconst (v := 0) hx hb dX1_fits_59 (by decide) ?_
          exact W.zret (v := 0) (ty := .boolean) hx hb hr rfl (fun t_ ht hW => ⟨⟨_, _, rfl, h, mB_of ht hM⟩, hS.F ht⟩) hS.2.2 dX1_fits_60
        · replace h := h.2 hc
          refine lv_iconst (v := 1) hx hb dX1_fits_55 (by decide) ?_
          refine lv_goto (tgt := 60) hx hb dX1_fits_56 (by decide) ?_
          exact W.zret (v := 1) (ty := .boolean) hx hb hr rfl (fun t_ ht hW => ⟨⟨_, _, rfl, h, mB_of ht hM⟩, hS.F ht⟩) hS.2.2 dX1_fits_60
end S_X1_fits
set_option maxHeartbeats 4000000 in
set_option maxRecDepth 100000 in
theorem ok_X1_fits (l : Launch) (D : va_G) (cs : CS) (A : Nat → Prop) (t : Nat) (r1 : Option Nat) (σ : MM) (k : Int32 → MM → Prop) (h : wX1_fits t r1 σ k) : Met l yX1_fits wsX1_fits rmX1_fits (va_Pc [.ref t, va_rf r1] (mP D cs A σ)) (va_Qi k (mB D cs A) A) 0 0 A := by
  refine Met.ofW (cc := cX1_fits) (maxL := 2) (ret := (some .boolean)) (by decide) rfl ?_
  intro p e s m args below meth c s₁ B hml hv
  obtain ⟨rfl, hM, hE⟩ := hv
  have CX : CXM p s m _ meth c cX1_fits 2 (some .boolean) "fits" RX1 wsX1_fits D cs A := ⟨B.exec, B.bytes, hml, B.returns, (name_of_methodNamed B.named B.method).1, findClass_of_methodNamed B.named, atoms_spec (ws := wsX1_fits) B.pre, B.notSynchronized, hE⟩
  cases r1 with
  | none =>
    have hl := lv_entry ([.ref t, va_rf none]) (n := 2) (Nat.le_of_ble_eq_true rfl)
    rw [lg_entry_eq]
    exact oX1_fits_0 CX none σ _ _ _ h hM va_S.rf hl
  | some a0 =>
    have hl := lv_entry ([.ref t, va_rf (some a0)]) (n := 2) (Nat.le_of_ble_eq_true rfl)
    rw [lg_entry_eq]
    exact oX1_fits_0 CX (some a0) σ _ _ _ h hM va_S.rf hl
/-! WorkCoder$Rule.quarrelsWith(LWorkCoder$Rule;)Z -/
abbrev rmX1_quarrelsWith : Room := { frames := 0, cells := 0, slots := 0, locals := 0 }
theorem inX1_quarrelsWith_1 : ∀ w ∈ wsX10, w ∈ wsX1_quarrelsWith := fun _ h => List.mem_cons_of_mem _ (List.mem_append_right _ (h))
section S_X1_quarrelsWith
variable {p : Program} {l : Launch} {e : Env} {s : State} {m : MethodId} {args : Array Value} {below : List Frame} {meth : Method} {c : Code} {D : va_G} {cs : CS} {A : Nat → Prop}
set_option maxHeartbeats 4000000 in
set_option maxRecDepth 100000 in
theorem oX1_quarrelsWith_0 {k : Int32 → MM → Prop} {t : Nat} (CX : CXM p s m args meth c cX1_quarrelsWith 2 (some .boolean) "quarrelsWith" RX1 wsX1_quarrelsWith D cs A) : ∀ (r1 : Option Nat) (σ : MM) (H : Heap) (locs : List Loc) (ls : Array Slot), wX1_quarrelsWith t r1 σ k → PH D cs A σ H → va_S A s.heap H locs → lv_has ls 2 [(0, .ref t), (1, va_rf r1)] → W p l e (headSpec wsX1_quarrelsWith rmX1_quarrelsWith).room s m args below meth c H locs 0 0 (MQ below (va_Qi k (mB D cs A) A) args s 0 0 A) (F0 m 0 ls []) := by
  intro r1 σ H locs ls h hM hS hl
  have ⟨hx, hb, hml, hr, hnm, hown, hts, hlocks, hE⟩ := CX
  unfold wX1_quarrelsWith at h
  refine lv_aload_n hx hb dX1_quarrelsWith_0 rfl (lv_at hl 0 rfl) ?_
  obtain ⟨hk_1, h⟩ := h
  refine gf1_5 hx hb hts inX1_quarrelsWith_1 hown hE.1 hM hk_1 (hts (.fieldLink RX1 18 "WorkCoder$Rule" "dropped" "Z") (by decide +kernel)) dX1_quarrelsWith_1 ?_
  refine lv_if_ne (tgt := 80) hx hb dX1_quarrelsWith_4 (by decide) (fun hc => ?_) (fun hc => ?_)
  · replace h := h.1 hc
    refine lv_iconst (v := 0) hx hb dX1_quarrelsWith_80 (by decide) ?_
    exact W.zret (v := 0) (ty := .boolean) hx hb hr rfl (fun t_ ht hW => ⟨⟨_, _, rfl, h, mB_of ht hM⟩, hS.F ht⟩) hS.2.2 dX1_quarrelsWith_81
  · replace h := h.2 hc
    refine nl_aload_n hx hb dX1_quarrelsWith_7 rfl (lv_at hl 1 rfl) ?_
    obtain ⟨a_2, rfl, h⟩ := h
    obtain ⟨hk_3, h⟩ := h
    refine gf1_5 hx hb hts inX1_quarrelsWith_1 hown hE.1 hM hk_3 (hts (.fieldLink RX1 18 "WorkCoder$Rule" "dropped" "Z") (by decide +kernel)) dX1_quarrelsWith_8 ?_
    refine lv_if_ne (tgt := 80) hx hb dX1_quarrelsWith_11 (by decide) (fun hc => ?_) (fun hc => ?_)
    · replace h := h.1 hc
      refine lv_iconst (v := 0) hx hb dX1_quarrelsWith_80 (by decide) ?_
      exact W.zret (v := 0) (ty := .boolean) hx hb hr rfl (fun t_ ht hW => ⟨⟨_, _, rfl, h, mB_of ht hM⟩, hS.F ht⟩) hS.2.2 dX1_quarrelsWith_81
    · replace h := h.2 hc
      refine lv_aload_n hx hb dX1_quarrelsWith_14 rfl (lv_at hl 0 rfl) ?_
      refine gf1_0 hx hb hts inX1_quarrelsWith_1 hown hE.1 hM hk_1 (hts (.fieldLink RX1 22 "WorkCoder$Rule" "rank" "I") (by decide +kernel)) dX1_quarrelsWith_15 ?_
      refine lv_aload_n hx hb dX1_quarrelsWith_18 rfl (lv_at hl 1 rfl) ?_
      refine gf1_0 hx hb hts inX1_quarrelsWith_1 hown hE.1 hM hk_3 (hts (.fieldLink RX1 22 "WorkCoder$Rule" "rank" "I") (by decide +kernel)) dX1_quarrelsWith_19 ?_
      refine lv_icmp_ne (tgt := 80) hx hb dX1_quarrelsWith_22 (by decide) (fun hc => ?_) (fun hc => ?_)
      · replace h := h.1 hc
        refine lv_iconst (v := 0) hx hb dX1_quarrelsWith_80 (by decide) ?_
        exact W.zret (v := 0) (ty := .boolean) hx hb hr rfl (fun t_ ht hW => ⟨⟨_, _, rfl, h, mB_of ht hM⟩, hS.F ht⟩) hS.2.2 dX1_quarrelsWith_81
      · replace h := h.2 hc
        refine lv_aload_n hx hb dX1_quarrelsWith_25 rfl (lv_at hl 0 rfl) ?_
        refine gf1_1 hx hb hts inX1_quarrelsWith_1 hown hE.1 hM hk_1 (hts (.fieldLink RX1 26 "WorkCoder$Rule" "code" "I") (by decide +kernel)) dX1_quarrelsWith_26 ?_
        refine lv_aload_n hx hb dX1_quarrelsWith_29 rfl (lv_at hl 1 rfl) ?_
        refine gf1_1 hx hb hts inX1_quarrelsWith_1 hown hE.1 hM hk_3 (hts (.fieldLink RX1 26 "WorkCoder$Rule" "code" "I") (by decide +kernel)) dX1_quarrelsWith_30 ?_
        refine lv_icmp_eq (tgt := 80) hx hb dX1_quarrelsWith_33 (by decide) (fun hc => ?_) (fun hc => ?_)
        · replace h := h.1 hc
          refine lv_iconst (v := 0) hx hb dX1_quarrelsWith_80 (by decide) ?_
          exact W.zret (v := 0) (ty := .boolean) hx hb hr rfl (fun t_ ht hW => ⟨⟨_, _, rfl, h, mB_of ht hM⟩, hS.F ht⟩) hS.2.2 dX1_quarrelsWith_81
        · replace h := h.2 hc
          refine lv_aload_n hx hb dX1_quarrelsWith_36 rfl (lv_at hl 0 rfl) ?_
          refine gf1_2 hx hb hts inX1_quarrelsWith_1 hown hE.1 hM hk_1 (hts (.fieldLink RX1 29 "WorkCoder$Rule" "trades" "I") (by decide +kernel)) dX1_quarrelsWith_37 ?_
          refine lv_aload_n hx hb dX1_quarrelsWith_40 rfl (lv_at hl 1 rfl) ?_
          refine gf1_2 hx hb hts inX1_quarrelsWith_1 hown hE.1 hM hk_3 (hts (.fieldLink RX1 29 "WorkCoder$Rule" "trades" "I") (by decide +kernel)) dX1_quarrelsWith_41 ?_
          refine lv_iand hx hb dX1_quarrelsWith_44 ?_
          refine lv_if_eq (tgt := 80) hx hb dX1_quarrelsWith_45 (by decide) (fun hc => ?_) (fun hc => ?_)
          · replace h := h.1 hc
            refine lv_iconst (v := 0) hx hb dX1_quarrelsWith_80 (by decide) ?_
            exact W.zret (v := 0) (ty := .boolean) hx hb hr rfl (fun t_ ht hW => ⟨⟨_, _, rfl, h, mB_of ht hM⟩, hS.F ht⟩) hS.2.2 dX1_quarrelsWith_81
          · replace h := h.2 hc
            refine lv_aload_n hx hb dX1_quarrelsWith_48 rfl (lv_at hl 0 rfl) ?_
            refine gf1_3 hx hb hts inX1_quarrelsWith_1 hown hE.1 hM hk_1 (hts (.fieldLink RX1 9 "WorkCoder$Rule" "needed" "J") (by decide +kernel)) dX1_quarrelsWith_49 ?_
            refine lv_aload_n hx hb dX1_quarrelsWith_52 rfl (lv_at hl 1 rfl) ?_
            refine gf1_4 hx hb hts inX1_quarrelsWith_1 hown hE.1 hM hk_3 (hts (.fieldLink RX1 15 "WorkCoder$Rule" "barred" "J") (by decide +kernel)) dX1_quarrelsWith_53 ?_
            refine lv_land hx hb dX1_quarrelsWith_56 ?_
            refine lv_lconst (v := 0) hx hb dX1_quarrelsWith_57 (by decide) ?_
            refine lc_ne (tgt := 80) hx hb dX1_quarrelsWith_58 dX1_quarrelsWith_59 (by decide) (fun hc => ?_) (fun hc => ?_)
            · replace h := h.1 hc
              refine lv_iconst (v := 0) hx hb dX1_quarrelsWith_80 (by decide) ?_
              exact W.zret (v := 0) (ty := .boolean) hx hb hr rfl (fun t_ ht hW => ⟨⟨_, _, rfl, h, mB_of ht hM⟩, hS.F ht⟩) hS.2.2 dX1_quarrelsWith_81
            · replace h := h.2 hc
              refine lv_aload_n hx hb dX1_quarrelsWith_62 rfl (lv_at hl 0 rfl) ?_
              refine gf1_4 hx hb hts inX1_quarrelsWith_1 hown hE.1 hM hk_1 (hts (.fieldLink RX1 15 "WorkCoder$Rule" "barred" "J") (by decide +kernel)) dX1_quarrelsWith_63 ?_
              refine lv_aload_n hx hb dX1_quarrelsWith_66 rfl (lv_at hl 1 rfl) ?_
              refine gf1_3 hx hb hts inX1_quarrelsWith_1 hown hE.1 hM hk_3 (hts (.fieldLink RX1 9 "WorkCoder$Rule" "needed" "J") (by decide +kernel)) dX1_quarrelsWith_67 ?_
              refine lv_land hx hb dX1_quarrelsWith_70 ?_
              refine lv_lconst (v := 0) hx hb dX1_quarrelsWith_71 (by decide) ?_
              refine lc_ne (tgt := 80) hx hb dX1_quarrelsWith_72 dX1_quarrelsWith_73 (by decide) (fun hc => ?_) (fun hc => ?_)
              · replace h := h.1 hc
                refine lv_iconst (v := 0) hx hb dX1_quarrelsWith_80 (by decide) ?_
                exact W.zret (v := 0) (ty := .boolean) hx hb hr rfl (fun t_ ht hW => ⟨⟨_, _, rfl, h, mB_of ht hM⟩, hS.F ht⟩) hS.2.2 dX1_quarrelsWith_81
              · replace h := h.2 hc
                refine lv_iconst (v := 1) hx hb dX1_quarrelsWith_76 (by decide) ?_
                refine lv_goto (tgt := 81) hx hb dX1_quarrelsWith_77 (by decide) ?_
                exact W.zret (v := 1) (ty := .boolean) hx hb hr rfl (fun t_ ht hW => ⟨⟨_, _, rfl, h, mB_of ht hM⟩, hS.F ht⟩) hS.2.2 dX1_quarrelsWith_81
end S_X1_quarrelsWith
set_option maxHeartbeats 4000000 in
set_option maxRecDepth 100000 in
theorem ok_X1_quarrelsWith (l : Launch) (D : va_G) (cs : CS) (A : Nat → Prop) (t : Nat) (r1 : Option Nat) (σ : MM) (k : Int32 → MM → Prop) (h : wX1_quarrelsWith t r1 σ k) : Met l yX1_quarrelsWith wsX1_quarrelsWith rmX1_quarrelsWith (va_Pc [.ref t, va_rf r1] (mP D cs A σ)) (va_Qi k (mB D cs A) A) 0 0 A := by
  refine Met.ofW (cc := cX1_quarrelsWith) (maxL := 2) (ret := (some .boolean)) (by decide) rfl ?_
  intro p e s m args below meth c s₁ B hml hv
  obtain ⟨rfl, hM, hE⟩ := hv
  have CX : CXM p s m _ meth c cX1_quarrelsWith 2 (some .boolean) "quarrelsWith" RX1 wsX1_quarrelsWith D cs A := ⟨B.exec, B.bytes, hml, B.returns, (name_of_methodNamed B.named B.method).1, findClass_of_methodNamed B.named, atoms_spec (ws := wsX1_quarrelsWith) B.pre, B.notSynchronized, hE⟩
  cases r1 with
  | none =>
    have hl := lv_entry ([.ref t, va_rf none]) (n := 2) (Nat.le_of_ble_eq_true rfl)
    rw [lg_entry_eq]
    exact oX1_quarrelsWith_0 CX none σ _ _ _ h hM va_S.rf hl
  | some a0 =>
    have hl := lv_entry ([.ref t, va_rf (some a0)]) (n := 2) (Nat.le_of_ble_eq_true rfl)
    rw [lg_entry_eq]
    exact oX1_quarrelsWith_0 CX (some a0) σ _ _ _ h hM va_S.rf hl
/-! WorkCoder$Scheme.<init>(I)V -/
abbrev rmX2_init : Room := { frames := 1, cells := 1, slots := 40, locals := 25 }
theorem inX2_init_2 : ∀ w ∈ wsX20, w ∈ wsX2_init := fun _ h => List.mem_cons_of_mem _ (List.mem_append_right _ (h))
section S_X2_init
variable {p : Program} {l : Launch} {e : Env} {s : State} {m : MethodId} {args : Array Value} {below : List Frame} {meth : Method} {c : Code} {D : va_G} {cs : CS} {A : Nat → Prop}
set_option maxHeartbeats 4000000 in
set_option maxRecDepth 100000 in
theorem oX2_init_0 {k : MM → Prop} {t : Nat} (CX : CXM p s m args meth c cX2_init 2 none "<init>" RX2 wsX2_init D cs A) : ∀ (x1 : Int32) (σ : MM) (H : Heap) (locs : List Loc) (ls : Array Slot), wX2_init t x1 σ k → PH D cs A σ H → va_S A s.heap H locs → lv_has ls 2 [(0, .ref t), (1, .int x1)] → W p l e (headSpec wsX2_init rmX2_init).room s m args below meth c H locs 0 0 (MQ below (va_Qv k (mB D cs A) A) args s 1 40 A) (F0 m 0 ls []) := by
  intro x1 σ H locs ls h hM hS hl
  have ⟨hx, hb, hml, hr, hnm, hown, hts, hlocks, hE⟩ := CX
  unfold wX2_init at h
  refine lv_aload_n hx hb dX2_init_0 rfl (lv_at hl 0 rfl) ?_
  refine W.objInit hx hb hown (hts (.methodLink RX2 3 objectInit) (by decide +kernel)) (hts (.instanceMethod objectInit) (by decide +kernel)) (hts (.code objectInit ⟨#[0xb1]⟩ 1 none) (by decide +kernel)) rfl (by rw [hml]; exact hl.1) rfl dX2_init_1 (Nat.le_of_ble_eq_true rfl) (Nat.le_of_ble_eq_true rfl) ?_
  refine lv_aload_n hx hb dX2_init_4 rfl (lv_at hl 0 rfl) ?_
  refine lv_bipush (v := 40) hx hb dX2_init_5 (by decide) ?_
  refine naI hx hb (hts (.arrayClass .int) (by decide +kernel)) hE.1 hM hS hE.2.1 (N := 40) (by decide) (by decide) (by decide) (Nat.le_of_ble_eq_true rfl) (Nat.le_of_ble_eq_true rfl) dX2_init_7 (fun a_1 H ha_1 hM hS => ?_)
  replace h := h a_1 ha_1 _ rfl
  have hk_3 := mK_new (kd := 6) (n := 40) ha_1
  obtain ⟨hk_4, h⟩ := h
  refine pf2_0 hx hb hts inX2_init_2 hown hE.1 hM hS hk_4 (hts (.fieldLink RX2 9 "WorkCoder$Scheme" "above" "[I") (by decide +kernel)) hnm rfl dX2_init_9 (fun H locs hM hS => ?_)
  replace h := h _ rfl
  refine lv_aload_n hx hb dX2_init_12 rfl (lv_at hl 0 rfl) ?_
  refine lv_iconst (v := 0) hx hb dX2_init_13 (by decide) ?_
  refine pf2_2 hx hb hts inX2_init_2 hown hE.1 hM hS hk_4 (hts (.fieldLink RX2 15 "WorkCoder$Scheme" "size" "I") (by decide +kernel)) dX2_init_14 (fun H locs hM hS => ?_)
  replace h := h _ rfl
  refine lv_aload_n hx hb dX2_init_17 rfl (lv_at hl 0 rfl) ?_
  refine lv_iload_n hx hb dX2_init_18 rfl (lv_at hl 1 rfl) ?_
  refine lv_bipush (v := 40) hx hb dX2_init_19 (by decide) ?_
  refine va_mmin hx hb (by rw [hml]; exact hl.1.symm) hown (hts (.methodLink RX2 19 Lib.Math.min.name) (by decide +kernel)) (hts (.static Lib.Math.min.name) (by decide +kernel)) (hts (.initialized "java/lang/Math") (by decide +kernel)) (hts (.code Lib.Math.min.name Lib.Math.min.code 2 (some .int)) (by decide +kernel)) (Nat.le_of_ble_eq_true rfl) (cat_le13 (Nat.le_of_ble_eq_true rfl)) (Nat.le_of_ble_eq_true rfl) (Nat.le_of_ble_eq_true rfl) dX2_init_21 ?_
  refine pf2_1 hx hb hts inX2_init_2 hown hE.1 hM hS hk_4 (hts (.fieldLink RX2 25 "WorkCoder$Scheme" "room" "I") (by decide +kernel)) hnm rfl dX2_init_24 (fun H locs hM hS => ?_)
  replace h := h _ rfl
  refine W.widen (k := 1) (n := 40) (Nat.le_of_ble_eq_true rfl) (Nat.le_of_ble_eq_true rfl) ?_
  exact W.vret hx hb hr (fun t_ ht hW => ⟨⟨_, rfl, h, mB_of ht hM⟩, hS.F ht⟩) hS.2.2 dX2_init_27
end S_X2_init
set_option maxHeartbeats 4000000 in
set_option maxRecDepth 100000 in
theorem ok_X2_init (l : Launch) (D : va_G) (cs : CS) (A : Nat → Prop) (t : Nat) (x1 : Int32) (σ : MM) (k : MM → Prop) (h : wX2_init t x1 σ k) : Met l yX2_init wsX2_init rmX2_init (va_Pc [.ref t, .int x1] (mP D cs A σ)) (va_Qv k (mB D cs A) A) 1 40 A := by
  refine Met.ofW (cc := cX2_init) (maxL := 2) (ret := none) (by decide) rfl ?_
  intro p e s m args below meth c s₁ B hml hv
  obtain ⟨rfl, hM, hE⟩ := hv
  have CX : CXM p s m _ meth c cX2_init 2 none "<init>" RX2 wsX2_init D cs A := ⟨B.exec, B.bytes, hml, B.returns, (name_of_methodNamed B.named B.method).1, findClass_of_methodNamed B.named, atoms_spec (ws := wsX2_init) B.pre, B.notSynchronized, hE⟩
  have hl := lv_entry ([.ref t, .int x1]) (n := 2) (Nat.le_of_ble_eq_true rfl)
  rw [lg_entry_eq]
  exact oX2_init_0 CX x1 σ _ _ _ h hM va_S.rf hl
/-! WorkCoder$Scheme.has(I)Z -/
abbrev rmX2_has : Room := { frames := 0, cells := 0, slots := 0, locals := 0 }
theorem inX2_has_2 : ∀ w ∈ wsX20, w ∈ wsX2_has := fun _ h => List.mem_cons_of_mem _ (List.mem_append_right _ (h))
section S_X2_has
variable {p : Program} {l : Launch} {e : Env} {s : State} {m : MethodId} {args : Array Value} {below : List Frame} {meth : Method} {c : Code} {D : va_G} {cs : CS} {A : Nat → Prop}
set_option maxHeartbeats 4000000 in
set_option maxRecDepth 100000 in
theorem oX2_has_0 {k : Int32 → MM → Prop} {t : Nat} (CX : CXM p s m args meth c cX2_has 2 (some .boolean) "has" RX2 wsX2_has D cs A) : ∀ (x1 : Int32) (σ : MM) (H : Heap) (locs : List Loc) (ls : Array Slot), wX2_has t x1 σ k → PH D cs A σ H → va_S A s.heap H locs → lv_has ls 2 [(0, .ref t), (1, .int x1)] → W p l e (headSpec wsX2_has rmX2_has).room s m args below meth c H locs 0 0 (MQ below (va_Qi k (mB D cs A) A) args s 0 0 A) (F0 m 0 ls []) := by
  intro x1 σ H locs ls h hM hS hl
  have ⟨hx, hb, hml, hr, hnm, hown, hts, hlocks, hE⟩ := CX
  unfold wX2_has at h
  refine lv_iload_n hx hb dX2_has_0 rfl (lv_at hl 1 rfl) ?_
  refine lv_if_lt (tgt := 25) hx hb dX2_has_1 (by decide) (fun hc => ?_) (fun hc => ?_)
  · replace h := h.1 hc
    refine lv_iconst (v := 0) hx hb dX2_has_25 (by decide) ?_
    exact W.zret (v := 0) (ty := .boolean) hx hb hr rfl (fun t_ ht hW => ⟨⟨_, _, rfl, h, mB_of ht hM⟩, hS.F ht⟩) hS.2.2 dX2_has_26
  · replace h := h.2 hc
    refine lv_iload_n hx hb dX2_has_4 rfl (lv_at hl 1 rfl) ?_
    refine lv_aload_n hx hb dX2_has_5 rfl (lv_at hl 0 rfl) ?_
    obtain ⟨hk_1, h⟩ := h
    refine gf2_2 hx hb hts inX2_has_2 hown hE.1 hM hk_1 (hts (.fieldLink RX2 15 "WorkCoder$Scheme" "size" "I") (by decide +kernel)) dX2_has_6 ?_
    refine lv_icmp_ge (tgt := 25) hx hb dX2_has_9 (by decide) (fun hc => ?_) (fun hc => ?_)
    · replace h := h.1 hc
      refine lv_iconst (v := 0) hx hb dX2_has_25 (by decide) ?_
      exact W.zret (v := 0) (ty := .boolean) hx hb hr rfl (fun t_ ht hW => ⟨⟨_, _, rfl, h, mB_of ht hM⟩, hS.F ht⟩) hS.2.2 dX2_has_26
    · replace h := h.2 hc
      refine lv_iload_n hx hb dX2_has_12 rfl (lv_at hl 1 rfl) ?_
      refine lv_aload_n hx hb dX2_has_13 rfl (lv_at hl 0 rfl) ?_
      refine gf2_0 hx hb hts inX2_has_2 hown hE.1 hM hk_1 (hts (.fieldLink RX2 9 "WorkCoder$Scheme" "above" "[I") (by decide +kernel)) dX2_has_14 (fun r_2 er_2 => ?_)
      replace h := h r_2 er_2
      clear er_2
      obtain ⟨a_3, rfl, h⟩ := h
      obtain ⟨hk_4, h⟩ := h
      refine mm_alen6 hx hb hE.1 hM hk_4 dX2_has_17 ?_
      refine lv_icmp_ge (tgt := 25) hx hb dX2_has_18 (by decide) (fun hc => ?_) (fun hc => ?_)
      · replace h := h.1 hc
        refine lv_iconst (v := 0) hx hb dX2_has_25 (by decide) ?_
        exact W.zret (v := 0) (ty := .boolean) hx hb hr rfl (fun t_ ht hW => ⟨⟨_, _, rfl, h, mB_of ht hM⟩, hS.F ht⟩) hS.2.2 dX2_has_26
      · replace h := h.2 hc
        refine lv_iconst (v := 1) hx hb dX2_has_21 (by decide) ?_
        refine lv_goto (tgt := 26) hx hb dX2_has_22 (by decide) ?_
        exact W.zret (v := 1) (ty := .boolean) hx hb hr rfl (fun t_ ht hW => ⟨⟨_, _, rfl, h, mB_of ht hM⟩, hS.F ht⟩) hS.2.2 dX2_has_26
end S_X2_has
set_option maxHeartbeats 4000000 in
set_option maxRecDepth 100000 in
theorem ok_X2_has (l : Launch) (D : va_G) (cs : CS) (A : Nat → Prop) (t : Nat) (x1 : Int32) (σ : MM) (k : Int32 → MM → Prop) (h : wX2_has t x1 σ k) : Met l yX2_has wsX2_has rmX2_has (va_Pc [.ref t, .int x1] (mP D cs A σ)) (va_Qi k (mB D cs A) A) 0 0 A := by
  refine Met.ofW (cc := cX2_has) (maxL := 2) (ret := (some .boolean)) (by decide) rfl ?_
  intro p e s m args below meth c s₁ B hml hv
  obtain ⟨rfl, hM, hE⟩ := hv
  have CX : CXM p s m _ meth c cX2_has 2 (some .boolean) "has" RX2 wsX2_has D cs A := ⟨B.exec, B.bytes, hml, B.returns, (name_of_methodNamed B.named B.method).1, findClass_of_methodNamed B.named, atoms_spec (ws := wsX2_has) B.pre, B.notSynchronized, hE⟩
  have hl := lv_entry ([.ref t, .int x1]) (n := 2) (Nat.le_of_ble_eq_true rfl)
  rw [lg_entry_eq]
  exact oX2_has_0 CX x1 σ _ _ _ h hM va_S.rf hl
/-! WorkCoder$Scheme.grow(I)I -/
abbrev rmX2_grow : Room := { frames := 1, cells := 0, slots := 0, locals := 21 }
theorem inX2_grow_2 : ∀ w ∈ wsX20, w ∈ wsX2_grow := fun _ h => List.mem_cons_of_mem _ (List.mem_append_right _ (h))
section S_X2_grow
variable {p : Program} {l : Launch} {e : Env} {s : State} {m : MethodId} {args : Array Value} {below : List Frame} {meth : Method} {c : Code} {D : va_G} {cs : CS} {A : Nat → Prop}
set_option maxHeartbeats 4000000 in
set_option maxRecDepth 100000 in
theorem oX2_grow_15 {k : Int32 → MM → Prop} {t : Nat} (CX : CXM p s m args meth c cX2_grow 2 (some .int) "grow" RX2 wsX2_grow D cs A) : ∀ (x1 : Int32) (σ : MM) (H : Heap) (locs : List Loc) (ls : Array Slot), wX2_grow_15 k t  x1 σ → PH D cs A σ H → va_S A s.heap H locs → lv_has ls 2 [(0, .ref t), (1, .int x1)] → W p l e (headSpec wsX2_grow rmX2_grow).room s m args below meth c H locs 0 0 (MQ below (va_Qi k (mB D cs A) A) args s 0 0 A) (F0 m 15 ls []) := by
  intro x1 σ H locs ls h hM hS hl
  have ⟨hx, hb, hml, hr, hnm, hown, hts, hlocks, hE⟩ := CX
  unfold wX2_grow_15 at h
  refine lv_aload_n hx hb dX2_grow_15 rfl (lv_at hl 0 rfl) ?_
  obtain ⟨hk_1, h⟩ := h
  refine gf2_2 hx hb hts inX2_grow_2 hown hE.1 hM hk_1 (hts (.fieldLink RX2 15 "WorkCoder$Scheme" "size" "I") (by decide +kernel)) dX2_grow_16 ?_
  refine lv_aload_n hx hb dX2_grow_19 rfl (lv_at hl 0 rfl) ?_
  refine gf2_1 hx hb hts inX2_grow_2 hown hE.1 hM hk_1 (hts (.fieldLink RX2 25 "WorkCoder$Scheme" "room" "I") (by decide +kernel)) dX2_grow_20 ?_
  refine lv_icmp_ge (tgt := 38) hx hb dX2_grow_23 (by decide) (fun hc => ?_) (fun hc => ?_)
  · replace h := h.1 hc
    refine lv_bipush (v := (-3)) hx hb dX2_grow_38 (by decide) ?_
    exact W.iret (v := (-3)) hx hb hr (fun t_ ht hW => ⟨⟨_, _, rfl, h, mB_of ht hM⟩, hS.F ht⟩) hS.2.2 dX2_grow_40
  · replace h := h.2 hc
    refine lv_aload_n hx hb dX2_grow_26 rfl (lv_at hl 0 rfl) ?_
    refine gf2_2 hx hb hts inX2_grow_2 hown hE.1 hM hk_1 (hts (.fieldLink RX2 15 "WorkCoder$Scheme" "size" "I") (by decide +kernel)) dX2_grow_27 ?_
    refine lv_aload_n hx hb dX2_grow_30 rfl (lv_at hl 0 rfl) ?_
    refine gf2_0 hx hb hts inX2_grow_2 hown hE.1 hM hk_1 (hts (.fieldLink RX2 9 "WorkCoder$Scheme" "above" "[I") (by decide +kernel)) dX2_grow_31 (fun r_2 er_2 => ?_)
    replace h := h r_2 er_2
    clear er_2
    obtain ⟨a_3, rfl, h⟩ := h
    obtain ⟨hk_4, h⟩ := h
    refine mm_alen6 hx hb hE.1 hM hk_4 dX2_grow_34 ?_
    refine lv_icmp_lt (tgt := 41) hx hb dX2_grow_35 (by decide) (fun hc => ?_) (fun hc => ?_)
    · replace h := h.1 hc
      refine lv_aload_n hx hb dX2_grow_41 rfl (lv_at hl 0 rfl) ?_
      refine gf2_0 hx hb hts inX2_grow_2 hown hE.1 hM hk_1 (hts (.fieldLink RX2 9 "WorkCoder$Scheme" "above" "[I") (by decide +kernel)) dX2_grow_42 (fun r_5 er_5 => ?_)
      replace h := h r_5 er_5
      clear er_5
      refine lv_aload_n hx hb dX2_grow_45 rfl (lv_at hl 0 rfl) ?_
      refine gf2_2 hx hb hts inX2_grow_2 hown hE.1 hM hk_1 (hts (.fieldLink RX2 15 "WorkCoder$Scheme" "size" "I") (by decide +kernel)) dX2_grow_46 ?_
      refine lv_iload_n hx hb dX2_grow_49 rfl (lv_at hl 1 rfl) ?_
      obtain ⟨a_6, rfl, h⟩ := h
      obtain ⟨hk_7, h⟩ := h
      obtain ⟨hv_8, h⟩ := h
      refine mm_iast hx hb hE.1 hM hS hk_7 hv_8 dX2_grow_50 (fun H locs hM hS => ?_)
      replace h := h _ rfl
      refine lv_aload_n hx hb dX2_grow_51 rfl (lv_at hl 0 rfl) ?_
      refine lv_dup hx hb dX2_grow_52 rfl ?_
      refine gf2_2 hx hb hts inX2_grow_2 hown hE.1 hM hk_1 (hts (.fieldLink RX2 15 "WorkCoder$Scheme" "size" "I") (by decide +kernel)) dX2_grow_53 ?_
      refine lv_iconst (v := 1) hx hb dX2_grow_56 (by decide) ?_
      refine lv_iadd hx hb dX2_grow_57 ?_
      refine pf2_2 hx hb hts inX2_grow_2 hown hE.1 hM hS hk_1 (hts (.fieldLink RX2 15 "WorkCoder$Scheme" "size" "I") (by decide +kernel)) dX2_grow_58 (fun H locs hM hS => ?_)
      replace h := h _ rfl
      refine lv_aload_n hx hb dX2_grow_61 rfl (lv_at hl 0 rfl) ?_
      refine gf2_2 hx hb hts inX2_grow_2 hown hE.1 hM hk_1 (hts (.fieldLink RX2 15 "WorkCoder$Scheme" "size" "I") (by decide +kernel)) dX2_grow_62 ?_
      refine lv_iconst (v := 1) hx hb dX2_grow_65 (by decide) ?_
      refine lv_isub hx hb dX2_grow_66 ?_
      exact W.iret (v := (mI (sI (sI σ a_6 (ix (mI σ t 2)) x1) t 2 ((mI (sI σ a_6 (ix (mI σ t 2)) x1) t 2) + 1)) t 2) - 1) hx hb hr (fun t_ ht hW => ⟨⟨_, _, rfl, h, mB_of ht hM⟩, hS.F ht⟩) hS.2.2 dX2_grow_67
    · replace h := h.2 hc
      refine lv_bipush (v := (-3)) hx hb dX2_grow_38 (by decide) ?_
      exact W.iret (v := (-3)) hx hb hr (fun t_ ht hW => ⟨⟨_, _, rfl, h, mB_of ht hM⟩, hS.F ht⟩) hS.2.2 dX2_grow_40
set_option maxHeartbeats 4000000 in
set_option maxRecDepth 100000 in
theorem oX2_grow_0 {k : Int32 → MM → Prop} {t : Nat} (CX : CXM p s m args meth c cX2_grow 2 (some .int) "grow" RX2 wsX2_grow D cs A) : ∀ (x1 : Int32) (σ : MM) (H : Heap) (locs : List Loc) (ls : Array Slot), wX2_grow t x1 σ k → PH D cs A σ H → va_S A s.heap H locs → lv_has ls 2 [(0, .ref t), (1, .int x1)] → W p l e (headSpec wsX2_grow rmX2_grow).room s m args below meth c H locs 0 0 (MQ below (va_Qi k (mB D cs A) A) args s 0 0 A) (F0 m 0 ls []) := by
  intro x1 σ H locs ls h hM hS hl
  have ⟨hx, hb, hml, hr, hnm, hown, hts, hlocks, hE⟩ := CX
  unfold wX2_grow at h
  refine lv_iload_n hx hb dX2_grow_0 rfl (lv_at hl 1 rfl) ?_
  refine lv_iconst (v := (-1)) hx hb dX2_grow_1 (by decide) ?_
  refine lv_icmp_eq (tgt := 15) hx hb dX2_grow_2 (by decide) (fun hc => ?_) (fun hc => ?_)
  · replace h := h.1 hc
    exact oX2_grow_15 CX  _ _ _ _ _ h hM hS (lv_sub hl [0, 1] rfl)
  · replace h := h.2 hc
    refine lv_aload_n hx hb dX2_grow_5 rfl (lv_at hl 0 rfl) ?_
    refine lv_iload_n hx hb dX2_grow_6 rfl (lv_at hl 1 rfl) ?_
    obtain ⟨hk_1, h⟩ := h
    refine clVi (C := RX2) (b := t) (As := [.int x1]) (rest := []) ⟨hx, hb, hml, hown, hts⟩ hM hE hS (ok_X2_has l D cs A t x1 _ _ h) (cwV 1 hts gX2_grow_X2_has rfl rfl rfl (by decide +kernel) ⟨(Nat.le_of_ble_eq_true rfl), (Nat.le_of_ble_eq_true rfl)⟩) (rc2 hM hE.1 hk_1) rfl hl.1 rfl (Nat.le_of_ble_eq_true rfl) dX2_grow_7 ⟨(Nat.le_of_ble_eq_true rfl), (Nat.le_of_ble_eq_true rfl)⟩ (fun x_3 σ_2 H locs h1 hM hS => ?_)
    replace h := h1
    clear h1
    refine lv_if_ne (tgt := 15) hx hb dX2_grow_10 (by decide) (fun hc => ?_) (fun hc => ?_)
    · replace h := h.1 hc
      exact oX2_grow_15 CX  _ _ _ _ _ h hM hS (lv_sub hl [0, 1] rfl)
    · replace h := h.2 hc
      refine lv_iconst (v := (-1)) hx hb dX2_grow_13 (by decide) ?_
      exact W.iret (v := (-1)) hx hb hr (fun t_ ht hW => ⟨⟨_, _, rfl, h, mB_of ht hM⟩, hS.F ht⟩) hS.2.2 dX2_grow_14
end S_X2_grow
set_option maxHeartbeats 4000000 in
set_option maxRecDepth 100000 in
theorem ok_X2_grow (l : Launch) (D : va_G) (cs : CS) (A : Nat → Prop) (t : Nat) (x1 : Int32) (σ : MM) (k : Int32 → MM → Prop) (h : wX2_grow t x1 σ k) : Met l yX2_grow wsX2_grow rmX2_grow (va_Pc [.ref t, .int x1] (mP D cs A σ)) (va_Qi k (mB D cs A) A) 0 0 A := by
  refine Met.ofW (cc := cX2_grow) (maxL := 2) (ret := (some .int)) (by decide) rfl ?_
  intro p e s m args below meth c s₁ B hml hv
  obtain ⟨rfl, hM, hE⟩ := hv
  have CX : CXM p s m _ meth c cX2_grow 2 (some .int) "grow" RX2 wsX2_grow D cs A := ⟨B.exec, B.bytes, hml, B.returns, (name_of_methodNamed B.named B.method).1, findClass_of_methodNamed B.named, atoms_spec (ws := wsX2_grow) B.pre, B.notSynchronized, hE⟩
  have hl := lv_entry ([.ref t, .int x1]) (n := 2) (Nat.le_of_ble_eq_true rfl)
  rw [lg_entry_eq]
  exact oX2_grow_0 CX x1 σ _ _ _ h hM va_S.rf hl
/-! WorkCoder$Scheme.below(J)J -/
abbrev rmX2_below : Room := { frames := 1, cells := 0, slots := 0, locals := 22 }
theorem inX2_below_2 : ∀ w ∈ wsX20, w ∈ wsX2_below := fun _ h => List.mem_cons_of_mem _ (List.mem_append_right _ (h))
section S_X2_below
variable {p : Program} {l : Launch} {e : Env} {s : State} {m : MethodId} {args : Array Value} {below : List Frame} {meth : Method} {c : Code} {D : va_G} {cs : CS} {A : Nat → Prop}
set_option maxHeartbeats 4000000 in
set_option maxRecDepth 100000 in
theorem oX2_below_5 {k : Int64 → MM → Prop} {t : Nat} (CX : CXM p s m args meth c cX2_below 6 (some .long) "below" RX2 wsX2_below D cs A) : ∀ (n : Nat), ∀ (y3 : Int64) (x5 : Int32) (σ : MM) (H : Heap) (locs : List Loc) (ls : Array Slot), wX2_below_5 k t  n y3 x5 σ → PH D cs A σ H → va_S A s.heap H locs → lv_has ls 6 [(0, .ref t), (3, .long y3), (5, .int x5)] → W p l e (headSpec wsX2_below rmX2_below).room s m args below meth c H locs 0 0 (MQ below (va_Ql k (mB D cs A) A) args s 0 0 A) (F0 m 5 ls []) := by
  intro n
  induction n with
  | zero => intro y3 x5 σ H locs ls h; exact h.elim
  | succ n ih =>
    intro y3 x5 σ H locs ls h hM hS hl
    have ⟨hx, hb, hml, hr, hnm, hown, hts, hlocks, hE⟩ := CX
    unfold wX2_below_5 at h
    refine lv_iload hx hb dX2_below_5 (lv_at hl 2 rfl) ?_
    refine lv_aload_n hx hb dX2_below_7 rfl (lv_at hl 0 rfl) ?_
    obtain ⟨hk_1, h⟩ := h
    refine gf2_2 hx hb hts inX2_below_2 hown hE.1 hM hk_1 (hts (.fieldLink RX2 15 "WorkCoder$Scheme" "size" "I") (by decide +kernel)) dX2_below_8 ?_
    refine lv_icmp_ge (tgt := 63) hx hb dX2_below_11 (by decide) (fun hc => ?_) (fun hc => ?_)
    · replace h := h.1 hc
      refine lv_lload_n hx hb dX2_below_63 rfl (lv_at hl 1 rfl) ?_
      exact W.lret (v := y3) hx hb hr (fun t_ ht hW => ⟨⟨_, _, rfl, h, mB_of ht hM⟩, hS.F ht⟩) hS.2.2 dX2_below_64
    · replace h := h.2 hc
      refine lv_iload hx hb dX2_below_14 (lv_at hl 2 rfl) ?_
      refine lv_aload_n hx hb dX2_below_16 rfl (lv_at hl 0 rfl) ?_
      refine gf2_0 hx hb hts inX2_below_2 hown hE.1 hM hk_1 (hts (.fieldLink RX2 9 "WorkCoder$Scheme" "above" "[I") (by decide +kernel)) dX2_below_17 (fun r_2 er_2 => ?_)
      replace h := h r_2 er_2
      clear er_2
      obtain ⟨a_3, rfl, h⟩ := h
      obtain ⟨hk_4, h⟩ := h
      refine mm_alen6 hx hb hE.1 hM hk_4 dX2_below_20 ?_
      refine lv_icmp_ge (tgt := 63) hx hb dX2_below_21 (by decide) (fun hc => ?_) (fun hc => ?_)
      · replace h := h.1 hc
        refine lv_lload_n hx hb dX2_below_63 rfl (lv_at hl 1 rfl) ?_
        exact W.lret (v := y3) hx hb hr (fun t_ ht hW => ⟨⟨_, _, rfl, h, mB_of ht hM⟩, hS.F ht⟩) hS.2.2 dX2_below_64
      · replace h := h.2 hc
        refine lv_aload_n hx hb dX2_below_24 rfl (lv_at hl 0 rfl) ?_
        refine gf2_0 hx hb hts inX2_below_2 hown hE.1 hM hk_1 (hts (.fieldLink RX2 9 "WorkCoder$Scheme" "above" "[I") (by decide +kernel)) dX2_below_25 (fun r_5 er_5 => ?_)
        replace h := h r_5 er_5
        clear er_5
        refine lv_iload hx hb dX2_below_28 (lv_at hl 2 rfl) ?_
        obtain ⟨a_6, rfl, h⟩ := h
        obtain ⟨hk_7, h⟩ := h
        obtain ⟨hv_8, h⟩ := h
        refine mm_iald hx hb hE.1 hM hk_7 hv_8 dX2_below_30 ?_
        refine lv_iconst (v := (-1)) hx hb dX2_below_31 (by decide) ?_
        refine lv_icmp_eq (tgt := 57) hx hb dX2_below_32 (by decide) (fun hc => ?_) (fun hc => ?_)
        · replace h := h.1 hc
          obtain ⟨x_9, ex_9⟩ : ∃ y : Int32, y = x5 + 1 := ⟨_, rfl⟩
          replace h := h x_9 ex_9
          refine lv_iinc (v := x_9) (lv' := [(5, .int x_9), (0, .ref t), (3, .long y3)]) hx hb dX2_below_57 hl (k := 2) rfl (by rw [ex_9]; rfl) (by decide) rfl (fun ls hl => ?_)
          refine lv_goto (tgt := 5) hx hb dX2_below_60 (by decide) ?_
          exact ih _ _ _ _ _ _ h hM hS (lv_sub hl [1, 2, 0] rfl)
        · replace h := h.2 hc
          refine lv_lload_n hx hb dX2_below_35 rfl (lv_at hl 1 rfl) ?_
          refine lv_aload_n hx hb dX2_below_36 rfl (lv_at hl 0 rfl) ?_
          refine gf2_0 hx hb hts inX2_below_2 hown hE.1 hM hk_1 (hts (.fieldLink RX2 9 "WorkCoder$Scheme" "above" "[I") (by decide +kernel)) dX2_below_37 (fun r_10 er_10 => ?_)
          replace h := h r_10 er_10
          clear er_10
          refine lv_iload hx hb dX2_below_40 (lv_at hl 2 rfl) ?_
          obtain ⟨a_11, rfl, h⟩ := h
          obtain ⟨hk_12, h⟩ := h
          obtain ⟨hv_13, h⟩ := h
          refine mm_iald hx hb hE.1 hM hk_12 hv_13 dX2_below_42 ?_
          refine clNi (As := [.long y3, .int (mI σ a_11 (ix x5))]) (rest := []) ⟨hx, hb, hml, hown, hts⟩ hM hE hS (ok_X3_bit l D cs A y3 (mI σ a_11 (ix x5)) _ _ h) ⟨va_cnB 2 hts gX2_below_X3_bit_n32 rfl rfl rfl hE.2.2.2.2.1 (hts (.initialized RX3) (by decide +kernel)) (by decide +kernel) ⟨(Nat.le_of_ble_eq_true rfl), (Nat.le_of_ble_eq_true rfl)⟩, hts (.static yX3_bit) (by decide +kernel), trivial⟩ rfl hl.1 rfl (Nat.le_of_ble_eq_true rfl) dX2_below_43 ⟨(Nat.le_of_ble_eq_true rfl), (Nat.le_of_ble_eq_true rfl)⟩ (fun x_15 σ_14 H locs h1 hM hS => ?_)
          replace h := h1
          clear h1
          refine lv_iconst (v := 1) hx hb dX2_below_46 (by decide) ?_
          refine lv_icmp_ne (tgt := 57) hx hb dX2_below_47 (by decide) (fun hc => ?_) (fun hc => ?_)
          · replace h := h.1 hc
            obtain ⟨x_16, ex_16⟩ : ∃ y : Int32, y = x5 + 1 := ⟨_, rfl⟩
            replace h := h x_16 ex_16
            refine lv_iinc (v := x_16) (lv' := [(5, .int x_16), (0, .ref t), (3, .long y3)]) hx hb dX2_below_57 hl (k := 2) rfl (by rw [ex_16]; rfl) (by decide) rfl (fun ls hl => ?_)
            refine lv_goto (tgt := 5) hx hb dX2_below_60 (by decide) ?_
            exact ih _ _ _ _ _ _ h hM hS (lv_sub hl [1, 2, 0] rfl)
          · replace h := h.2 hc
            refine lv_lload_n hx hb dX2_below_50 rfl (lv_at hl 1 rfl) ?_
            refine lv_lconst (v := 1) hx hb dX2_below_51 (by decide) ?_
            refine lv_iload hx hb dX2_below_52 (lv_at hl 2 rfl) ?_
            refine lv_lshl hx hb dX2_below_54 (v := lShl (1 : Int64) x5) rfl ?_
            refine lv_lor hx hb dX2_below_55 ?_
            refine lv_topl (fun y_17 ey_17 => ?_)
            replace h := h y_17 ey_17
            refine lv_lstore_n (i := 3) (lv' := [(3, .long y_17), (0, .ref t), (5, .int x5)]) hx hb dX2_below_56 rfl hl (by decide) rfl (fun ls hl => ?_)
            obtain ⟨x_18, ex_18⟩ : ∃ y : Int32, y = x5 + 1 := ⟨_, rfl⟩
            replace h := h x_18 ex_18
            refine lv_iinc (v := x_18) (lv' := [(5, .int x_18), (3, .long y_17), (0, .ref t)]) hx hb dX2_below_57 hl (k := 2) rfl (by rw [ex_18]; rfl) (by decide) rfl (fun ls hl => ?_)
            refine lv_goto (tgt := 5) hx hb dX2_below_60 (by decide) ?_
            exact ih _ _ _ _ _ _ h hM hS (lv_sub hl [2, 1, 0] rfl)
set_option maxHeartbeats 4000000 in
set_option maxRecDepth 100000 in
theorem oX2_below_0 {k : Int64 → MM → Prop} {t : Nat} (CX : CXM p s m args meth c cX2_below 6 (some .long) "below" RX2 wsX2_below D cs A) : ∀ (y1 : Int64) (σ : MM) (H : Heap) (locs : List Loc) (ls : Array Slot), wX2_below t y1 σ k → PH D cs A σ H → va_S A s.heap H locs → lv_has ls 6 [(0, .ref t), (1, .long y1)] → W p l e (headSpec wsX2_below rmX2_below).room s m args below meth c H locs 0 0 (MQ below (va_Ql k (mB D cs A) A) args s 0 0 A) (F0 m 0 ls []) := by
  intro y1 σ H locs ls h hM hS hl
  have ⟨hx, hb, hml, hr, hnm, hown, hts, hlocks, hE⟩ := CX
  unfold wX2_below at h
  refine lv_lload_n hx hb dX2_below_0 rfl (lv_at hl 1 rfl) ?_
  refine lv_lstore_n (i := 3) (lv' := [(3, .long y1), (0, .ref t), (1, .long y1)]) hx hb dX2_below_1 rfl hl (by decide) rfl (fun ls hl => ?_)
  refine lv_iconst (v := 0) hx hb dX2_below_2 (by decide) ?_
  refine lv_istore (i := 5) (lv' := [(5, .int 0), (3, .long y1), (0, .ref t), (1, .long y1)]) hx hb dX2_below_3 hl (by decide) rfl (fun ls hl => ?_)
  obtain ⟨n0, h⟩ := h
  exact oX2_below_5 CX  n0 _ _ _ _ _ _ h hM hS (lv_sub hl [2, 1, 0] rfl)
end S_X2_below
set_option maxHeartbeats 4000000 in
set_option maxRecDepth 100000 in
theorem ok_X2_below (l : Launch) (D : va_G) (cs : CS) (A : Nat → Prop) (t : Nat) (y1 : Int64) (σ : MM) (k : Int64 → MM → Prop) (h : wX2_below t y1 σ k) : Met l yX2_below wsX2_below rmX2_below (va_Pc [.ref t, .long y1] (mP D cs A σ)) (va_Ql k (mB D cs A) A) 0 0 A := by
  refine Met.ofW (cc := cX2_below) (maxL := 6) (ret := (some .long)) (by decide) rfl ?_
  intro p e s m args below meth c s₁ B hml hv
  obtain ⟨rfl, hM, hE⟩ := hv
  have CX : CXM p s m _ meth c cX2_below 6 (some .long) "below" RX2 wsX2_below D cs A := ⟨B.exec, B.bytes, hml, B.returns, (name_of_methodNamed B.named B.method).1, findClass_of_methodNamed B.named, atoms_spec (ws := wsX2_below) B.pre, B.notSynchronized, hE⟩
  have hl := lv_entry ([.ref t, .long y1]) (n := 6) (Nat.le_of_ble_eq_true rfl)
  rw [lg_entry_eq]
  exact oX2_below_0 CX y1 σ _ _ _ h hM va_S.rf hl
/-! WorkCoder.<init>()V -/
abbrev rmX3_init : Room := { frames := 2, cells := 10, slots := 466, locals := 46 }
theorem inX3_init_2 : ∀ w ∈ wsX20, w ∈ wsX3_init := fun _ h => List.mem_cons_of_mem _ (List.mem_append_left _ (List.mem_append_right _ (h)))
theorem inX3_init_3 : ∀ w ∈ wsX30, w ∈ wsX3_init := fun _ h => List.mem_cons_of_mem _ (List.mem_append_right _ (h))
section S_X3_init
variable {p : Program} {l : Launch} {e : Env} {s : State} {m : MethodId} {args : Array Value} {below : List Frame} {meth : Method} {c : Code} {D : va_G} {cs : CS} {A : Nat → Prop}
set_option maxHeartbeats 4000000 in
set_option maxRecDepth 100000 in
theorem oX3_init_107 {k : MM → Prop} {t : Nat} (CX : CXM p s m args meth c cX3_init 2 none "<init>" RX3 wsX3_init D cs A) : ∀ (n : Nat), ∀ (x1 : Int32) (σ : MM) (H : Heap) (locs : List Loc) (ls : Array Slot), wX3_init_107 k t  n x1 σ → PH D cs A σ H → va_S A s.heap H locs → lv_has ls 2 [(0, .ref t), (1, .int x1)] → W p l e (headSpec wsX3_init rmX3_init).room s m args below meth c H locs 10 466 (MQ below (va_Qv k (mB D cs A) A) args s 10 466 A) (F0 m 107 ls []) := by
  intro n
  induction n with
  | zero => intro x1 σ H locs ls h; exact h.elim
  | succ n ih =>
    intro x1 σ H locs ls h hM hS hl
    have ⟨hx, hb, hml, hr, hnm, hown, hts, hlocks, hE⟩ := CX
    unfold wX3_init_107 at h
    refine lv_iload_n hx hb dX3_init_107 rfl (lv_at hl 1 rfl) ?_
    refine lv_aload_n hx hb dX3_init_108 rfl (lv_at hl 0 rfl) ?_
    obtain ⟨hk_1, h⟩ := h
    refine gf3_4 hx hb hts inX3_init_3 hown hE.1 hM hk_1 (hts (.fieldLink RX3 28 "WorkCoder" "standsFor" "[I") (by decide +kernel)) dX3_init_109 (fun r_2 er_2 => ?_)
    replace h := h r_2 er_2
    clear er_2
    obtain ⟨a_3, rfl, h⟩ := h
    obtain ⟨hk_4, h⟩ := h
    refine mm_alen6 hx hb hE.1 hM hk_4 dX3_init_112 ?_
    refine lv_icmp_ge (tgt := 129) hx hb dX3_init_113 (by decide) (fun hc => ?_) (fun hc => ?_)
    · replace h := h.1 hc
      refine W.widen (k := 10) (n := 466) (Nat.le_of_ble_eq_true rfl) (Nat.le_of_ble_eq_true rfl) ?_
      exact W.vret hx hb hr (fun t_ ht hW => ⟨⟨_, rfl, h, mB_of ht hM⟩, hS.F ht⟩) hS.2.2 dX3_init_129
    · replace h := h.2 hc
      refine lv_aload_n hx hb dX3_init_116 rfl (lv_at hl 0 rfl) ?_
      refine gf3_4 hx hb hts inX3_init_3 hown hE.1 hM hk_1 (hts (.fieldLink RX3 28 "WorkCoder" "standsFor" "[I") (by decide +kernel)) dX3_init_117 (fun r_5 er_5 => ?_)
      replace h := h r_5 er_5
      clear er_5
      refine lv_iload_n hx hb dX3_init_120 rfl (lv_at hl 1 rfl) ?_
      refine lv_iload_n hx hb dX3_init_121 rfl (lv_at hl 1 rfl) ?_
      obtain ⟨a_6, rfl, h⟩ := h
      obtain ⟨hk_7, h⟩ := h
      obtain ⟨hv_8, h⟩ := h
      refine mm_iast hx hb hE.1 hM hS hk_7 hv_8 dX3_init_122 (fun H locs hM hS => ?_)
      replace h := h _ rfl
      obtain ⟨x_10, ex_10⟩ : ∃ y : Int32, y = x1 + 1 := ⟨_, rfl⟩
      replace h := h x_10 ex_10
      refine lv_iinc (v := x_10) (lv' := [(1, .int x_10), (0, .ref t)]) hx hb dX3_init_123 hl (k := 1) rfl (by rw [ex_10]; rfl) (by decide) rfl (fun ls hl => ?_)
      refine lv_goto (tgt := 107) hx hb dX3_init_126 (by decide) ?_
      exact ih _ _ _ _ _ h hM hS (lv_sub hl [1, 0] rfl)
set_option maxHeartbeats 4000000 in
set_option maxRecDepth 100000 in
theorem oX3_init_0 {k : MM → Prop} {t : Nat} (CX : CXM p s m args meth c cX3_init 2 none "<init>" RX3 wsX3_init D cs A) : ∀ (σ : MM) (H : Heap) (locs : List Loc) (ls : Array Slot), wX3_init t σ k → PH D cs A σ H → va_S A s.heap H locs → lv_has ls 2 [(0, .ref t)] → W p l e (headSpec wsX3_init rmX3_init).room s m args below meth c H locs 0 0 (MQ below (va_Qv k (mB D cs A) A) args s 10 466 A) (F0 m 0 ls []) := by
  intro  σ H locs ls h hM hS hl
  have ⟨hx, hb, hml, hr, hnm, hown, hts, hlocks, hE⟩ := CX
  unfold wX3_init at h
  refine lv_aload_n hx hb dX3_init_0 rfl (lv_at hl 0 rfl) ?_
  refine W.objInit hx hb hown (hts (.methodLink RX3 3 objectInit) (by decide +kernel)) (hts (.instanceMethod objectInit) (by decide +kernel)) (hts (.code objectInit ⟨#[0xb1]⟩ 1 none) (by decide +kernel)) rfl (by rw [hml]; exact hl.1) rfl dX3_init_1 (Nat.le_of_ble_eq_true rfl) (Nat.le_of_ble_eq_true rfl) ?_
  refine lv_aload_n hx hb dX3_init_4 rfl (lv_at hl 0 rfl) ?_
  refine nw2 hx hb hts inX3_init_2 hown (hts (.classLink RX3 9 RX2) (by decide +kernel)) (hts (.instantiable RX2 3) (by decide +kernel)) (hts (.initialized RX2) (by decide +kernel)) hE.1 hM hS hE.2.1 (Nat.le_of_ble_eq_true rfl) (Nat.le_of_ble_eq_true rfl) dX3_init_5 (fun a_1 H ha_1 hM hS => ?_)
  replace h := h a_1 ha_1 _ rfl
  have hk_3 := mK_new (kd := 3) (n := 0) ha_1
  refine lv_dup hx hb dX3_init_8 rfl ?_
  refine lv_bipush (v := 40) hx hb dX3_init_9 (by decide) ?_
  refine clIv (b := a_1) (As := [.int 40]) (rest := [.ref a_1, .ref t]) ⟨hx, hb, hml, hown, hts⟩ hM hE hS (ok_X2_init l D cs A a_1 40 _ _ h) (cwI 1 hts gX3_init_X2_init rfl rfl rfl (hts (.initialized RX2) (by decide +kernel)) (hts (.methodLink RX3 11 yX2_init) (by decide +kernel)) (hts (.instanceMethod yX2_init) (by decide +kernel)) rfl (by decide +kernel) ⟨(Nat.le_of_ble_eq_true rfl), (Nat.le_of_ble_eq_true rfl)⟩) rfl hl.1 rfl (Nat.le_of_ble_eq_true rfl) dX3_init_11 ⟨(Nat.le_of_ble_eq_true rfl), (Nat.le_of_ble_eq_true rfl)⟩ (fun σ_4 H locs h1 hM hS => ?_)
  replace h := h1
  clear h1
  obtain ⟨hk_6, h⟩ := h
  refine pf3_0 hx hb hts inX3_init_3 hown hE.1 hM hS hk_6 (hts (.fieldLink RX3 14 "WorkCoder" "scheme" "LWorkCoder$Scheme;") (by decide +kernel)) hnm rfl dX3_init_14 (fun H locs hM hS => ?_)
  replace h := h _ rfl
  refine lv_aload_n hx hb dX3_init_17 rfl (lv_at hl 0 rfl) ?_
  refine nw2 hx hb hts inX3_init_2 hown (hts (.classLink RX3 9 RX2) (by decide +kernel)) (hts (.instantiable RX2 3) (by decide +kernel)) (hts (.initialized RX2) (by decide +kernel)) hE.1 hM hS hE.2.1 (Nat.le_of_ble_eq_true rfl) (Nat.le_of_ble_eq_true rfl) dX3_init_18 (fun a_8 H ha_8 hM hS => ?_)
  replace h := h a_8 ha_8 _ rfl
  have hk_6 := mK_keep (kd := 3) (n := 0) hk_6 (by decide) ha_8
  have hk_10 := mK_new (kd := 3) (n := 0) ha_8
  refine lv_dup hx hb dX3_init_21 rfl ?_
  refine lv_bipush (v := 30) hx hb dX3_init_22 (by decide) ?_
  refine clIv (b := a_8) (As := [.int 30]) (rest := [.ref a_8, .ref t]) ⟨hx, hb, hml, hown, hts⟩ hM hE hS (ok_X2_init l D cs A a_8 30 _ _ h) (cwI 1 hts gX3_init_X2_init rfl rfl rfl (hts (.initialized RX2) (by decide +kernel)) (hts (.methodLink RX3 11 yX2_init) (by decide +kernel)) (hts (.instanceMethod yX2_init) (by decide +kernel)) rfl (by decide +kernel) ⟨(Nat.le_of_ble_eq_true rfl), (Nat.le_of_ble_eq_true rfl)⟩) rfl hl.1 rfl (Nat.le_of_ble_eq_true rfl) dX3_init_24 ⟨(Nat.le_of_ble_eq_true rfl), (Nat.le_of_ble_eq_true rfl)⟩ (fun σ_11 H locs h1 hM hS => ?_)
  replace h := h1
  clear h1
  obtain ⟨hk_13, h⟩ := h
  refine pf3_1 hx hb hts inX3_init_3 hown hE.1 hM hS hk_13 (hts (.fieldLink RX3 18 "WorkCoder" "otherScheme" "LWorkCoder$Scheme;") (by decide +kernel)) hnm rfl dX3_init_27 (fun H locs hM hS => ?_)
  replace h := h _ rfl
  refine lv_aload_n hx hb dX3_init_30 rfl (lv_at hl 0 rfl) ?_
  refine lv_bipush (v := 40) hx hb dX3_init_31 (by decide) ?_
  refine naJ hx hb (hts (.arrayClass .long) (by decide +kernel)) hE.1 hM hS hE.2.1 (N := 40) (by decide) (by decide) (by decide) (Nat.le_of_ble_eq_true rfl) (Nat.le_of_ble_eq_true rfl) dX3_init_33 (fun a_15 H ha_15 hM hS => ?_)
  replace h := h a_15 ha_15 _ rfl
  have hk_13 := mK_keep (kd := 7) (n := 40) hk_13 (by decide) ha_15
  have hk_17 := mK_new (kd := 7) (n := 40) ha_15
  refine pf3_2 hx hb hts inX3_init_3 hown hE.1 hM hS hk_13 (hts (.fieldLink RX3 21 "WorkCoder" "excluded" "[J") (by decide +kernel)) hnm rfl dX3_init_35 (fun H locs hM hS => ?_)
  replace h := h _ rfl
  refine lv_aload_n hx hb dX3_init_38 rfl (lv_at hl 0 rfl) ?_
  refine lv_bipush (v := 40) hx hb dX3_init_39 (by decide) ?_
  refine naJ hx hb (hts (.arrayClass .long) (by decide +kernel)) hE.1 hM hS hE.2.1 (N := 40) (by decide) (by decide) (by decide) (Nat.le_of_ble_eq_true rfl) (Nat.le_of_ble_eq_true rfl) dX3_init_41 (fun a_19 H ha_19 hM hS => ?_)
  replace h := h a_19 ha_19 _ rfl
  have hk_13 := mK_keep (kd := 7) (n := 40) hk_13 (by decide) ha_19
  have hk_17 := mK_keep (kd := 7) (n := 40) hk_17 (by decide) ha_19
  have hk_21 := mK_new (kd := 7) (n := 40) ha_19
  refine pf3_3 hx hb hts inX3_init_3 hown hE.1 hM hS hk_13 (hts (.fieldLink RX3 25 "WorkCoder" "carried" "[J") (by decide +kernel)) hnm rfl dX3_init_43 (fun H locs hM hS => ?_)
  replace h := h _ rfl
  refine lv_aload_n hx hb dX3_init_46 rfl (lv_at hl 0 rfl) ?_
  refine lv_bipush (v := 60) hx hb dX3_init_47 (by decide) ?_
  refine naI hx hb (hts (.arrayClass .int) (by decide +kernel)) hE.1 hM hS hE.2.1 (N := 60) (by decide) (by decide) (by decide) (Nat.le_of_ble_eq_true rfl) (Nat.le_of_ble_eq_true rfl) dX3_init_49 (fun a_23 H ha_23 hM hS => ?_)
  replace h := h a_23 ha_23 _ rfl
  have hk_13 := mK_keep (kd := 6) (n := 60) hk_13 (by decide) ha_23
  have hk_17 := mK_keep (kd := 6) (n := 60) hk_17 (by decide) ha_23
  have hk_21 := mK_keep (kd := 6) (n := 60) hk_21 (by decide) ha_23
  have hk_25 := mK_new (kd := 6) (n := 60) ha_23
  refine pf3_4 hx hb hts inX3_init_3 hown hE.1 hM hS hk_13 (hts (.fieldLink RX3 28 "WorkCoder" "standsFor" "[I") (by decide +kernel)) hnm rfl dX3_init_51 (fun H locs hM hS => ?_)
  replace h := h _ rfl
  refine lv_aload_n hx hb dX3_init_54 rfl (lv_at hl 0 rfl) ?_
  refine lv_sipush (v := 160) hx hb dX3_init_55 (by decide) ?_
  refine nq9 hx hb hown (hts (.classLink RX3 32 RX0) (by decide +kernel)) hE.2.2.2.2.2.1 hE.1 hM hS hE.2.1 (N := 160) (by decide) (by decide) (by decide) (Nat.le_of_ble_eq_true rfl) (Nat.le_of_ble_eq_true rfl) dX3_init_58 (fun a_27 H ha_27 hM hS => ?_)
  replace h := h a_27 ha_27 _ rfl
  have hk_13 := mK_keep (kd := 9) (n := 160) hk_13 (by decide) ha_27
  have hk_17 := mK_keep (kd := 9) (n := 160) hk_17 (by decide) ha_27
  have hk_21 := mK_keep (kd := 9) (n := 160) hk_21 (by decide) ha_27
  have hk_25 := mK_keep (kd := 9) (n := 160) hk_25 (by decide) ha_27
  have hk_29 := mK_new (kd := 9) (n := 160) ha_27
  refine pf3_5 hx hb hts inX3_init_3 hown hE.1 hM hS hk_13 (hts (.fieldLink RX3 34 "WorkCoder" "items" "[LWorkCoder$Item;") (by decide +kernel)) hnm rfl dX3_init_61 (fun H locs hM hS => ?_)
  replace h := h _ rfl
  refine lv_aload_n hx hb dX3_init_64 rfl (lv_at hl 0 rfl) ?_
  refine lv_iconst (v := 0) hx hb dX3_init_65 (by decide) ?_
  refine pf3_6 hx hb hts inX3_init_3 hown hE.1 hM hS hk_13 (hts (.fieldLink RX3 38 "WorkCoder" "answers" "I") (by decide +kernel)) dX3_init_66 (fun H locs hM hS => ?_)
  replace h := h _ rfl
  refine lv_aload_n hx hb dX3_init_69 rfl (lv_at hl 0 rfl) ?_
  refine lv_bipush (v := 40) hx hb dX3_init_70 (by decide) ?_
  refine nq10 hx hb hown (hts (.classLink RX3 42 RX1) (by decide +kernel)) hE.2.2.2.2.2.2 hE.1 hM hS hE.2.1 (N := 40) (by decide) (by decide) (by decide) (Nat.le_of_ble_eq_true rfl) (Nat.le_of_ble_eq_true rfl) dX3_init_72 (fun a_32 H ha_32 hM hS => ?_)
  replace h := h a_32 ha_32 _ rfl
  have hk_13 := mK_keep (kd := 10) (n := 40) hk_13 (by decide) ha_32
  have hk_17 := mK_keep (kd := 10) (n := 40) hk_17 (by decide) ha_32
  have hk_21 := mK_keep (kd := 10) (n := 40) hk_21 (by decide) ha_32
  have hk_25 := mK_keep (kd := 10) (n := 40) hk_25 (by decide) ha_32
  have hk_29 := mK_keep (kd := 10) (n := 40) hk_29 (by decide) ha_32
  have hk_34 := mK_new (kd := 10) (n := 40) ha_32
  refine pf3_7 hx hb hts inX3_init_3 hown hE.1 hM hS hk_13 (hts (.fieldLink RX3 44 "WorkCoder" "rules" "[LWorkCoder$Rule;") (by decide +kernel)) hnm rfl dX3_init_75 (fun H locs hM hS => ?_)
  replace h := h _ rfl
  refine lv_aload_n hx hb dX3_init_78 rfl (lv_at hl 0 rfl) ?_
  refine lv_iconst (v := 0) hx hb dX3_init_79 (by decide) ?_
  refine pf3_8 hx hb hts inX3_init_3 hown hE.1 hM hS hk_13 (hts (.fieldLink RX3 48 "WorkCoder" "ruleCount" "I") (by decide +kernel)) dX3_init_80 (fun H locs hM hS => ?_)
  replace h := h _ rfl
  refine lv_aload_n hx hb dX3_init_83 rfl (lv_at hl 0 rfl) ?_
  refine lv_sipush (v := 500) hx hb dX3_init_84 (by decide) ?_
  refine pf3_9 hx hb hts inX3_init_3 hown hE.1 hM hS hk_13 (hts (.fieldLink RX3 51 "WorkCoder" "least" "I") (by decide +kernel)) dX3_init_87 (fun H locs hM hS => ?_)
  replace h := h _ rfl
  refine lv_aload_n hx hb dX3_init_90 rfl (lv_at hl 0 rfl) ?_
  refine lv_sipush (v := 200) hx hb dX3_init_91 (by decide) ?_
  refine pf3_10 hx hb hts inX3_init_3 hown hE.1 hM hS hk_13 (hts (.fieldLink RX3 54 "WorkCoder" "gap" "I") (by decide +kernel)) dX3_init_94 (fun H locs hM hS => ?_)
  replace h := h _ rfl
  refine lv_aload_n hx hb dX3_init_97 rfl (lv_at hl 0 rfl) ?_
  refine lv_bipush (v := 40) hx hb dX3_init_98 (by decide) ?_
  refine naI hx hb (hts (.arrayClass .int) (by decide +kernel)) hE.1 hM hS hE.2.1 (N := 40) (by decide) (by decide) (by decide) (Nat.le_of_ble_eq_true rfl) (Nat.le_of_ble_eq_true rfl) dX3_init_100 (fun a_39 H ha_39 hM hS => ?_)
  replace h := h a_39 ha_39 _ rfl
  have hk_13 := mK_keep (kd := 6) (n := 40) hk_13 (by decide) ha_39
  have hk_17 := mK_keep (kd := 6) (n := 40) hk_17 (by decide) ha_39
  have hk_21 := mK_keep (kd := 6) (n := 40) hk_21 (by decide) ha_39
  have hk_25 := mK_keep (kd := 6) (n := 40) hk_25 (by decide) ha_39
  have hk_29 := mK_keep (kd := 6) (n := 40) hk_29 (by decide) ha_39
  have hk_34 := mK_keep (kd := 6) (n := 40) hk_34 (by decide) ha_39
  have hk_41 := mK_new (kd := 6) (n := 40) ha_39
  refine pf3_11 hx hb hts inX3_init_3 hown hE.1 hM hS hk_13 (hts (.fieldLink RX3 57 "WorkCoder" "nears" "[I") (by decide +kernel)) hnm rfl dX3_init_102 (fun H locs hM hS => ?_)
  replace h := h _ rfl
  refine lv_iconst (v := 0) hx hb dX3_init_105 (by decide) ?_
  refine lv_istore_n (i := 1) (lv' := [(1, .int 0), (0, .ref t)]) hx hb dX3_init_106 rfl hl (by decide) rfl (fun ls hl => ?_)
  obtain ⟨n0, h⟩ := h
  exact oX3_init_107 CX  n0 _ _ _ _ _ h hM hS (lv_sub hl [1, 0] rfl)
end S_X3_init
set_option maxHeartbeats 4000000 in
set_option maxRecDepth 100000 in
theorem ok_X3_init (l : Launch) (D : va_G) (cs : CS) (A : Nat → Prop) (t : Nat) (σ : MM) (k : MM → Prop) (h : wX3_init t σ k) : Met l yX3_init wsX3_init rmX3_init (va_Pc [.ref t] (mP D cs A σ)) (va_Qv k (mB D cs A) A) 10 466 A := by
  refine Met.ofW (cc := cX3_init) (maxL := 2) (ret := none) (by decide) rfl ?_
  intro p e s m args below meth c s₁ B hml hv
  obtain ⟨rfl, hM, hE⟩ := hv
  have CX : CXM p s m _ meth c cX3_init 2 none "<init>" RX3 wsX3_init D cs A := ⟨B.exec, B.bytes, hml, B.returns, (name_of_methodNamed B.named B.method).1, findClass_of_methodNamed B.named, atoms_spec (ws := wsX3_init) B.pre, B.notSynchronized, hE⟩
  have hl := lv_entry ([.ref t]) (n := 2) (Nat.le_of_ble_eq_true rfl)
  rw [lg_entry_eq]
  exact oX3_init_0 CX  σ _ _ _ h hM va_S.rf hl
/-! WorkCoder.code(I)I -/
abbrev rmX3_code : Room := { frames := 2, cells := 0, slots := 0, locals := 42 }
theorem inX3_code_3 : ∀ w ∈ wsX30, w ∈ wsX3_code := fun _ h => List.mem_cons_of_mem _ (List.mem_append_left _ (List.mem_append_right _ (h)))
section S_X3_code
variable {p : Program} {l : Launch} {e : Env} {s : State} {m : MethodId} {args : Array Value} {below : List Frame} {meth : Method} {c : Code} {D : va_G} {cs : CS} {A : Nat → Prop}
set_option maxHeartbeats 4000000 in
set_option maxRecDepth 100000 in
theorem oX3_code_0 {k : Int32 → MM → Prop} {t : Nat} (CX : CXM p s m args meth c cX3_code 2 (some .int) "code" RX3 wsX3_code D cs A) : ∀ (x1 : Int32) (σ : MM) (H : Heap) (locs : List Loc) (ls : Array Slot), wX3_code t x1 σ k → PH D cs A σ H → va_S A s.heap H locs → lv_has ls 2 [(0, .ref t), (1, .int x1)] → W p l e (headSpec wsX3_code rmX3_code).room s m args below meth c H locs 0 0 (MQ below (va_Qi k (mB D cs A) A) args s 0 0 A) (F0 m 0 ls []) := by
  intro x1 σ H locs ls h hM hS hl
  have ⟨hx, hb, hml, hr, hnm, hown, hts, hlocks, hE⟩ := CX
  unfold wX3_code at h
  refine lv_aload_n hx hb dX3_code_0 rfl (lv_at hl 0 rfl) ?_
  obtain ⟨hk_1, h⟩ := h
  refine gf3_0 hx hb hts inX3_code_3 hown hE.1 hM hk_1 (hts (.fieldLink RX3 14 "WorkCoder" "scheme" "LWorkCoder$Scheme;") (by decide +kernel)) dX3_code_1 (fun r_2 er_2 => ?_)
  replace h := h r_2 er_2
  clear er_2
  refine lv_iload_n hx hb dX3_code_4 rfl (lv_at hl 1 rfl) ?_
  obtain ⟨a_3, rfl, h⟩ := h
  obtain ⟨hk_4, h⟩ := h
  refine clVi (C := RX2) (b := a_3) (As := [.int x1]) (rest := []) ⟨hx, hb, hml, hown, hts⟩ hM hE hS (ok_X2_grow l D cs A a_3 x1 _ _ h) (cwV 1 hts gX3_code_X2_grow rfl rfl rfl (by decide +kernel) ⟨(Nat.le_of_ble_eq_true rfl), (Nat.le_of_ble_eq_true rfl)⟩) (rc2 hM hE.1 hk_4) rfl hl.1 rfl (Nat.le_of_ble_eq_true rfl) dX3_code_5 ⟨(Nat.le_of_ble_eq_true rfl), (Nat.le_of_ble_eq_true rfl)⟩ (fun x_6 σ_5 H locs h1 hM hS => ?_)
  replace h := h1
  clear h1
  exact W.iret (v := x_6) hx hb hr (fun t_ ht hW => ⟨⟨_, _, rfl, h, mB_of ht hM⟩, hS.F ht⟩) hS.2.2 dX3_code_8
end S_X3_code
set_option maxHeartbeats 4000000 in
set_option maxRecDepth 100000 in
theorem ok_X3_code (l : Launch) (D : va_G) (cs : CS) (A : Nat → Prop) (t : Nat) (x1 : Int32) (σ : MM) (k : Int32 → MM → Prop) (h : wX3_code t x1 σ k) : Met l yX3_code wsX3_code rmX3_code (va_Pc [.ref t, .int x1] (mP D cs A σ)) (va_Qi k (mB D cs A) A) 0 0 A := by
  refine Met.ofW (cc := cX3_code) (maxL := 2) (ret := (some .int)) (by decide) rfl ?_
  intro p e s m args below meth c s₁ B hml hv
  obtain ⟨rfl, hM, hE⟩ := hv
  have CX : CXM p s m _ meth c cX3_code 2 (some .int) "code" RX3 wsX3_code D cs A := ⟨B.exec, B.bytes, hml, B.returns, (name_of_methodNamed B.named B.method).1, findClass_of_methodNamed B.named, atoms_spec (ws := wsX3_code) B.pre, B.notSynchronized, hE⟩
  have hl := lv_entry ([.ref t, .int x1]) (n := 2) (Nat.le_of_ble_eq_true rfl)
  rw [lg_entry_eq]
  exact oX3_code_0 CX x1 σ _ _ _ h hM va_S.rf hl
/-! WorkCoder.isCode(I)Z -/
abbrev rmX3_isCode : Room := { frames := 1, cells := 0, slots := 0, locals := 21 }
theorem inX3_isCode_3 : ∀ w ∈ wsX30, w ∈ wsX3_isCode := fun _ h => List.mem_cons_of_mem _ (List.mem_append_left _ (List.mem_append_right _ (h)))
section S_X3_isCode
variable {p : Program} {l : Launch} {e : Env} {s : State} {m : MethodId} {args : Array Value} {below : List Frame} {meth : Method} {c : Code} {D : va_G} {cs : CS} {A : Nat → Prop}
set_option maxHeartbeats 4000000 in
set_option maxRecDepth 100000 in
theorem oX3_isCode_0 {k : Int32 → MM → Prop} {t : Nat} (CX : CXM p s m args meth c cX3_isCode 2 (some .boolean) "isCode" RX3 wsX3_isCode D cs A) : ∀ (x1 : Int32) (σ : MM) (H : Heap) (locs : List Loc) (ls : Array Slot), wX3_isCode t x1 σ k → PH D cs A σ H → va_S A s.heap H locs → lv_has ls 2 [(0, .ref t), (1, .int x1)] → W p l e (headSpec wsX3_isCode rmX3_isCode).room s m args below meth c H locs 0 0 (MQ below (va_Qi k (mB D cs A) A) args s 0 0 A) (F0 m 0 ls []) := by
  intro x1 σ H locs ls h hM hS hl
  have ⟨hx, hb, hml, hr, hnm, hown, hts, hlocks, hE⟩ := CX
  unfold wX3_isCode at h
  refine lv_aload_n hx hb dX3_isCode_0 rfl (lv_at hl 0 rfl) ?_
  obtain ⟨hk_1, h⟩ := h
  refine gf3_0 hx hb hts inX3_isCode_3 hown hE.1 hM hk_1 (hts (.fieldLink RX3 14 "WorkCoder" "scheme" "LWorkCoder$Scheme;") (by decide +kernel)) dX3_isCode_1 (fun r_2 er_2 => ?_)
  replace h := h r_2 er_2
  clear er_2
  refine lv_iload_n hx hb dX3_isCode_4 rfl (lv_at hl 1 rfl) ?_
  obtain ⟨a_3, rfl, h⟩ := h
  obtain ⟨hk_4, h⟩ := h
  refine clVi (C := RX2) (b := a_3) (As := [.int x1]) (rest := []) ⟨hx, hb, hml, hown, hts⟩ hM hE hS (ok_X2_has l D cs A a_3 x1 _ _ h) (cwV 1 hts gX3_isCode_X2_has rfl rfl rfl (by decide +kernel) ⟨(Nat.le_of_ble_eq_true rfl), (Nat.le_of_ble_eq_true rfl)⟩) (rc2 hM hE.1 hk_4) rfl hl.1 rfl (Nat.le_of_ble_eq_true rfl) dX3_isCode_5 ⟨(Nat.le_of_ble_eq_true rfl), (Nat.le_of_ble_eq_true rfl)⟩ (fun x_6 σ_5 H locs h1 hM hS => ?_)
  replace h := h1
  clear h1
  obtain ⟨hz_7, h⟩ := h
  exact W.zret (v := x_6) (ty := .boolean) hx hb hr (bz_narrow hz_7) (fun t_ ht hW => ⟨⟨_, _, rfl, h, mB_of ht hM⟩, hS.F ht⟩) hS.2.2 dX3_isCode_8
end S_X3_isCode
set_option maxHeartbeats 4000000 in
set_option maxRecDepth 100000 in
theorem ok_X3_isCode (l : Launch) (D : va_G) (cs : CS) (A : Nat → Prop) (t : Nat) (x1 : Int32) (σ : MM) (k : Int32 → MM → Prop) (h : wX3_isCode t x1 σ k) : Met l yX3_isCode wsX3_isCode rmX3_isCode (va_Pc [.ref t, .int x1] (mP D cs A σ)) (va_Qi k (mB D cs A) A) 0 0 A := by
  refine Met.ofW (cc := cX3_isCode) (maxL := 2) (ret := (some .boolean)) (by decide) rfl ?_
  intro p e s m args below meth c s₁ B hml hv
  obtain ⟨rfl, hM, hE⟩ := hv
  have CX : CXM p s m _ meth c cX3_isCode 2 (some .boolean) "isCode" RX3 wsX3_isCode D cs A := ⟨B.exec, B.bytes, hml, B.returns, (name_of_methodNamed B.named B.method).1, findClass_of_methodNamed B.named, atoms_spec (ws := wsX3_isCode) B.pre, B.notSynchronized, hE⟩
  have hl := lv_entry ([.ref t, .int x1]) (n := 2) (Nat.le_of_ble_eq_true rfl)
  rw [lg_entry_eq]
  exact oX3_isCode_0 CX x1 σ _ _ _ h hM va_S.rf hl
/-! WorkCoder.isWord(I)Z -/
abbrev rmX3_isWord : Room := { frames := 0, cells := 0, slots := 0, locals := 0 }
theorem inX3_isWord_3 : ∀ w ∈ wsX30, w ∈ wsX3_isWord := fun _ h => List.mem_cons_of_mem _ (List.mem_append_right _ (h))
section S_X3_isWord
variable {p : Program} {l : Launch} {e : Env} {s : State} {m : MethodId} {args : Array Value} {below : List Frame} {meth : Method} {c : Code} {D : va_G} {cs : CS} {A : Nat → Prop}
set_option maxHeartbeats 4000000 in
set_option maxRecDepth 100000 in
theorem oX3_isWord_0 {k : Int32 → MM → Prop} {t : Nat} (CX : CXM p s m args meth c cX3_isWord 2 (some .boolean) "isWord" RX3 wsX3_isWord D cs A) : ∀ (x1 : Int32) (σ : MM) (H : Heap) (locs : List Loc) (ls : Array Slot), wX3_isWord t x1 σ k → PH D cs A σ H → va_S A s.heap H locs → lv_has ls 2 [(0, .ref t), (1, .int x1)] → W p l e (headSpec wsX3_isWord rmX3_isWord).room s m args below meth c H locs 0 0 (MQ below (va_Qi k (mB D cs A) A) args s 0 0 A) (F0 m 0 ls []) := by
  intro x1 σ H locs ls h hM hS hl
  have ⟨hx, hb, hml, hr, hnm, hown, hts, hlocks, hE⟩ := CX
  unfold wX3_isWord at h
  refine lv_iload_n hx hb dX3_isWord_0 rfl (lv_at hl 1 rfl) ?_
  refine lv_if_lt (tgt := 17) hx hb dX3_isWord_1 (by decide) (fun hc => ?_) (fun hc => ?_)
  · replace h := h.1 hc
    refine lv_iconst (v := 0) hx hb dX3_isWord_17 (by decide) ?_
    exact W.zret (v := 0) (ty := .boolean) hx hb hr rfl (fun t_ ht hW => ⟨⟨_, _, rfl, h, mB_of ht hM⟩, hS.F ht⟩) hS.2.2 dX3_isWord_18
  · replace h := h.2 hc
    refine lv_iload_n hx hb dX3_isWord_4 rfl (lv_at hl 1 rfl) ?_
    refine lv_aload_n hx hb dX3_isWord_5 rfl (lv_at hl 0 rfl) ?_
    obtain ⟨hk_1, h⟩ := h
    refine gf3_4 hx hb hts inX3_isWord_3 hown hE.1 hM hk_1 (hts (.fieldLink RX3 28 "WorkCoder" "standsFor" "[I") (by decide +kernel)) dX3_isWord_6 (fun r_2 er_2 => ?_)
    replace h := h r_2 er_2
    clear er_2
    obtain ⟨a_3, rfl, h⟩ := h
    obtain ⟨hk_4, h⟩ := h
    refine mm_alen6 hx hb hE.1 hM hk_4 dX3_isWord_9 ?_
    refine lv_icmp_ge (tgt := 17) hx hb dX3_isWord_10 (by decide) (fun hc => ?_) (fun hc => ?_)
    · replace h := h.1 hc
      refine lv_iconst (v := 0) hx hb dX3_isWord_17 (by decide) ?_
      exact W.zret (v := 0) (ty := .boolean) hx hb hr rfl (fun t_ ht hW => ⟨⟨_, _, rfl, h, mB_of ht hM⟩, hS.F ht⟩) hS.2.2 dX3_isWord_18
    · replace h := h.2 hc
      refine lv_iconst (v := 1) hx hb dX3_isWord_13 (by decide) ?_
      refine lv_goto (tgt := 18) hx hb dX3_isWord_14 (by decide) ?_
      exact W.zret (v := 1) (ty := .boolean) hx hb hr rfl (fun t_ ht hW => ⟨⟨_, _, rfl, h, mB_of ht hM⟩, hS.F ht⟩) hS.2.2 dX3_isWord_18
end S_X3_isWord
set_option maxHeartbeats 4000000 in
set_option maxRecDepth 100000 in
theorem ok_X3_isWord (l : Launch) (D : va_G) (cs : CS) (A : Nat → Prop) (t : Nat) (x1 : Int32) (σ : MM) (k : Int32 → MM → Prop) (h : wX3_isWord t x1 σ k) : Met l yX3_isWord wsX3_isWord rmX3_isWord (va_Pc [.ref t, .int x1] (mP D cs A σ)) (va_Qi k (mB D cs A) A) 0 0 A := by
  refine Met.ofW (cc := cX3_isWord) (maxL := 2) (ret := (some .boolean)) (by decide) rfl ?_
  intro p e s m args below meth c s₁ B hml hv
  obtain ⟨rfl, hM, hE⟩ := hv
  have CX : CXM p s m _ meth c cX3_isWord 2 (some .boolean) "isWord" RX3 wsX3_isWord D cs A := ⟨B.exec, B.bytes, hml, B.returns, (name_of_methodNamed B.named B.method).1, findClass_of_methodNamed B.named, atoms_spec (ws := wsX3_isWord) B.pre, B.notSynchronized, hE⟩
  have hl := lv_entry ([.ref t, .int x1]) (n := 2) (Nat.le_of_ble_eq_true rfl)
  rw [lg_entry_eq]
  exact oX3_isWord_0 CX x1 σ _ _ _ h hM va_S.rf hl
/-! WorkCoder.isIn(III)Z -/
abbrev rmX3_isIn : Room := { frames := 0, cells := 0, slots := 0, locals := 0 }
section S_X3_isIn
variable {p : Program} {l : Launch} {e : Env} {s : State} {m : MethodId} {args : Array Value} {below : List Frame} {meth : Method} {c : Code} {D : va_G} {cs : CS} {A : Nat → Prop}
set_option maxHeartbeats 4000000 in
set_option maxRecDepth 100000 in
theorem oX3_isIn_0 {k : Int32 → MM → Prop} (CX : CXM p s m args meth c cX3_isIn 3 (some .boolean) "isIn" RX3 wsX3_isIn D cs A) : ∀ (x0 : Int32) (x1 : Int32) (x2 : Int32) (σ : MM) (H : Heap) (locs : List Loc) (ls : Array Slot), wX3_isIn x0 x1 x2 σ k → PH D cs A σ H → va_S A s.heap H locs → lv_has ls 3 [(0, .int x0), (1, .int x1), (2, .int x2)] → W p l e (headSpec wsX3_isIn rmX3_isIn).room s m args below meth c H locs 0 0 (MQ below (va_Qi k (mB D cs A) A) args s 0 0 A) (F0 m 0 ls []) := by
  intro x0 x1 x2 σ H locs ls h hM hS hl
  have ⟨hx, hb, hml, hr, hnm, hown, hts, hlocks, hE⟩ := CX
  unfold wX3_isIn at h
  refine lv_iload_n hx hb dX3_isIn_0 rfl (lv_at hl 0 rfl) ?_
  refine lv_iload_n hx hb dX3_isIn_1 rfl (lv_at hl 1 rfl) ?_
  refine lv_icmp_lt (tgt := 14) hx hb dX3_isIn_2 (by decide) (fun hc => ?_) (fun hc => ?_)
  · replace h := h.1 hc
    refine lv_iconst (v := 0) hx hb dX3_isIn_14 (by decide) ?_
    exact W.zret (v := 0) (ty := .boolean) hx hb hr rfl (fun t_ ht hW => ⟨⟨_, _, rfl, h, mB_of ht hM⟩, hS.F ht⟩) hS.2.2 dX3_isIn_15
  · replace h := h.2 hc
    refine lv_iload_n hx hb dX3_isIn_5 rfl (lv_at hl 0 rfl) ?_
    refine lv_iload_n hx hb dX3_isIn_6 rfl (lv_at hl 2 rfl) ?_
    refine lv_icmp_gt (tgt := 14) hx hb dX3_isIn_7 (by decide) (fun hc => ?_) (fun hc => ?_)
    · replace h := h.1 hc
      refine lv_iconst (v := 0) hx hb dX3_isIn_14 (by decide) ?_
      exact W.zret (v := 0) (ty := .boolean) hx hb hr rfl (fun t_ ht hW => ⟨⟨_, _, rfl, h, mB_of ht hM⟩, hS.F ht⟩) hS.2.2 dX3_isIn_15
    · replace h := h.2 hc
      refine lv_iconst (v := 1) hx hb dX3_isIn_10 (by decide) ?_
      refine lv_goto (tgt := 15) hx hb dX3_isIn_11 (by decide) ?_
      exact W.zret (v := 1) (ty := .boolean) hx hb hr rfl (fun t_ ht hW => ⟨⟨_, _, rfl, h, mB_of ht hM⟩, hS.F ht⟩) hS.2.2 dX3_isIn_15
end S_X3_isIn
set_option maxHeartbeats 4000000 in
set_option maxRecDepth 100000 in
theorem ok_X3_isIn (l : Launch) (D : va_G) (cs : CS) (A : Nat → Prop) (x0 : Int32) (x1 : Int32) (x2 : Int32) (σ : MM) (k : Int32 → MM → Prop) (h : wX3_isIn x0 x1 x2 σ k) : Met l yX3_isIn wsX3_isIn rmX3_isIn (va_Pc [.int x0, .int x1, .int x2] (mP D cs A σ)) (va_Qi k (mB D cs A) A) 0 0 A := by
  refine Met.ofW (cc := cX3_isIn) (maxL := 3) (ret := (some .boolean)) (by decide) rfl ?_
  intro p e s m args below meth c s₁ B hml hv
  obtain ⟨rfl, hM, hE⟩ := hv
  have CX : CXM p s m _ meth c cX3_isIn 3 (some .boolean) "isIn" RX3 wsX3_isIn D cs A := ⟨B.exec, B.bytes, hml, B.returns, (name_of_methodNamed B.named B.method).1, findClass_of_methodNamed B.named, atoms_spec (ws := wsX3_isIn) B.pre, B.notSynchronized, hE⟩
  have hl := lv_entry ([.int x0, .int x1, .int x2]) (n := 3) (Nat.le_of_ble_eq_true rfl)
  rw [lg_entry_eq]
  exact oX3_isIn_0 CX x0 x1 x2 σ _ _ _ h hM va_S.rf hl
/-! WorkCoder.exclude(III)I -/
abbrev rmX3_exclude : Room := { frames := 2, cells := 0, slots := 0, locals := 42 }
theorem inX3_exclude_3 : ∀ w ∈ wsX30, w ∈ wsX3_exclude := fun _ h => List.mem_cons_of_mem _ (List.mem_append_left _ (List.mem_append_right _ (h)))
section S_X3_exclude
variable {p : Program} {l : Launch} {e : Env} {s : State} {m : MethodId} {args : Array Value} {below : List Frame} {meth : Method} {c : Code} {D : va_G} {cs : CS} {A : Nat → Prop}
set_option maxHeartbeats 4000000 in
set_option maxRecDepth 100000 in
theorem oX3_exclude_0 {k : Int32 → MM → Prop} {t : Nat} (CX : CXM p s m args meth c cX3_exclude 5 (some .int) "exclude" RX3 wsX3_exclude D cs A) : ∀ (x1 : Int32) (x2 : Int32) (x3 : Int32) (σ : MM) (H : Heap) (locs : List Loc) (ls : Array Slot), wX3_exclude t x1 x2 x3 σ k → PH D cs A σ H → va_S A s.heap H locs → lv_has ls 5 [(0, .ref t), (1, .int x1), (2, .int x2), (3, .int x3)] → W p l e (headSpec wsX3_exclude rmX3_exclude).room s m args below meth c H locs 0 0 (MQ below (va_Qi k (mB D cs A) A) args s 0 0 A) (F0 m 0 ls []) := by
  intro x1 x2 x3 σ H locs ls h hM hS hl
  have ⟨hx, hb, hml, hr, hnm, hown, hts, hlocks, hE⟩ := CX
  unfold wX3_exclude at h
  refine lv_aload_n hx hb dX3_exclude_0 rfl (lv_at hl 0 rfl) ?_
  refine lv_iload_n hx hb dX3_exclude_1 rfl (lv_at hl 1 rfl) ?_
  obtain ⟨hk_1, h⟩ := h
  refine clVi (C := RX3) (b := t) (As := [.int x1]) (rest := []) ⟨hx, hb, hml, hown, hts⟩ hM hE hS (ok_X3_isCode l D cs A t x1 _ _ h) (cwV 1 hts gX3_exclude_X3_isCode rfl rfl rfl (by decide +kernel) ⟨(Nat.le_of_ble_eq_true rfl), (Nat.le_of_ble_eq_true rfl)⟩) (rc3 hM hE.1 hk_1) rfl hl.1 rfl (Nat.le_of_ble_eq_true rfl) dX3_exclude_2 ⟨(Nat.le_of_ble_eq_true rfl), (Nat.le_of_ble_eq_true rfl)⟩ (fun x_3 σ_2 H locs h1 hM hS => ?_)
  replace h := h1
  clear h1
  refine lv_if_eq (tgt := 25) hx hb dX3_exclude_5 (by decide) (fun hc => ?_) (fun hc => ?_)
  · replace h := h.1 hc
    refine lv_iconst (v := (-1)) hx hb dX3_exclude_25 (by decide) ?_
    exact W.iret (v := (-1)) hx hb hr (fun t_ ht hW => ⟨⟨_, _, rfl, h, mB_of ht hM⟩, hS.F ht⟩) hS.2.2 dX3_exclude_26
  · replace h := h.2 hc
    refine lv_aload_n hx hb dX3_exclude_8 rfl (lv_at hl 0 rfl) ?_
    refine lv_iload_n hx hb dX3_exclude_9 rfl (lv_at hl 2 rfl) ?_
    obtain ⟨hk_4, h⟩ := h
    refine clVi (C := RX3) (b := t) (As := [.int x2]) (rest := []) ⟨hx, hb, hml, hown, hts⟩ hM hE hS (ok_X3_isWord l D cs A t x2 _ _ h) (cwV 1 hts gX3_exclude_X3_isWord rfl rfl rfl (by decide +kernel) ⟨(Nat.le_of_ble_eq_true rfl), (Nat.le_of_ble_eq_true rfl)⟩) (rc3 hM hE.1 hk_4) rfl hl.1 rfl (Nat.le_of_ble_eq_true rfl) dX3_exclude_10 ⟨(Nat.le_of_ble_eq_true rfl), (Nat.le_of_ble_eq_true rfl)⟩ (fun x_6 σ_5 H locs h1 hM hS => ?_)
    replace h := h1
    clear h1
    refine lv_if_eq (tgt := 25) hx hb dX3_exclude_13 (by decide) (fun hc => ?_) (fun hc => ?_)
    · replace h := h.1 hc
      refine lv_iconst (v := (-1)) hx hb dX3_exclude_25 (by decide) ?_
      exact W.iret (v := (-1)) hx hb hr (fun t_ ht hW => ⟨⟨_, _, rfl, h, mB_of ht hM⟩, hS.F ht⟩) hS.2.2 dX3_exclude_26
    · replace h := h.2 hc
      refine lv_iload_n hx hb dX3_exclude_16 rfl (lv_at hl 3 rfl) ?_
      refine lv_iconst (v := 0) hx hb dX3_exclude_17 (by decide) ?_
      refine lv_iconst (v := 1) hx hb dX3_exclude_18 (by decide) ?_
      refine clSi (As := [.int x3, .int 0, .int 1]) (rest := []) ⟨hx, hb, hml, hown, hts⟩ hM hE hS (ok_X3_isIn l D cs A x3 0 1 _ _ h) (va_cwS 3 hts gX3_exclude_X3_isIn rfl rfl rfl (by decide +kernel) ⟨(Nat.le_of_ble_eq_true rfl), (Nat.le_of_ble_eq_true rfl)⟩) rfl hl.1 rfl (Nat.le_of_ble_eq_true rfl) dX3_exclude_19 ⟨(Nat.le_of_ble_eq_true rfl), (Nat.le_of_ble_eq_true rfl)⟩ (fun x_8 σ_7 H locs h1 hM hS => ?_)
      replace h := h1
      clear h1
      refine lv_if_ne (tgt := 27) hx hb dX3_exclude_22 (by decide) (fun hc => ?_) (fun hc => ?_)
      · replace h := h.1 hc
        refine lv_aload_n hx hb dX3_exclude_27 rfl (lv_at hl 0 rfl) ?_
        obtain ⟨hk_9, h⟩ := h
        refine gf3_2 hx hb hts inX3_exclude_3 hown hE.1 hM hk_9 (hts (.fieldLink RX3 21 "WorkCoder" "excluded" "[J") (by decide +kernel)) dX3_exclude_28 (fun r_10 er_10 => ?_)
        replace h := h r_10 er_10
        clear er_10
        refine lv_iload_n hx hb dX3_exclude_31 rfl (lv_at hl 1 rfl) ?_
        obtain ⟨a_11, rfl, h⟩ := h
        obtain ⟨hk_12, h⟩ := h
        obtain ⟨hv_13, h⟩ := h
        refine mm_lald hx hb hE.1 hM hk_12 hv_13 dX3_exclude_32 ?_
        refine lv_iload_n hx hb dX3_exclude_33 rfl (lv_at hl 2 rfl) ?_
        refine clSi (As := [.long (mL σ_7 a_11 (ix x1)), .int x2]) (rest := []) ⟨hx, hb, hml, hown, hts⟩ hM hE hS (ok_X3_bit l D cs A (mL σ_7 a_11 (ix x1)) x2 _ _ h) (va_cwS 2 hts gX3_exclude_X3_bit rfl rfl rfl (by decide +kernel) ⟨(Nat.le_of_ble_eq_true rfl), (Nat.le_of_ble_eq_true rfl)⟩) rfl hl.1 rfl (Nat.le_of_ble_eq_true rfl) dX3_exclude_34 ⟨(Nat.le_of_ble_eq_true rfl), (Nat.le_of_ble_eq_true rfl)⟩ (fun x_15 σ_14 H locs h1 hM hS => ?_)
        replace h := h1
        clear h1
        refine lv_istore (i := 4) (lv' := [(4, .int x_15), (0, .ref t), (1, .int x1), (2, .int x2), (3, .int x3)]) hx hb dX3_exclude_37 hl (by decide) rfl (fun ls hl => ?_)
        refine lv_aload_n hx hb dX3_exclude_39 rfl (lv_at hl 1 rfl) ?_
        obtain ⟨hk_16, h⟩ := h
        refine gf3_2 hx hb hts inX3_exclude_3 hown hE.1 hM hk_16 (hts (.fieldLink RX3 21 "WorkCoder" "excluded" "[J") (by decide +kernel)) dX3_exclude_40 (fun r_17 er_17 => ?_)
        replace h := h r_17 er_17
        clear er_17
        refine lv_iload_n hx hb dX3_exclude_43 rfl (lv_at hl 2 rfl) ?_
        refine lv_aload_n hx hb dX3_exclude_44 rfl (lv_at hl 1 rfl) ?_
        refine gf3_2 hx hb hts inX3_exclude_3 hown hE.1 hM hk_16 (hts (.fieldLink RX3 21 "WorkCoder" "excluded" "[J") (by decide +kernel)) dX3_exclude_45 (fun r_18 er_18 => ?_)
        replace h := h r_18 er_18
        clear er_18
        refine lv_iload_n hx hb dX3_exclude_48 rfl (lv_at hl 2 rfl) ?_
        obtain ⟨a_19, rfl, h⟩ := h
        obtain ⟨hk_20, h⟩ := h
        obtain ⟨hv_21, h⟩ := h
        refine mm_lald hx hb hE.1 hM hk_20 hv_21 dX3_exclude_49 ?_
        refine lv_iload_n hx hb dX3_exclude_50 rfl (lv_at hl 3 rfl) ?_
        refine lv_iload_n hx hb dX3_exclude_51 rfl (lv_at hl 4 rfl) ?_
        refine clSl (As := [.long (mL σ_14 a_19 (ix x1)), .int x2, .int x3]) (rest := [.int x1, va_rf r_17]) ⟨hx, hb, hml, hown, hts⟩ hM hE hS (ok_X3_withBit l D cs A (mL σ_14 a_19 (ix x1)) x2 x3 _ _ h) (va_cwS 3 hts gX3_exclude_X3_withBit rfl rfl rfl (by decide +kernel) ⟨(Nat.le_of_ble_eq_true rfl), (Nat.le_of_ble_eq_true rfl)⟩) rfl hl.1 rfl (cat_le (Nat.le_of_ble_eq_true rfl)) dX3_exclude_52 ⟨(Nat.le_of_ble_eq_true rfl), (Nat.le_of_ble_eq_true rfl)⟩ (fun y_23 σ_22 H locs h1 hM hS => ?_)
        replace h := h1
        clear h1
        obtain ⟨a_24, rfl, h⟩ := h
        obtain ⟨hk_25, h⟩ := h
        obtain ⟨hv_26, h⟩ := h
        refine mm_last hx hb hE.1 hM hS hk_25 hv_26 dX3_exclude_55 (fun H locs hM hS => ?_)
        replace h := h _ rfl
        refine lv_iload hx hb dX3_exclude_56 (lv_at hl 0 rfl) ?_
        exact W.iret (v := x_15) hx hb hr (fun t_ ht hW => ⟨⟨_, _, rfl, h, mB_of ht hM⟩, hS.F ht⟩) hS.2.2 dX3_exclude_58
      · replace h := h.2 hc
        refine lv_iconst (v := (-1)) hx hb dX3_exclude_25 (by decide) ?_
        exact W.iret (v := (-1)) hx hb hr (fun t_ ht hW => ⟨⟨_, _, rfl, h, mB_of ht hM⟩, hS.F ht⟩) hS.2.2 dX3_exclude_26
end S_X3_exclude
set_option maxHeartbeats 4000000 in
set_option maxRecDepth 100000 in
theorem ok_X3_exclude (l : Launch) (D : va_G) (cs : CS) (A : Nat → Prop) (t : Nat) (x1 : Int32) (x2 : Int32) (x3 : Int32) (σ : MM) (k : Int32 → MM → Prop) (h : wX3_exclude t x1 x2 x3 σ k) : Met l yX3_exclude wsX3_exclude rmX3_exclude (va_Pc [.ref t, .int x1, .int x2, .int x3] (mP D cs A σ)) (va_Qi k (mB D cs A) A) 0 0 A := by
  refine Met.ofW (cc := cX3_exclude) (maxL := 5) (ret := (some .int)) (by decide) rfl ?_
  intro p e s m args below meth c s₁ B hml hv
  obtain ⟨rfl, hM, hE⟩ := hv
  have CX : CXM p s m _ meth c cX3_exclude 5 (some .int) "exclude" RX3 wsX3_exclude D cs A := ⟨B.exec, B.bytes, hml, B.returns, (name_of_methodNamed B.named B.method).1, findClass_of_methodNamed B.named, atoms_spec (ws := wsX3_exclude) B.pre, B.notSynchronized, hE⟩
  have hl := lv_entry ([.ref t, .int x1, .int x2, .int x3]) (n := 5) (Nat.le_of_ble_eq_true rfl)
  rw [lg_entry_eq]
  exact oX3_exclude_0 CX x1 x2 x3 σ _ _ _ h hM va_S.rf hl
/-! WorkCoder.setOf(J)J -/
abbrev rmX3_setOf : Room := { frames := 1, cells := 0, slots := 0, locals := 22 }
theorem inX3_setOf_3 : ∀ w ∈ wsX30, w ∈ wsX3_setOf := fun _ h => List.mem_cons_of_mem _ (List.mem_append_right _ (h))
section S_X3_setOf
variable {p : Program} {l : Launch} {e : Env} {s : State} {m : MethodId} {args : Array Value} {below : List Frame} {meth : Method} {c : Code} {D : va_G} {cs : CS} {A : Nat → Prop}
set_option maxHeartbeats 4000000 in
set_option maxRecDepth 100000 in
theorem oX3_setOf_5 {k : Int64 → MM → Prop} {t : Nat} (CX : CXM p s m args meth c cX3_setOf 6 (some .long) "setOf" RX3 wsX3_setOf D cs A) : ∀ (n : Nat), ∀ (y1 : Int64) (y3 : Int64) (x5 : Int32) (σ : MM) (H : Heap) (locs : List Loc) (ls : Array Slot), wX3_setOf_5 k t  n y1 y3 x5 σ → PH D cs A σ H → va_S A s.heap H locs → lv_has ls 6 [(0, .ref t), (1, .long y1), (3, .long y3), (5, .int x5)] → W p l e (headSpec wsX3_setOf rmX3_setOf).room s m args below meth c H locs 0 0 (MQ below (va_Ql k (mB D cs A) A) args s 0 0 A) (F0 m 5 ls []) := by
  intro n
  induction n with
  | zero => intro y1 y3 x5 σ H locs ls h; exact h.elim
  | succ n ih =>
    intro y1 y3 x5 σ H locs ls h hM hS hl
    have ⟨hx, hb, hml, hr, hnm, hown, hts, hlocks, hE⟩ := CX
    unfold wX3_setOf_5 at h
    refine lv_iload hx hb dX3_setOf_5 (lv_at hl 3 rfl) ?_
    refine lv_aload_n hx hb dX3_setOf_7 rfl (lv_at hl 0 rfl) ?_
    obtain ⟨hk_1, h⟩ := h
    refine gf3_4 hx hb hts inX3_setOf_3 hown hE.1 hM hk_1 (hts (.fieldLink RX3 28 "WorkCoder" "standsFor" "[I") (by decide +kernel)) dX3_setOf_8 (fun r_2 er_2 => ?_)
    replace h := h r_2 er_2
    clear er_2
    obtain ⟨a_3, rfl, h⟩ := h
    obtain ⟨hk_4, h⟩ := h
    refine mm_alen6 hx hb hE.1 hM hk_4 dX3_setOf_11 ?_
    refine lv_icmp_ge (tgt := 43) hx hb dX3_setOf_12 (by decide) (fun hc => ?_) (fun hc => ?_)
    · replace h := h.1 hc
      refine lv_lload_n hx hb dX3_setOf_43 rfl (lv_at hl 2 rfl) ?_
      exact W.lret (v := y3) hx hb hr (fun t_ ht hW => ⟨⟨_, _, rfl, h, mB_of ht hM⟩, hS.F ht⟩) hS.2.2 dX3_setOf_44
    · replace h := h.2 hc
      refine lv_lload_n hx hb dX3_setOf_15 rfl (lv_at hl 1 rfl) ?_
      refine lv_iload hx hb dX3_setOf_16 (lv_at hl 3 rfl) ?_
      refine clSi (As := [.long y1, .int x5]) (rest := []) ⟨hx, hb, hml, hown, hts⟩ hM hE hS (ok_X3_bit l D cs A y1 x5 _ _ h) (va_cwS 2 hts gX3_setOf_X3_bit rfl rfl rfl (by decide +kernel) ⟨(Nat.le_of_ble_eq_true rfl), (Nat.le_of_ble_eq_true rfl)⟩) rfl hl.1 rfl (Nat.le_of_ble_eq_true rfl) dX3_setOf_18 ⟨(Nat.le_of_ble_eq_true rfl), (Nat.le_of_ble_eq_true rfl)⟩ (fun x_6 σ_5 H locs h1 hM hS => ?_)
      replace h := h1
      clear h1
      refine lv_iconst (v := 1) hx hb dX3_setOf_21 (by decide) ?_
      refine lv_icmp_ne (tgt := 37) hx hb dX3_setOf_22 (by decide) (fun hc => ?_) (fun hc => ?_)
      · replace h := h.1 hc
        obtain ⟨x_7, ex_7⟩ : ∃ y : Int32, y = x5 + 1 := ⟨_, rfl⟩
        replace h := h x_7 ex_7
        refine lv_iinc (v := x_7) (lv' := [(5, .int x_7), (0, .ref t), (1, .long y1), (3, .long y3)]) hx hb dX3_setOf_37 hl (k := 3) rfl (by rw [ex_7]; rfl) (by decide) rfl (fun ls hl => ?_)
        refine lv_goto (tgt := 5) hx hb dX3_setOf_40 (by decide) ?_
        exact ih _ _ _ _ _ _ _ h hM hS (lv_sub hl [1, 2, 3, 0] rfl)
      · replace h := h.2 hc
        refine lv_lload_n hx hb dX3_setOf_25 rfl (lv_at hl 2 rfl) ?_
        refine lv_lconst (v := 1) hx hb dX3_setOf_26 (by decide) ?_
        refine lv_aload_n hx hb dX3_setOf_27 rfl (lv_at hl 0 rfl) ?_
        obtain ⟨hk_8, h⟩ := h
        refine gf3_4 hx hb hts inX3_setOf_3 hown hE.1 hM hk_8 (hts (.fieldLink RX3 28 "WorkCoder" "standsFor" "[I") (by decide +kernel)) dX3_setOf_28 (fun r_9 er_9 => ?_)
        replace h := h r_9 er_9
        clear er_9
        refine lv_iload hx hb dX3_setOf_31 (lv_at hl 3 rfl) ?_
        obtain ⟨a_10, rfl, h⟩ := h
        obtain ⟨hk_11, h⟩ := h
        obtain ⟨hv_12, h⟩ := h
        refine mm_iald hx hb hE.1 hM hk_11 hv_12 dX3_setOf_33 ?_
        refine lv_lshl hx hb dX3_setOf_34 (v := lShl (1 : Int64) (mI σ_5 a_10 (ix x5))) rfl ?_
        refine lv_lor hx hb dX3_setOf_35 ?_
        refine lv_topl (fun y_13 ey_13 => ?_)
        replace h := h y_13 ey_13
        refine lv_lstore_n (i := 3) (lv' := [(3, .long y_13), (0, .ref t), (1, .long y1), (5, .int x5)]) hx hb dX3_setOf_36 rfl hl (by decide) rfl (fun ls hl => ?_)
        obtain ⟨x_14, ex_14⟩ : ∃ y : Int32, y = x5 + 1 := ⟨_, rfl⟩
        replace h := h x_14 ex_14
        refine lv_iinc (v := x_14) (lv' := [(5, .int x_14), (3, .long y_13), (0, .ref t), (1, .long y1)]) hx hb dX3_setOf_37 hl (k := 3) rfl (by rw [ex_14]; rfl) (by decide) rfl (fun ls hl => ?_)
        refine lv_goto (tgt := 5) hx hb dX3_setOf_40 (by decide) ?_
        exact ih _ _ _ _ _ _ _ h hM hS (lv_sub hl [2, 3, 1, 0] rfl)
set_option maxHeartbeats 4000000 in
set_option maxRecDepth 100000 in
theorem oX3_setOf_0 {k : Int64 → MM → Prop} {t : Nat} (CX : CXM p s m args meth c cX3_setOf 6 (some .long) "setOf" RX3 wsX3_setOf D cs A) : ∀ (y1 : Int64) (σ : MM) (H : Heap) (locs : List Loc) (ls : Array Slot), wX3_setOf t y1 σ k → PH D cs A σ H → va_S A s.heap H locs → lv_has ls 6 [(0, .ref t), (1, .long y1)] → W p l e (headSpec wsX3_setOf rmX3_setOf).room s m args below meth c H locs 0 0 (MQ below (va_Ql k (mB D cs A) A) args s 0 0 A) (F0 m 0 ls []) := by
  intro y1 σ H locs ls h hM hS hl
  have ⟨hx, hb, hml, hr, hnm, hown, hts, hlocks, hE⟩ := CX
  unfold wX3_setOf at h
  refine lv_lconst (v := 0) hx hb dX3_setOf_0 (by decide) ?_
  refine lv_lstore_n (i := 3) (lv' := [(3, .long 0), (0, .ref t), (1, .long y1)]) hx hb dX3_setOf_1 rfl hl (by decide) rfl (fun ls hl => ?_)
  refine lv_iconst (v := 0) hx hb dX3_setOf_2 (by decide) ?_
  refine lv_istore (i := 5) (lv' := [(5, .int 0), (3, .long 0), (0, .ref t), (1, .long y1)]) hx hb dX3_setOf_3 hl (by decide) rfl (fun ls hl => ?_)
  obtain ⟨n0, h⟩ := h
  exact oX3_setOf_5 CX  n0 _ _ _ _ _ _ _ h hM hS (lv_sub hl [2, 3, 1, 0] rfl)
end S_X3_setOf
set_option maxHeartbeats 4000000 in
set_option maxRecDepth 100000 in
theorem ok_X3_setOf (l : Launch) (D : va_G) (cs : CS) (A : Nat → Prop) (t : Nat) (y1 : Int64) (σ : MM) (k : Int64 → MM → Prop) (h : wX3_setOf t y1 σ k) : Met l yX3_setOf wsX3_setOf rmX3_setOf (va_Pc [.ref t, .long y1] (mP D cs A σ)) (va_Ql k (mB D cs A) A) 0 0 A := by
  refine Met.ofW (cc := cX3_setOf) (maxL := 6) (ret := (some .long)) (by decide) rfl ?_
  intro p e s m args below meth c s₁ B hml hv
  obtain ⟨rfl, hM, hE⟩ := hv
  have CX : CXM p s m _ meth c cX3_setOf 6 (some .long) "setOf" RX3 wsX3_setOf D cs A := ⟨B.exec, B.bytes, hml, B.returns, (name_of_methodNamed B.named B.method).1, findClass_of_methodNamed B.named, atoms_spec (ws := wsX3_setOf) B.pre, B.notSynchronized, hE⟩
  have hl := lv_entry ([.ref t, .long y1]) (n := 6) (Nat.le_of_ble_eq_true rfl)
  rw [lg_entry_eq]
  exact oX3_setOf_0 CX y1 σ _ _ _ h hM va_S.rf hl
/-! WorkCoder.spell(II)I -/
abbrev rmX3_spell : Room := { frames := 2, cells := 0, slots := 0, locals := 47 }
theorem inX3_spell_0 : ∀ w ∈ wsX00, w ∈ wsX3_spell := fun _ h => List.mem_cons_of_mem _ (List.mem_append_right _ (h))
theorem inX3_spell_3 : ∀ w ∈ wsX30, w ∈ wsX3_spell := fun _ h => List.mem_cons_of_mem _ (List.mem_append_left _ (List.mem_append_right _ (h)))
section S_X3_spell
variable {p : Program} {l : Launch} {e : Env} {s : State} {m : MethodId} {args : Array Value} {below : List Frame} {meth : Method} {c : Code} {D : va_G} {cs : CS} {A : Nat → Prop}
set_option maxHeartbeats 4000000 in
set_option maxRecDepth 100000 in
theorem oX3_spell_35 {k : Int32 → MM → Prop} {t : Nat} (CX : CXM p s m args meth c cX3_spell 6 (some .int) "spell" RX3 wsX3_spell D cs A) : ∀ (n : Nat), ∀ (x3 : Int32) (x4 : Int32) (σ : MM) (H : Heap) (locs : List Loc) (ls : Array Slot), wX3_spell_35 k t  n x3 x4 σ → PH D cs A σ H → va_S A s.heap H locs → lv_has ls 6 [(0, .ref t), (3, .int x3), (4, .int x4)] → W p l e (headSpec wsX3_spell rmX3_spell).room s m args below meth c H locs 0 0 (MQ below (va_Qi k (mB D cs A) A) args s 0 0 A) (F0 m 35 ls []) := by
  intro n
  induction n with
  | zero => intro x3 x4 σ H locs ls h; exact h.elim
  | succ n ih =>
    intro x3 x4 σ H locs ls h hM hS hl
    have ⟨hx, hb, hml, hr, hnm, hown, hts, hlocks, hE⟩ := CX
    unfold wX3_spell_35 at h
    refine lv_iload hx hb dX3_spell_35 (lv_at hl 2 rfl) ?_
    refine lv_aload_n hx hb dX3_spell_37 rfl (lv_at hl 0 rfl) ?_
    obtain ⟨hk_1, h⟩ := h
    refine gf3_5 hx hb hts inX3_spell_3 hown hE.1 hM hk_1 (hts (.fieldLink RX3 34 "WorkCoder" "items" "[LWorkCoder$Item;") (by decide +kernel)) dX3_spell_38 (fun r_2 er_2 => ?_)
    replace h := h r_2 er_2
    clear er_2
    obtain ⟨a_3, rfl, h⟩ := h
    obtain ⟨hk_4, h⟩ := h
    refine mm_alen9 hx hb hE.1 hM hk_4 dX3_spell_41 ?_
    refine lv_icmp_ge (tgt := 79) hx hb dX3_spell_42 (by decide) (fun hc => ?_) (fun hc => ?_)
    · replace h := h.1 hc
      refine lv_iload_n hx hb dX3_spell_79 rfl (lv_at hl 1 rfl) ?_
      exact W.iret (v := x3) hx hb hr (fun t_ ht hW => ⟨⟨_, _, rfl, h, mB_of ht hM⟩, hS.F ht⟩) hS.2.2 dX3_spell_80
    · replace h := h.2 hc
      refine lv_aload_n hx hb dX3_spell_45 rfl (lv_at hl 0 rfl) ?_
      refine gf3_5 hx hb hts inX3_spell_3 hown hE.1 hM hk_1 (hts (.fieldLink RX3 34 "WorkCoder" "items" "[LWorkCoder$Item;") (by decide +kernel)) dX3_spell_46 (fun r_5 er_5 => ?_)
      replace h := h r_5 er_5
      clear er_5
      refine lv_iload hx hb dX3_spell_49 (lv_at hl 2 rfl) ?_
      obtain ⟨a_6, rfl, h⟩ := h
      obtain ⟨hk_7, h⟩ := h
      obtain ⟨hv_8, h⟩ := h
      refine mm_aald9 hx hb hE.1 hM hk_7 hv_8 dX3_spell_51 (fun r_9 er_9 => ?_)
      replace h := h r_9 er_9
      clear er_9
      refine nl_astore (i := 5) (lv' := [(5, va_rf r_9), (0, .ref t), (3, .int x3), (4, .int x4)]) hx hb dX3_spell_52 hl (by decide) rfl (fun ls hl => ?_)
      refine nl_aload hx hb dX3_spell_54 (lv_at hl 0 rfl) ?_
      refine nl_ifnull (tgt := 73) hx hb dX3_spell_56 (by decide) (fun hn => ?_) (fun a_10 hn => ?_)
      · replace h := h.1 hn
        subst hn
        obtain ⟨x_11, ex_11⟩ : ∃ y : Int32, y = x4 + 1 := ⟨_, rfl⟩
        replace h := h x_11 ex_11
        refine lv_iinc (v := x_11) (lv' := [(4, .int x_11), (5, .null), (0, .ref t), (3, .int x3)]) hx hb dX3_spell_73 hl (k := 3) rfl (by rw [ex_11]; rfl) (by decide) rfl (fun ls hl => ?_)
        refine lv_goto (tgt := 35) hx hb dX3_spell_76 (by decide) ?_
        exact ih _ _ _ _ _ _ h hM hS (lv_sub hl [2, 3, 0] rfl)
      · replace h := h.2 a_10 hn
        subst hn
        refine lv_aload hx hb dX3_spell_59 (lv_at hl 0 rfl) ?_
        refine lv_aload_n hx hb dX3_spell_61 rfl (lv_at hl 1 rfl) ?_
        refine lv_aload hx hb dX3_spell_62 (lv_at hl 0 rfl) ?_
        obtain ⟨hk_12, h⟩ := h
        refine gf0_2 hx hb hts inX3_spell_0 hown hE.1 hM hk_12 (hts (.fieldLink RX3 83 "WorkCoder$Item" "words" "J") (by decide +kernel)) dX3_spell_64 ?_
        refine clVl (C := RX3) (b := t) (As := [.long (mL σ a_10 2)]) (rest := [.ref a_10]) ⟨hx, hb, hml, hown, hts⟩ hM hE hS (ok_X3_setOf l D cs A t (mL σ a_10 2) _ _ h) (cwV 1 hts gX3_spell_X3_setOf rfl rfl rfl (by decide +kernel) ⟨(Nat.le_of_ble_eq_true rfl), (Nat.le_of_ble_eq_true rfl)⟩) (rc3 hM hE.1 hk_1) rfl hl.1 rfl (Nat.le_of_ble_eq_true rfl) dX3_spell_67 ⟨(Nat.le_of_ble_eq_true rfl), (Nat.le_of_ble_eq_true rfl)⟩ (fun y_14 σ_13 H locs h1 hM hS => ?_)
        replace h := h1
        clear h1
        obtain ⟨hk_15, h⟩ := h
        refine pf0_3 hx hb hts inX3_spell_0 hown hE.1 hM hS hk_15 (hts (.fieldLink RX3 91 "WorkCoder$Item" "set" "J") (by decide +kernel)) dX3_spell_70 (fun H locs hM hS => ?_)
        replace h := h _ rfl
        obtain ⟨x_17, ex_17⟩ : ∃ y : Int32, y = x4 + 1 := ⟨_, rfl⟩
        replace h := h x_17 ex_17
        refine lv_iinc (v := x_17) (lv' := [(4, .int x_17), (5, .ref a_10), (0, .ref t), (3, .int x3)]) hx hb dX3_spell_73 hl (k := 3) rfl (by rw [ex_17]; rfl) (by decide) rfl (fun ls hl => ?_)
        refine lv_goto (tgt := 35) hx hb dX3_spell_76 (by decide) ?_
        exact ih _ _ _ _ _ _ h hM hS (lv_sub hl [2, 3, 0] rfl)
set_option maxHeartbeats 4000000 in
set_option maxRecDepth 100000 in
theorem oX3_spell_0 {k : Int32 → MM → Prop} {t : Nat} (CX : CXM p s m args meth c cX3_spell 6 (some .int) "spell" RX3 wsX3_spell D cs A) : ∀ (x1 : Int32) (x2 : Int32) (σ : MM) (H : Heap) (locs : List Loc) (ls : Array Slot), wX3_spell t x1 x2 σ k → PH D cs A σ H → va_S A s.heap H locs → lv_has ls 6 [(0, .ref t), (1, .int x1), (2, .int x2)] → W p l e (headSpec wsX3_spell rmX3_spell).room s m args below meth c H locs 0 0 (MQ below (va_Qi k (mB D cs A) A) args s 0 0 A) (F0 m 0 ls []) := by
  intro x1 x2 σ H locs ls h hM hS hl
  have ⟨hx, hb, hml, hr, hnm, hown, hts, hlocks, hE⟩ := CX
  unfold wX3_spell at h
  refine lv_aload_n hx hb dX3_spell_0 rfl (lv_at hl 0 rfl) ?_
  refine lv_iload_n hx hb dX3_spell_1 rfl (lv_at hl 1 rfl) ?_
  obtain ⟨hk_1, h⟩ := h
  refine clVi (C := RX3) (b := t) (As := [.int x1]) (rest := []) ⟨hx, hb, hml, hown, hts⟩ hM hE hS (ok_X3_isWord l D cs A t x1 _ _ h) (cwV 1 hts gX3_spell_X3_isWord rfl rfl rfl (by decide +kernel) ⟨(Nat.le_of_ble_eq_true rfl), (Nat.le_of_ble_eq_true rfl)⟩) (rc3 hM hE.1 hk_1) rfl hl.1 rfl (Nat.le_of_ble_eq_true rfl) dX3_spell_2 ⟨(Nat.le_of_ble_eq_true rfl), (Nat.le_of_ble_eq_true rfl)⟩ (fun x_3 σ_2 H locs h1 hM hS => ?_)
  replace h := h1
  clear h1
  refine lv_if_eq (tgt := 16) hx hb dX3_spell_5 (by decide) (fun hc => ?_) (fun hc => ?_)
  · replace h := h.1 hc
    refine lv_iconst (v := (-1)) hx hb dX3_spell_16 (by decide) ?_
    exact W.iret (v := (-1)) hx hb hr (fun t_ ht hW => ⟨⟨_, _, rfl, h, mB_of ht hM⟩, hS.F ht⟩) hS.2.2 dX3_spell_17
  · replace h := h.2 hc
    refine lv_aload_n hx hb dX3_spell_8 rfl (lv_at hl 0 rfl) ?_
    refine lv_iload_n hx hb dX3_spell_9 rfl (lv_at hl 2 rfl) ?_
    obtain ⟨hk_4, h⟩ := h
    refine clVi (C := RX3) (b := t) (As := [.int x2]) (rest := []) ⟨hx, hb, hml, hown, hts⟩ hM hE hS (ok_X3_isWord l D cs A t x2 _ _ h) (cwV 1 hts gX3_spell_X3_isWord rfl rfl rfl (by decide +kernel) ⟨(Nat.le_of_ble_eq_true rfl), (Nat.le_of_ble_eq_true rfl)⟩) (rc3 hM hE.1 hk_4) rfl hl.1 rfl (Nat.le_of_ble_eq_true rfl) dX3_spell_10 ⟨(Nat.le_of_ble_eq_true rfl), (Nat.le_of_ble_eq_true rfl)⟩ (fun x_6 σ_5 H locs h1 hM hS => ?_)
    replace h := h1
    clear h1
    refine lv_if_ne (tgt := 18) hx hb dX3_spell_13 (by decide) (fun hc => ?_) (fun hc => ?_)
    · replace h := h.1 hc
      refine lv_aload_n hx hb dX3_spell_18 rfl (lv_at hl 0 rfl) ?_
      obtain ⟨hk_7, h⟩ := h
      refine gf3_4 hx hb hts inX3_spell_3 hown hE.1 hM hk_7 (hts (.fieldLink RX3 28 "WorkCoder" "standsFor" "[I") (by decide +kernel)) dX3_spell_19 (fun r_8 er_8 => ?_)
      replace h := h r_8 er_8
      clear er_8
      refine lv_iload_n hx hb dX3_spell_22 rfl (lv_at hl 1 rfl) ?_
      obtain ⟨a_9, rfl, h⟩ := h
      obtain ⟨hk_10, h⟩ := h
      obtain ⟨hv_11, h⟩ := h
      refine mm_iald hx hb hE.1 hM hk_10 hv_11 dX3_spell_23 ?_
      refine lv_topi (fun x_12 ex_12 => ?_)
      replace h := h x_12 ex_12
      refine lv_istore_n (i := 3) (lv' := [(3, .int x_12), (0, .ref t), (1, .int x1), (2, .int x2)]) hx hb dX3_spell_24 rfl hl (by decide) rfl (fun ls hl => ?_)
      refine lv_aload_n hx hb dX3_spell_25 rfl (lv_at hl 1 rfl) ?_
      refine gf3_4 hx hb hts inX3_spell_3 hown hE.1 hM hk_7 (hts (.fieldLink RX3 28 "WorkCoder" "standsFor" "[I") (by decide +kernel)) dX3_spell_26 (fun r_13 er_13 => ?_)
      replace h := h r_13 er_13
      clear er_13
      refine lv_iload_n hx hb dX3_spell_29 rfl (lv_at hl 2 rfl) ?_
      refine lv_iload_n hx hb dX3_spell_30 rfl (lv_at hl 3 rfl) ?_
      obtain ⟨a_14, rfl, h⟩ := h
      obtain ⟨hk_15, h⟩ := h
      obtain ⟨hv_16, h⟩ := h
      refine mm_iast hx hb hE.1 hM hS hk_15 hv_16 dX3_spell_31 (fun H locs hM hS => ?_)
      replace h := h _ rfl
      refine lv_iconst (v := 0) hx hb dX3_spell_32 (by decide) ?_
      refine lv_istore (i := 4) (lv' := [(4, .int 0), (3, .int x_12), (0, .ref t), (1, .int x1), (2, .int x2)]) hx hb dX3_spell_33 hl (by decide) rfl (fun ls hl => ?_)
      obtain ⟨n0, h⟩ := h
      exact oX3_spell_35 CX  n0 _ _ _ _ _ _ h hM hS (lv_sub hl [2, 1, 0] rfl)
    · replace h := h.2 hc
      refine lv_iconst (v := (-1)) hx hb dX3_spell_16 (by decide) ?_
      exact W.iret (v := (-1)) hx hb hr (fun t_ ht hW => ⟨⟨_, _, rfl, h, mB_of ht hM⟩, hS.F ht⟩) hS.2.2 dX3_spell_17
end S_X3_spell
set_option maxHeartbeats 4000000 in
set_option maxRecDepth 100000 in
theorem ok_X3_spell (l : Launch) (D : va_G) (cs : CS) (A : Nat → Prop) (t : Nat) (x1 : Int32) (x2 : Int32) (σ : MM) (k : Int32 → MM → Prop) (h : wX3_spell t x1 x2 σ k) : Met l yX3_spell wsX3_spell rmX3_spell (va_Pc [.ref t, .int x1, .int x2] (mP D cs A σ)) (va_Qi k (mB D cs A) A) 0 0 A := by
  refine Met.ofW (cc := cX3_spell) (maxL := 6) (ret := (some .int)) (by decide) rfl ?_
  intro p e s m args below meth c s₁ B hml hv
  obtain ⟨rfl, hM, hE⟩ := hv
  have CX : CXM p s m _ meth c cX3_spell 6 (some .int) "spell" RX3 wsX3_spell D cs A := ⟨B.exec, B.bytes, hml, B.returns, (name_of_methodNamed B.named B.method).1, findClass_of_methodNamed B.named, atoms_spec (ws := wsX3_spell) B.pre, B.notSynchronized, hE⟩
  have hl := lv_entry ([.ref t, .int x1, .int x2]) (n := 6) (Nat.le_of_ble_eq_true rfl)
  rw [lg_entry_eq]
  exact oX3_spell_0 CX x1 x2 σ _ _ _ h hM va_S.rf hl
