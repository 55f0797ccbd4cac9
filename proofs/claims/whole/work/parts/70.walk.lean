/-! WorkCoderModel.in(III)Z -/
abbrev rmX4_in : Room := { frames := 0, cells := 0, slots := 0, locals := 0 }
section S_X4_in
variable {p : Program} {l : Launch} {e : Env} {s : State} {m : MethodId} {args : Array Value} {below : List Frame} {meth : Method} {c : Code} {D : va_G} {cs : CS} {A : Nat → Prop}
set_option maxHeartbeats 4000000 in
set_option maxRecDepth 100000 in
theorem oX4_in_0 {k : Int32 → MM → Prop} (CX : CXM p s m args meth c cX4_in 3 (some .boolean) "in" RX4 wsX4_in D cs A) : ∀ (x0 : Int32) (x1 : Int32) (x2 : Int32) (σ : MM) (H : Heap) (locs : List Loc) (ls : Array Slot), wX4_in x0 x1 x2 σ k → PH D cs A σ H → va_S A s.heap H locs → lv_has ls 3 [(0, .int x0), (1, .int x1), (2, .int x2)] → W p l e (headSpec wsX4_in rmX4_in).room s m args below meth c H locs 0 0 (MQ below (va_Qi k (mB D cs A) A) args s 0 0 A) (F0 m 0 ls []) := by
  intro x0 x1 x2 σ H locs ls h hM hS hl
  have ⟨hx, hb, hml, hr, hnm, hown, hts, hlocks, hE⟩ := CX
  unfold wX4_in at h
  refine lv_iload_n hx hb dX4_in_0 rfl (lv_at hl 0 rfl) ?_
  refine lv_iload_n hx hb dX4_in_1 rfl (lv_at hl 1 rfl) ?_
  refine lv_icmp_lt (tgt := 14) hx hb dX4_in_2 (by decide) (fun hc => ?_) (fun hc => ?_)
  · replace h := h.1 hc
    refine lv_iconst (v := 0) hx hb dX4_in_14 (by decide) ?_
    exact W.zret (v := 0) (ty := .boolean) hx hb hr rfl (fun t_ ht hW => ⟨⟨_, _, rfl, h, mB_of ht hM⟩, hS.F ht⟩) hS.2.2 dX4_in_15
  · replace h := h.2 hc
    refine lv_iload_n hx hb dX4_in_5 rfl (lv_at hl 0 rfl) ?_
    refine lv_iload_n hx hb dX4_in_6 rfl (lv_at hl 2 rfl) ?_
    refine lv_icmp_gt (tgt := 14) hx hb dX4_in_7 (by decide) (fun hc => ?_) (fun hc => ?_)
    · replace h := h.1 hc
      refine lv_iconst (v := 0) hx hb dX4_in_14 (by decide) ?_
      exact W.zret (v := 0) (ty := .boolean) hx hb hr rfl (fun t_ ht hW => ⟨⟨_, _, rfl, h, mB_of ht hM⟩, hS.F ht⟩) hS.2.2 dX4_in_15
    · replace h := h.2 hc
      refine lv_iconst (v := 1) hx hb dX4_in_10 (by decide) ?_
      refine lv_goto (tgt := 15) hx hb dX4_in_11 (by decide) ?_
      exact W.zret (v := 1) (ty := .boolean) hx hb hr rfl (fun t_ ht hW => ⟨⟨_, _, rfl, h, mB_of ht hM⟩, hS.F ht⟩) hS.2.2 dX4_in_15
end S_X4_in
set_option maxHeartbeats 4000000 in
set_option maxRecDepth 100000 in
theorem ok_X4_in (l : Launch) (D : va_G) (cs : CS) (A : Nat → Prop) (x0 : Int32) (x1 : Int32) (x2 : Int32) (σ : MM) (k : Int32 → MM → Prop) (h : wX4_in x0 x1 x2 σ k) : Met l yX4_in wsX4_in rmX4_in (va_Pc [.int x0, .int x1, .int x2] (mP D cs A σ)) (va_Qi k (mB D cs A) A) 0 0 A := by
  refine Met.ofW (cc := cX4_in) (maxL := 3) (ret := (some .boolean)) (by decide) rfl ?_
  intro p e s m args below meth c s₁ B hml hv
  obtain ⟨rfl, hM, hE⟩ := hv
  have CX : CXM p s m _ meth c cX4_in 3 (some .boolean) "in" RX4 wsX4_in D cs A := ⟨B.exec, B.bytes, hml, B.returns, (name_of_methodNamed B.named B.method).1, findClass_of_methodNamed B.named, atoms_spec (ws := wsX4_in) B.pre, B.notSynchronized, hE⟩
  have hl := lv_entry ([.int x0, .int x1, .int x2]) (n := 3) (Nat.le_of_ble_eq_true rfl)
  rw [lg_entry_eq]
  exact oX4_in_0 CX x0 x1 x2 σ _ _ _ h hM va_S.rf hl
/-! WorkCoderModel.isWord(I)Z -/
abbrev rmX4_isWord : Room := { frames := 1, cells := 0, slots := 0, locals := 22 }
section S_X4_isWord
variable {p : Program} {l : Launch} {e : Env} {s : State} {m : MethodId} {args : Array Value} {below : List Frame} {meth : Method} {c : Code} {D : va_G} {cs : CS} {A : Nat → Prop}
set_option maxHeartbeats 4000000 in
set_option maxRecDepth 100000 in
theorem oX4_isWord_0 {k : Int32 → MM → Prop} (CX : CXM p s m args meth c cX4_isWord 1 (some .boolean) "isWord" RX4 wsX4_isWord D cs A) : ∀ (x0 : Int32) (σ : MM) (H : Heap) (locs : List Loc) (ls : Array Slot), wX4_isWord x0 σ k → PH D cs A σ H → va_S A s.heap H locs → lv_has ls 1 [(0, .int x0)] → W p l e (headSpec wsX4_isWord rmX4_isWord).room s m args below meth c H locs 0 0 (MQ below (va_Qi k (mB D cs A) A) args s 0 0 A) (F0 m 0 ls []) := by
  intro x0 σ H locs ls h hM hS hl
  have ⟨hx, hb, hml, hr, hnm, hown, hts, hlocks, hE⟩ := CX
  unfold wX4_isWord at h
  refine lv_iload_n hx hb dX4_isWord_0 rfl (lv_at hl 0 rfl) ?_
  refine lv_iconst (v := 0) hx hb dX4_isWord_1 (by decide) ?_
  refine lv_bipush (v := 59) hx hb dX4_isWord_2 (by decide) ?_
  refine clSi (As := [.int x0, .int 0, .int 59]) (rest := []) ⟨hx, hb, hml, hown, hts⟩ hM hE hS (ok_X4_in l D cs A x0 0 59 _ _ h) (va_cwS 3 hts gX4_isWord_X4_in rfl rfl rfl (by decide +kernel) ⟨(Nat.le_of_ble_eq_true rfl), (Nat.le_of_ble_eq_true rfl)⟩) rfl hl.1 rfl (Nat.le_of_ble_eq_true rfl) dX4_isWord_4 ⟨(Nat.le_of_ble_eq_true rfl), (Nat.le_of_ble_eq_true rfl)⟩ (fun x_2 σ_1 H locs h1 hM hS => ?_)
  replace h := h1
  clear h1
  obtain ⟨hz_3, h⟩ := h
  exact W.zret (v := x_2) (ty := .boolean) hx hb hr (bz_narrow hz_3) (fun t_ ht hW => ⟨⟨_, _, rfl, h, mB_of ht hM⟩, hS.F ht⟩) hS.2.2 dX4_isWord_7
end S_X4_isWord
set_option maxHeartbeats 4000000 in
set_option maxRecDepth 100000 in
theorem ok_X4_isWord (l : Launch) (D : va_G) (cs : CS) (A : Nat → Prop) (x0 : Int32) (σ : MM) (k : Int32 → MM → Prop) (h : wX4_isWord x0 σ k) : Met l yX4_isWord wsX4_isWord rmX4_isWord (va_Pc [.int x0] (mP D cs A σ)) (va_Qi k (mB D cs A) A) 0 0 A := by
  refine Met.ofW (cc := cX4_isWord) (maxL := 1) (ret := (some .boolean)) (by decide) rfl ?_
  intro p e s m args below meth c s₁ B hml hv
  obtain ⟨rfl, hM, hE⟩ := hv
  have CX : CXM p s m _ meth c cX4_isWord 1 (some .boolean) "isWord" RX4 wsX4_isWord D cs A := ⟨B.exec, B.bytes, hml, B.returns, (name_of_methodNamed B.named B.method).1, findClass_of_methodNamed B.named, atoms_spec (ws := wsX4_isWord) B.pre, B.notSynchronized, hE⟩
  have hl := lv_entry ([.int x0]) (n := 1) (Nat.le_of_ble_eq_true rfl)
  rw [lg_entry_eq]
  exact oX4_isWord_0 CX x0 σ _ _ _ h hM va_S.rf hl
/-! WorkCoderModel.bits(J)I -/
abbrev rmX4_bits : Room := { frames := 0, cells := 0, slots := 0, locals := 0 }
section S_X4_bits
variable {p : Program} {l : Launch} {e : Env} {s : State} {m : MethodId} {args : Array Value} {below : List Frame} {meth : Method} {c : Code} {D : va_G} {cs : CS} {A : Nat → Prop}
set_option maxHeartbeats 4000000 in
set_option maxRecDepth 100000 in
theorem oX4_bits_4 {k : Int32 → MM → Prop} (CX : CXM p s m args meth c cX4_bits 5 (some .int) "bits" RX4 wsX4_bits D cs A) : ∀ (n : Nat), ∀ (x2 : Int32) (y3 : Int64) (σ : MM) (H : Heap) (locs : List Loc) (ls : Array Slot), wX4_bits_4 k  n x2 y3 σ → PH D cs A σ H → va_S A s.heap H locs → lv_has ls 5 [(2, .int x2), (3, .long y3)] → W p l e (headSpec wsX4_bits rmX4_bits).room s m args below meth c H locs 0 0 (MQ below (va_Qi k (mB D cs A) A) args s 0 0 A) (F0 m 4 ls []) := by
  intro n
  induction n with
  | zero => intro x2 y3 σ H locs ls h; exact h.elim
  | succ n ih =>
    intro x2 y3 σ H locs ls h hM hS hl
    have ⟨hx, hb, hml, hr, hnm, hown, hts, hlocks, hE⟩ := CX
    unfold wX4_bits_4 at h
    refine lv_lload_n hx hb dX4_bits_4 rfl (lv_at hl 1 rfl) ?_
    refine lv_lconst (v := 0) hx hb dX4_bits_5 (by decide) ?_
    refine lc_eq (tgt := 22) hx hb dX4_bits_6 dX4_bits_7 (by decide) (fun hc => ?_) (fun hc => ?_)
    · replace h := h.1 hc
      refine lv_iload_n hx hb dX4_bits_22 rfl (lv_at hl 0 rfl) ?_
      exact W.iret (v := x2) hx hb hr (fun t_ ht hW => ⟨⟨_, _, rfl, h, mB_of ht hM⟩, hS.F ht⟩) hS.2.2 dX4_bits_23
    · replace h := h.2 hc
      obtain ⟨x_1, ex_1⟩ : ∃ y : Int32, y = x2 + 1 := ⟨_, rfl⟩
      replace h := h x_1 ex_1
      refine lv_iinc (v := x_1) (lv' := [(2, .int x_1), (3, .long y3)]) hx hb dX4_bits_10 hl (k := 0) rfl (by rw [ex_1]; rfl) (by decide) rfl (fun ls hl => ?_)
      refine lv_lload_n hx hb dX4_bits_13 rfl (lv_at hl 1 rfl) ?_
      refine lv_lload_n hx hb dX4_bits_14 rfl (lv_at hl 1 rfl) ?_
      refine lv_lconst (v := 1) hx hb dX4_bits_15 (by decide) ?_
      refine lv_lsub hx hb dX4_bits_16 ?_
      refine lv_land hx hb dX4_bits_17 ?_
      refine lv_topl (fun y_2 ey_2 => ?_)
      replace h := h y_2 ey_2
      refine lv_lstore_n (i := 3) (lv' := [(3, .long y_2), (2, .int x_1)]) hx hb dX4_bits_18 rfl hl (by decide) rfl (fun ls hl => ?_)
      refine lv_goto (tgt := 4) hx hb dX4_bits_19 (by decide) ?_
      exact ih _ _ _ _ _ _ h hM hS (lv_sub hl [1, 0] rfl)
set_option maxHeartbeats 4000000 in
set_option maxRecDepth 100000 in
theorem oX4_bits_0 {k : Int32 → MM → Prop} (CX : CXM p s m args meth c cX4_bits 5 (some .int) "bits" RX4 wsX4_bits D cs A) : ∀ (y0 : Int64) (σ : MM) (H : Heap) (locs : List Loc) (ls : Array Slot), wX4_bits y0 σ k → PH D cs A σ H → va_S A s.heap H locs → lv_has ls 5 [(0, .long y0)] → W p l e (headSpec wsX4_bits rmX4_bits).room s m args below meth c H locs 0 0 (MQ below (va_Qi k (mB D cs A) A) args s 0 0 A) (F0 m 0 ls []) := by
  intro y0 σ H locs ls h hM hS hl
  have ⟨hx, hb, hml, hr, hnm, hown, hts, hlocks, hE⟩ := CX
  unfold wX4_bits at h
  refine lv_iconst (v := 0) hx hb dX4_bits_0 (by decide) ?_
  refine lv_istore_n (i := 2) (lv' := [(2, .int 0), (0, .long y0)]) hx hb dX4_bits_1 rfl hl (by decide) rfl (fun ls hl => ?_)
  refine lv_lload_n hx hb dX4_bits_2 rfl (lv_at hl 1 rfl) ?_
  refine lv_lstore_n (i := 3) (lv' := [(3, .long y0), (2, .int 0), (0, .long y0)]) hx hb dX4_bits_3 rfl hl (by decide) rfl (fun ls hl => ?_)
  obtain ⟨n0, h⟩ := h
  exact oX4_bits_4 CX  n0 _ _ _ _ _ _ h hM hS (lv_sub hl [1, 0] rfl)
end S_X4_bits
set_option maxHeartbeats 4000000 in
set_option maxRecDepth 100000 in
theorem ok_X4_bits (l : Launch) (D : va_G) (cs : CS) (A : Nat → Prop) (y0 : Int64) (σ : MM) (k : Int32 → MM → Prop) (h : wX4_bits y0 σ k) : Met l yX4_bits wsX4_bits rmX4_bits (va_Pc [.long y0] (mP D cs A σ)) (va_Qi k (mB D cs A) A) 0 0 A := by
  refine Met.ofW (cc := cX4_bits) (maxL := 5) (ret := (some .int)) (by decide) rfl ?_
  intro p e s m args below meth c s₁ B hml hv
  obtain ⟨rfl, hM, hE⟩ := hv
  have CX : CXM p s m _ meth c cX4_bits 5 (some .int) "bits" RX4 wsX4_bits D cs A := ⟨B.exec, B.bytes, hml, B.returns, (name_of_methodNamed B.named B.method).1, findClass_of_methodNamed B.named, atoms_spec (ws := wsX4_bits) B.pre, B.notSynchronized, hE⟩
  have hl := lv_entry ([.long y0]) (n := 5) (Nat.le_of_ble_eq_true rfl)
  rw [lg_entry_eq]
  exact oX4_bits_0 CX y0 σ _ _ _ h hM va_S.rf hl
/-! WorkCoderModel.<init>()V -/
abbrev rmX4_init : Room := { frames := 1, cells := 24, slots := 2290, locals := 20 }
theorem inX4_init_4 : ∀ w ∈ wsX40, w ∈ wsX4_init := fun _ h => List.mem_cons_of_mem _ (List.mem_append_right _ (h))
section S_X4_init
variable {p : Program} {l : Launch} {e : Env} {s : State} {m : MethodId} {args : Array Value} {below : List Frame} {meth : Method} {c : Code} {D : va_G} {cs : CS} {A : Nat → Prop}
set_option maxHeartbeats 4000000 in
set_option maxRecDepth 100000 in
theorem oX4_init_222 {k : MM → Prop} {t : Nat} (CX : CXM p s m args meth c cX4_init 2 none "<init>" RX4 wsX4_init D cs A) : ∀ (n : Nat), ∀ (x1 : Int32) (σ : MM) (H : Heap) (locs : List Loc) (ls : Array Slot), wX4_init_222 k t  n x1 σ → PH D cs A σ H → va_S A s.heap H locs → lv_has ls 2 [(0, .ref t), (1, .int x1)] → W p l e (headSpec wsX4_init rmX4_init).room s m args below meth c H locs 24 2290 (MQ below (va_Qv k (mB D cs A) A) args s 24 2290 A) (F0 m 222 ls []) := by
  intro n
  induction n with
  | zero => intro x1 σ H locs ls h; exact h.elim
  | succ n ih =>
    intro x1 σ H locs ls h hM hS hl
    have ⟨hx, hb, hml, hr, hnm, hown, hts, hlocks, hE⟩ := CX
    unfold wX4_init_222 at h
    refine lv_iload_n hx hb dX4_init_222 rfl (lv_at hl 1 rfl) ?_
    refine lv_bipush (v := 60) hx hb dX4_init_223 (by decide) ?_
    refine lv_icmp_ge (tgt := 241) hx hb dX4_init_225 (by decide) (fun hc => ?_) (fun hc => ?_)
    · replace h := h.1 hc
      refine W.widen (k := 24) (n := 2290) (Nat.le_of_ble_eq_true rfl) (Nat.le_of_ble_eq_true rfl) ?_
      exact W.vret hx hb hr (fun t_ ht hW => ⟨⟨_, rfl, h, mB_of ht hM⟩, hS.F ht⟩) hS.2.2 dX4_init_241
    · replace h := h.2 hc
      refine lv_aload_n hx hb dX4_init_228 rfl (lv_at hl 0 rfl) ?_
      obtain ⟨hk_1, h⟩ := h
      refine gf4_1 hx hb hts inX4_init_4 hown hE.1 hM hk_1 (hts (.fieldLink RX4 17 "WorkCoderModel" "stands" "[I") (by decide +kernel)) dX4_init_229 (fun r_2 er_2 => ?_)
      replace h := h r_2 er_2
      clear er_2
      refine lv_iload_n hx hb dX4_init_232 rfl (lv_at hl 1 rfl) ?_
      refine lv_iload_n hx hb dX4_init_233 rfl (lv_at hl 1 rfl) ?_
      obtain ⟨a_3, rfl, h⟩ := h
      obtain ⟨hk_4, h⟩ := h
      obtain ⟨hv_5, h⟩ := h
      refine mm_iast hx hb hE.1 hM hS hk_4 hv_5 dX4_init_234 (fun H locs hM hS => ?_)
      replace h := h _ rfl
      obtain ⟨x_7, ex_7⟩ : ∃ y : Int32, y = x1 + 1 := ⟨_, rfl⟩
      replace h := h x_7 ex_7
      refine lv_iinc (v := x_7) (lv' := [(1, .int x_7), (0, .ref t)]) hx hb dX4_init_235 hl (k := 1) rfl (by rw [ex_7]; rfl) (by decide) rfl (fun ls hl => ?_)
      refine lv_goto (tgt := 222) hx hb dX4_init_238 (by decide) ?_
      exact ih _ _ _ _ _ h hM hS (lv_sub hl [1, 0] rfl)
set_option maxHeartbeats 4000000 in
set_option maxRecDepth 100000 in
theorem oX4_init_0 {k : MM → Prop} {t : Nat} (CX : CXM p s m args meth c cX4_init 2 none "<init>" RX4 wsX4_init D cs A) : ∀ (σ : MM) (H : Heap) (locs : List Loc) (ls : Array Slot), wX4_init t σ k → PH D cs A σ H → va_S A s.heap H locs → lv_has ls 2 [(0, .ref t)] → W p l e (headSpec wsX4_init rmX4_init).room s m args below meth c H locs 0 0 (MQ below (va_Qv k (mB D cs A) A) args s 24 2290 A) (F0 m 0 ls []) := by
  intro  σ H locs ls h hM hS hl
  have ⟨hx, hb, hml, hr, hnm, hown, hts, hlocks, hE⟩ := CX
  unfold wX4_init at h
  refine lv_aload_n hx hb dX4_init_0 rfl (lv_at hl 0 rfl) ?_
  refine W.objInit hx hb hown (hts (.methodLink RX4 11 objectInit) (by decide +kernel)) (hts (.instanceMethod objectInit) (by decide +kernel)) (hts (.code objectInit ⟨#[0xb1]⟩ 1 none) (by decide +kernel)) rfl (by rw [hml]; exact hl.1) rfl dX4_init_1 (Nat.le_of_ble_eq_true rfl) (Nat.le_of_ble_eq_true rfl) ?_
  refine lv_aload_n hx hb dX4_init_4 rfl (lv_at hl 0 rfl) ?_
  refine lv_bipush (v := 60) hx hb dX4_init_5 (by decide) ?_
  refine naI hx hb (hts (.arrayClass .int) (by decide +kernel)) hE.1 hM hS hE.2.1 (N := 60) (by decide) (by decide) (by decide) (Nat.le_of_ble_eq_true rfl) (Nat.le_of_ble_eq_true rfl) dX4_init_7 (fun a_1 H ha_1 hM hS => ?_)
  replace h := h a_1 ha_1 _ rfl
  have hk_3 := mK_new (kd := 6) (n := 60) ha_1
  obtain ⟨hk_4, h⟩ := h
  refine pf4_1 hx hb hts inX4_init_4 hown hE.1 hM hS hk_4 (hts (.fieldLink RX4 17 "WorkCoderModel" "stands" "[I") (by decide +kernel)) hnm rfl dX4_init_9 (fun H locs hM hS => ?_)
  replace h := h _ rfl
  refine lv_aload_n hx hb dX4_init_12 rfl (lv_at hl 0 rfl) ?_
  refine lv_bipush (v := 40) hx hb dX4_init_13 (by decide) ?_
  refine naI hx hb (hts (.arrayClass .int) (by decide +kernel)) hE.1 hM hS hE.2.1 (N := 40) (by decide) (by decide) (by decide) (Nat.le_of_ble_eq_true rfl) (Nat.le_of_ble_eq_true rfl) dX4_init_15 (fun a_6 H ha_6 hM hS => ?_)
  replace h := h a_6 ha_6 _ rfl
  have hk_3 := mK_keep (kd := 6) (n := 40) hk_3 (by decide) ha_6
  have hk_4 := mK_keep (kd := 6) (n := 40) hk_4 (by decide) ha_6
  have hk_8 := mK_new (kd := 6) (n := 40) ha_6
  refine pf4_3 hx hb hts inX4_init_4 hown hE.1 hM hS hk_4 (hts (.fieldLink RX4 21 "WorkCoderModel" "above" "[I") (by decide +kernel)) hnm rfl dX4_init_17 (fun H locs hM hS => ?_)
  replace h := h _ rfl
  refine lv_aload_n hx hb dX4_init_20 rfl (lv_at hl 0 rfl) ?_
  refine lv_bipush (v := 40) hx hb dX4_init_21 (by decide) ?_
  refine naJ hx hb (hts (.arrayClass .long) (by decide +kernel)) hE.1 hM hS hE.2.1 (N := 40) (by decide) (by decide) (by decide) (Nat.le_of_ble_eq_true rfl) (Nat.le_of_ble_eq_true rfl) dX4_init_23 (fun a_10 H ha_10 hM hS => ?_)
  replace h := h a_10 ha_10 _ rfl
  have hk_3 := mK_keep (kd := 7) (n := 40) hk_3 (by decide) ha_10
  have hk_4 := mK_keep (kd := 7) (n := 40) hk_4 (by decide) ha_10
  have hk_8 := mK_keep (kd := 7) (n := 40) hk_8 (by decide) ha_10
  have hk_12 := mK_new (kd := 7) (n := 40) ha_10
  refine pf4_4 hx hb hts inX4_init_4 hown hE.1 hM hS hk_4 (hts (.fieldLink RX4 24 "WorkCoderModel" "excluded" "[J") (by decide +kernel)) hnm rfl dX4_init_25 (fun H locs hM hS => ?_)
  replace h := h _ rfl
  refine lv_aload_n hx hb dX4_init_28 rfl (lv_at hl 0 rfl) ?_
  refine lv_bipush (v := 30) hx hb dX4_init_29 (by decide) ?_
  refine naI hx hb (hts (.arrayClass .int) (by decide +kernel)) hE.1 hM hS hE.2.1 (N := 30) (by decide) (by decide) (by decide) (Nat.le_of_ble_eq_true rfl) (Nat.le_of_ble_eq_true rfl) dX4_init_31 (fun a_14 H ha_14 hM hS => ?_)
  replace h := h a_14 ha_14 _ rfl
  have hk_3 := mK_keep (kd := 6) (n := 30) hk_3 (by decide) ha_14
  have hk_4 := mK_keep (kd := 6) (n := 30) hk_4 (by decide) ha_14
  have hk_8 := mK_keep (kd := 6) (n := 30) hk_8 (by decide) ha_14
  have hk_12 := mK_keep (kd := 6) (n := 30) hk_12 (by decide) ha_14
  have hk_16 := mK_new (kd := 6) (n := 30) ha_14
  refine pf4_6 hx hb hts inX4_init_4 hown hE.1 hM hS hk_4 (hts (.fieldLink RX4 28 "WorkCoderModel" "otherAbove" "[I") (by decide +kernel)) hnm rfl dX4_init_33 (fun H locs hM hS => ?_)
  replace h := h _ rfl
  refine lv_aload_n hx hb dX4_init_36 rfl (lv_at hl 0 rfl) ?_
  refine lv_bipush (v := 40) hx hb dX4_init_37 (by decide) ?_
  refine naI hx hb (hts (.arrayClass .int) (by decide +kernel)) hE.1 hM hS hE.2.1 (N := 40) (by decide) (by decide) (by decide) (Nat.le_of_ble_eq_true rfl) (Nat.le_of_ble_eq_true rfl) dX4_init_39 (fun a_18 H ha_18 hM hS => ?_)
  replace h := h a_18 ha_18 _ rfl
  have hk_3 := mK_keep (kd := 6) (n := 40) hk_3 (by decide) ha_18
  have hk_4 := mK_keep (kd := 6) (n := 40) hk_4 (by decide) ha_18
  have hk_8 := mK_keep (kd := 6) (n := 40) hk_8 (by decide) ha_18
  have hk_12 := mK_keep (kd := 6) (n := 40) hk_12 (by decide) ha_18
  have hk_16 := mK_keep (kd := 6) (n := 40) hk_16 (by decide) ha_18
  have hk_20 := mK_new (kd := 6) (n := 40) ha_18
  refine pf4_7 hx hb hts inX4_init_4 hown hE.1 hM hS hk_4 (hts (.fieldLink RX4 31 "WorkCoderModel" "carries" "[I") (by decide +kernel)) hnm rfl dX4_init_41 (fun H locs hM hS => ?_)
  replace h := h _ rfl
  refine lv_aload_n hx hb dX4_init_44 rfl (lv_at hl 0 rfl) ?_
  refine lv_bipush (v := 80) hx hb dX4_init_45 (by decide) ?_
  refine naI hx hb (hts (.arrayClass .int) (by decide +kernel)) hE.1 hM hS hE.2.1 (N := 80) (by decide) (by decide) (by decide) (Nat.le_of_ble_eq_true rfl) (Nat.le_of_ble_eq_true rfl) dX4_init_47 (fun a_22 H ha_22 hM hS => ?_)
  replace h := h a_22 ha_22 _ rfl
  have hk_3 := mK_keep (kd := 6) (n := 80) hk_3 (by decide) ha_22
  have hk_4 := mK_keep (kd := 6) (n := 80) hk_4 (by decide) ha_22
  have hk_8 := mK_keep (kd := 6) (n := 80) hk_8 (by decide) ha_22
  have hk_12 := mK_keep (kd := 6) (n := 80) hk_12 (by decide) ha_22
  have hk_16 := mK_keep (kd := 6) (n := 80) hk_16 (by decide) ha_22
  have hk_20 := mK_keep (kd := 6) (n := 80) hk_20 (by decide) ha_22
  have hk_24 := mK_new (kd := 6) (n := 80) ha_22
  refine pf4_9 hx hb hts inX4_init_4 hown hE.1 hM hS hk_4 (hts (.fieldLink RX4 34 "WorkCoderModel" "sort" "[I") (by decide +kernel)) hnm rfl dX4_init_49 (fun H locs hM hS => ?_)
  replace h := h _ rfl
  refine lv_aload_n hx hb dX4_init_52 rfl (lv_at hl 0 rfl) ?_
  refine lv_bipush (v := 80) hx hb dX4_init_53 (by decide) ?_
  refine naI hx hb (hts (.arrayClass .int) (by decide +kernel)) hE.1 hM hS hE.2.1 (N := 80) (by decide) (by decide) (by decide) (Nat.le_of_ble_eq_true rfl) (Nat.le_of_ble_eq_true rfl) dX4_init_55 (fun a_26 H ha_26 hM hS => ?_)
  replace h := h a_26 ha_26 _ rfl
  have hk_3 := mK_keep (kd := 6) (n := 80) hk_3 (by decide) ha_26
  have hk_4 := mK_keep (kd := 6) (n := 80) hk_4 (by decide) ha_26
  have hk_8 := mK_keep (kd := 6) (n := 80) hk_8 (by decide) ha_26
  have hk_12 := mK_keep (kd := 6) (n := 80) hk_12 (by decide) ha_26
  have hk_16 := mK_keep (kd := 6) (n := 80) hk_16 (by decide) ha_26
  have hk_20 := mK_keep (kd := 6) (n := 80) hk_20 (by decide) ha_26
  have hk_24 := mK_keep (kd := 6) (n := 80) hk_24 (by decide) ha_26
  have hk_28 := mK_new (kd := 6) (n := 80) ha_26
  refine pf4_10 hx hb hts inX4_init_4 hown hE.1 hM hS hk_4 (hts (.fieldLink RX4 37 "WorkCoderModel" "trade" "[I") (by decide +kernel)) hnm rfl dX4_init_57 (fun H locs hM hS => ?_)
  replace h := h _ rfl
  refine lv_aload_n hx hb dX4_init_60 rfl (lv_at hl 0 rfl) ?_
  refine lv_bipush (v := 80) hx hb dX4_init_61 (by decide) ?_
  refine naI hx hb (hts (.arrayClass .int) (by decide +kernel)) hE.1 hM hS hE.2.1 (N := 80) (by decide) (by decide) (by decide) (Nat.le_of_ble_eq_true rfl) (Nat.le_of_ble_eq_true rfl) dX4_init_63 (fun a_30 H ha_30 hM hS => ?_)
  replace h := h a_30 ha_30 _ rfl
  have hk_3 := mK_keep (kd := 6) (n := 80) hk_3 (by decide) ha_30
  have hk_4 := mK_keep (kd := 6) (n := 80) hk_4 (by decide) ha_30
  have hk_8 := mK_keep (kd := 6) (n := 80) hk_8 (by decide) ha_30
  have hk_12 := mK_keep (kd := 6) (n := 80) hk_12 (by decide) ha_30
  have hk_16 := mK_keep (kd := 6) (n := 80) hk_16 (by decide) ha_30
  have hk_20 := mK_keep (kd := 6) (n := 80) hk_20 (by decide) ha_30
  have hk_24 := mK_keep (kd := 6) (n := 80) hk_24 (by decide) ha_30
  have hk_28 := mK_keep (kd := 6) (n := 80) hk_28 (by decide) ha_30
  have hk_32 := mK_new (kd := 6) (n := 80) ha_30
  refine pf4_11 hx hb hts inX4_init_4 hown hE.1 hM hS hk_4 (hts (.fieldLink RX4 40 "WorkCoderModel" "schooling" "[I") (by decide +kernel)) hnm rfl dX4_init_65 (fun H locs hM hS => ?_)
  replace h := h _ rfl
  refine lv_aload_n hx hb dX4_init_68 rfl (lv_at hl 0 rfl) ?_
  refine lv_sipush (v := 160) hx hb dX4_init_69 (by decide) ?_
  refine naJ hx hb (hts (.arrayClass .long) (by decide +kernel)) hE.1 hM hS hE.2.1 (N := 160) (by decide) (by decide) (by decide) (Nat.le_of_ble_eq_true rfl) (Nat.le_of_ble_eq_true rfl) dX4_init_72 (fun a_34 H ha_34 hM hS => ?_)
  replace h := h a_34 ha_34 _ rfl
  have hk_3 := mK_keep (kd := 7) (n := 160) hk_3 (by decide) ha_34
  have hk_4 := mK_keep (kd := 7) (n := 160) hk_4 (by decide) ha_34
  have hk_8 := mK_keep (kd := 7) (n := 160) hk_8 (by decide) ha_34
  have hk_12 := mK_keep (kd := 7) (n := 160) hk_12 (by decide) ha_34
  have hk_16 := mK_keep (kd := 7) (n := 160) hk_16 (by decide) ha_34
  have hk_20 := mK_keep (kd := 7) (n := 160) hk_20 (by decide) ha_34
  have hk_24 := mK_keep (kd := 7) (n := 160) hk_24 (by decide) ha_34
  have hk_28 := mK_keep (kd := 7) (n := 160) hk_28 (by decide) ha_34
  have hk_32 := mK_keep (kd := 7) (n := 160) hk_32 (by decide) ha_34
  have hk_36 := mK_new (kd := 7) (n := 160) ha_34
  refine pf4_12 hx hb hts inX4_init_4 hown hE.1 hM hS hk_4 (hts (.fieldLink RX4 43 "WorkCoderModel" "words" "[J") (by decide +kernel)) hnm rfl dX4_init_74 (fun H locs hM hS => ?_)
  replace h := h _ rfl
  refine lv_aload_n hx hb dX4_init_77 rfl (lv_at hl 0 rfl) ?_
  refine lv_sipush (v := 160) hx hb dX4_init_78 (by decide) ?_
  refine naI hx hb (hts (.arrayClass .int) (by decide +kernel)) hE.1 hM hS hE.2.1 (N := 160) (by decide) (by decide) (by decide) (Nat.le_of_ble_eq_true rfl) (Nat.le_of_ble_eq_true rfl) dX4_init_81 (fun a_38 H ha_38 hM hS => ?_)
  replace h := h a_38 ha_38 _ rfl
  have hk_3 := mK_keep (kd := 6) (n := 160) hk_3 (by decide) ha_38
  have hk_4 := mK_keep (kd := 6) (n := 160) hk_4 (by decide) ha_38
  have hk_8 := mK_keep (kd := 6) (n := 160) hk_8 (by decide) ha_38
  have hk_12 := mK_keep (kd := 6) (n := 160) hk_12 (by decide) ha_38
  have hk_16 := mK_keep (kd := 6) (n := 160) hk_16 (by decide) ha_38
  have hk_20 := mK_keep (kd := 6) (n := 160) hk_20 (by decide) ha_38
  have hk_24 := mK_keep (kd := 6) (n := 160) hk_24 (by decide) ha_38
  have hk_28 := mK_keep (kd := 6) (n := 160) hk_28 (by decide) ha_38
  have hk_32 := mK_keep (kd := 6) (n := 160) hk_32 (by decide) ha_38
  have hk_36 := mK_keep (kd := 6) (n := 160) hk_36 (by decide) ha_38
  have hk_40 := mK_new (kd := 6) (n := 160) ha_38
  refine pf4_13 hx hb hts inX4_init_4 hown hE.1 hM hS hk_4 (hts (.fieldLink RX4 46 "WorkCoderModel" "state" "[I") (by decide +kernel)) hnm rfl dX4_init_83 (fun H locs hM hS => ?_)
  replace h := h _ rfl
  refine lv_aload_n hx hb dX4_init_86 rfl (lv_at hl 0 rfl) ?_
  refine lv_sipush (v := 160) hx hb dX4_init_87 (by decide) ?_
  refine naI hx hb (hts (.arrayClass .int) (by decide +kernel)) hE.1 hM hS hE.2.1 (N := 160) (by decide) (by decide) (by decide) (Nat.le_of_ble_eq_true rfl) (Nat.le_of_ble_eq_true rfl) dX4_init_90 (fun a_42 H ha_42 hM hS => ?_)
  replace h := h a_42 ha_42 _ rfl
  have hk_3 := mK_keep (kd := 6) (n := 160) hk_3 (by decide) ha_42
  have hk_4 := mK_keep (kd := 6) (n := 160) hk_4 (by decide) ha_42
  have hk_8 := mK_keep (kd := 6) (n := 160) hk_8 (by decide) ha_42
  have hk_12 := mK_keep (kd := 6) (n := 160) hk_12 (by decide) ha_42
  have hk_16 := mK_keep (kd := 6) (n := 160) hk_16 (by decide) ha_42
  have hk_20 := mK_keep (kd := 6) (n := 160) hk_20 (by decide) ha_42
  have hk_24 := mK_keep (kd := 6) (n := 160) hk_24 (by decide) ha_42
  have hk_28 := mK_keep (kd := 6) (n := 160) hk_28 (by decide) ha_42
  have hk_32 := mK_keep (kd := 6) (n := 160) hk_32 (by decide) ha_42
  have hk_36 := mK_keep (kd := 6) (n := 160) hk_36 (by decide) ha_42
  have hk_40 := mK_keep (kd := 6) (n := 160) hk_40 (by decide) ha_42
  have hk_44 := mK_new (kd := 6) (n := 160) ha_42
  refine pf4_14 hx hb hts inX4_init_4 hown hE.1 hM hS hk_4 (hts (.fieldLink RX4 49 "WorkCoderModel" "codeOf" "[I") (by decide +kernel)) hnm rfl dX4_init_92 (fun H locs hM hS => ?_)
  replace h := h _ rfl
  refine lv_aload_n hx hb dX4_init_95 rfl (lv_at hl 0 rfl) ?_
  refine lv_sipush (v := 160) hx hb dX4_init_96 (by decide) ?_
  refine naI hx hb (hts (.arrayClass .int) (by decide +kernel)) hE.1 hM hS hE.2.1 (N := 160) (by decide) (by decide) (by decide) (Nat.le_of_ble_eq_true rfl) (Nat.le_of_ble_eq_true rfl) dX4_init_99 (fun a_46 H ha_46 hM hS => ?_)
  replace h := h a_46 ha_46 _ rfl
  have hk_3 := mK_keep (kd := 6) (n := 160) hk_3 (by decide) ha_46
  have hk_4 := mK_keep (kd := 6) (n := 160) hk_4 (by decide) ha_46
  have hk_8 := mK_keep (kd := 6) (n := 160) hk_8 (by decide) ha_46
  have hk_12 := mK_keep (kd := 6) (n := 160) hk_12 (by decide) ha_46
  have hk_16 := mK_keep (kd := 6) (n := 160) hk_16 (by decide) ha_46
  have hk_20 := mK_keep (kd := 6) (n := 160) hk_20 (by decide) ha_46
  have hk_24 := mK_keep (kd := 6) (n := 160) hk_24 (by decide) ha_46
  have hk_28 := mK_keep (kd := 6) (n := 160) hk_28 (by decide) ha_46
  have hk_32 := mK_keep (kd := 6) (n := 160) hk_32 (by decide) ha_46
  have hk_36 := mK_keep (kd := 6) (n := 160) hk_36 (by decide) ha_46
  have hk_40 := mK_keep (kd := 6) (n := 160) hk_40 (by decide) ha_46
  have hk_44 := mK_keep (kd := 6) (n := 160) hk_44 (by decide) ha_46
  have hk_48 := mK_new (kd := 6) (n := 160) ha_46
  refine pf4_15 hx hb hts inX4_init_4 hown hE.1 hM hS hk_4 (hts (.fieldLink RX4 52 "WorkCoderModel" "byWhat" "[I") (by decide +kernel)) hnm rfl dX4_init_101 (fun H locs hM hS => ?_)
  replace h := h _ rfl
  refine lv_aload_n hx hb dX4_init_104 rfl (lv_at hl 0 rfl) ?_
  refine lv_sipush (v := 160) hx hb dX4_init_105 (by decide) ?_
  refine naI hx hb (hts (.arrayClass .int) (by decide +kernel)) hE.1 hM hS hE.2.1 (N := 160) (by decide) (by decide) (by decide) (Nat.le_of_ble_eq_true rfl) (Nat.le_of_ble_eq_true rfl) dX4_init_108 (fun a_50 H ha_50 hM hS => ?_)
  replace h := h a_50 ha_50 _ rfl
  have hk_3 := mK_keep (kd := 6) (n := 160) hk_3 (by decide) ha_50
  have hk_4 := mK_keep (kd := 6) (n := 160) hk_4 (by decide) ha_50
  have hk_8 := mK_keep (kd := 6) (n := 160) hk_8 (by decide) ha_50
  have hk_12 := mK_keep (kd := 6) (n := 160) hk_12 (by decide) ha_50
  have hk_16 := mK_keep (kd := 6) (n := 160) hk_16 (by decide) ha_50
  have hk_20 := mK_keep (kd := 6) (n := 160) hk_20 (by decide) ha_50
  have hk_24 := mK_keep (kd := 6) (n := 160) hk_24 (by decide) ha_50
  have hk_28 := mK_keep (kd := 6) (n := 160) hk_28 (by decide) ha_50
  have hk_32 := mK_keep (kd := 6) (n := 160) hk_32 (by decide) ha_50
  have hk_36 := mK_keep (kd := 6) (n := 160) hk_36 (by decide) ha_50
  have hk_40 := mK_keep (kd := 6) (n := 160) hk_40 (by decide) ha_50
  have hk_44 := mK_keep (kd := 6) (n := 160) hk_44 (by decide) ha_50
  have hk_48 := mK_keep (kd := 6) (n := 160) hk_48 (by decide) ha_50
  have hk_52 := mK_new (kd := 6) (n := 160) ha_50
  refine pf4_16 hx hb hts inX4_init_4 hown hE.1 hM hS hk_4 (hts (.fieldLink RX4 55 "WorkCoderModel" "byNumber" "[I") (by decide +kernel)) hnm rfl dX4_init_110 (fun H locs hM hS => ?_)
  replace h := h _ rfl
  refine lv_aload_n hx hb dX4_init_113 rfl (lv_at hl 0 rfl) ?_
  refine lv_sipush (v := 160) hx hb dX4_init_114 (by decide) ?_
  refine naI hx hb (hts (.arrayClass .int) (by decide +kernel)) hE.1 hM hS hE.2.1 (N := 160) (by decide) (by decide) (by decide) (Nat.le_of_ble_eq_true rfl) (Nat.le_of_ble_eq_true rfl) dX4_init_117 (fun a_54 H ha_54 hM hS => ?_)
  replace h := h a_54 ha_54 _ rfl
  have hk_3 := mK_keep (kd := 6) (n := 160) hk_3 (by decide) ha_54
  have hk_4 := mK_keep (kd := 6) (n := 160) hk_4 (by decide) ha_54
  have hk_8 := mK_keep (kd := 6) (n := 160) hk_8 (by decide) ha_54
  have hk_12 := mK_keep (kd := 6) (n := 160) hk_12 (by decide) ha_54
  have hk_16 := mK_keep (kd := 6) (n := 160) hk_16 (by decide) ha_54
  have hk_20 := mK_keep (kd := 6) (n := 160) hk_20 (by decide) ha_54
  have hk_24 := mK_keep (kd := 6) (n := 160) hk_24 (by decide) ha_54
  have hk_28 := mK_keep (kd := 6) (n := 160) hk_28 (by decide) ha_54
  have hk_32 := mK_keep (kd := 6) (n := 160) hk_32 (by decide) ha_54
  have hk_36 := mK_keep (kd := 6) (n := 160) hk_36 (by decide) ha_54
  have hk_40 := mK_keep (kd := 6) (n := 160) hk_40 (by decide) ha_54
  have hk_44 := mK_keep (kd := 6) (n := 160) hk_44 (by decide) ha_54
  have hk_48 := mK_keep (kd := 6) (n := 160) hk_48 (by decide) ha_54
  have hk_52 := mK_keep (kd := 6) (n := 160) hk_52 (by decide) ha_54
  have hk_56 := mK_new (kd := 6) (n := 160) ha_54
  refine pf4_17 hx hb hts inX4_init_4 hown hE.1 hM hS hk_4 (hts (.fieldLink RX4 58 "WorkCoderModel" "second" "[I") (by decide +kernel)) hnm rfl dX4_init_119 (fun H locs hM hS => ?_)
  replace h := h _ rfl
  refine lv_aload_n hx hb dX4_init_122 rfl (lv_at hl 0 rfl) ?_
  refine lv_bipush (v := 40) hx hb dX4_init_123 (by decide) ?_
  refine naI hx hb (hts (.arrayClass .int) (by decide +kernel)) hE.1 hM hS hE.2.1 (N := 40) (by decide) (by decide) (by decide) (Nat.le_of_ble_eq_true rfl) (Nat.le_of_ble_eq_true rfl) dX4_init_125 (fun a_58 H ha_58 hM hS => ?_)
  replace h := h a_58 ha_58 _ rfl
  have hk_3 := mK_keep (kd := 6) (n := 40) hk_3 (by decide) ha_58
  have hk_4 := mK_keep (kd := 6) (n := 40) hk_4 (by decide) ha_58
  have hk_8 := mK_keep (kd := 6) (n := 40) hk_8 (by decide) ha_58
  have hk_12 := mK_keep (kd := 6) (n := 40) hk_12 (by decide) ha_58
  have hk_16 := mK_keep (kd := 6) (n := 40) hk_16 (by decide) ha_58
  have hk_20 := mK_keep (kd := 6) (n := 40) hk_20 (by decide) ha_58
  have hk_24 := mK_keep (kd := 6) (n := 40) hk_24 (by decide) ha_58
  have hk_28 := mK_keep (kd := 6) (n := 40) hk_28 (by decide) ha_58
  have hk_32 := mK_keep (kd := 6) (n := 40) hk_32 (by decide) ha_58
  have hk_36 := mK_keep (kd := 6) (n := 40) hk_36 (by decide) ha_58
  have hk_40 := mK_keep (kd := 6) (n := 40) hk_40 (by decide) ha_58
  have hk_44 := mK_keep (kd := 6) (n := 40) hk_44 (by decide) ha_58
  have hk_48 := mK_keep (kd := 6) (n := 40) hk_48 (by decide) ha_58
  have hk_52 := mK_keep (kd := 6) (n := 40) hk_52 (by decide) ha_58
  have hk_56 := mK_keep (kd := 6) (n := 40) hk_56 (by decide) ha_58
  have hk_60 := mK_new (kd := 6) (n := 40) ha_58
  refine pf4_19 hx hb hts inX4_init_4 hown hE.1 hM hS hk_4 (hts (.fieldLink RX4 61 "WorkCoderModel" "rank" "[I") (by decide +kernel)) hnm rfl dX4_init_127 (fun H locs hM hS => ?_)
  replace h := h _ rfl
  refine lv_aload_n hx hb dX4_init_130 rfl (lv_at hl 0 rfl) ?_
  refine lv_bipush (v := 40) hx hb dX4_init_131 (by decide) ?_
  refine naI hx hb (hts (.arrayClass .int) (by decide +kernel)) hE.1 hM hS hE.2.1 (N := 40) (by decide) (by decide) (by decide) (Nat.le_of_ble_eq_true rfl) (Nat.le_of_ble_eq_true rfl) dX4_init_133 (fun a_62 H ha_62 hM hS => ?_)
  replace h := h a_62 ha_62 _ rfl
  have hk_3 := mK_keep (kd := 6) (n := 40) hk_3 (by decide) ha_62
  have hk_4 := mK_keep (kd := 6) (n := 40) hk_4 (by decide) ha_62
  have hk_8 := mK_keep (kd := 6) (n := 40) hk_8 (by decide) ha_62
  have hk_12 := mK_keep (kd := 6) (n := 40) hk_12 (by decide) ha_62
  have hk_16 := mK_keep (kd := 6) (n := 40) hk_16 (by decide) ha_62
  have hk_20 := mK_keep (kd := 6) (n := 40) hk_20 (by decide) ha_62
  have hk_24 := mK_keep (kd := 6) (n := 40) hk_24 (by decide) ha_62
  have hk_28 := mK_keep (kd := 6) (n := 40) hk_28 (by decide) ha_62
  have hk_32 := mK_keep (kd := 6) (n := 40) hk_32 (by decide) ha_62
  have hk_36 := mK_keep (kd := 6) (n := 40) hk_36 (by decide) ha_62
  have hk_40 := mK_keep (kd := 6) (n := 40) hk_40 (by decide) ha_62
  have hk_44 := mK_keep (kd := 6) (n := 40) hk_44 (by decide) ha_62
  have hk_48 := mK_keep (kd := 6) (n := 40) hk_48 (by decide) ha_62
  have hk_52 := mK_keep (kd := 6) (n := 40) hk_52 (by decide) ha_62
  have hk_56 := mK_keep (kd := 6) (n := 40) hk_56 (by decide) ha_62
  have hk_60 := mK_keep (kd := 6) (n := 40) hk_60 (by decide) ha_62
  have hk_64 := mK_new (kd := 6) (n := 40) ha_62
  refine pf4_20 hx hb hts inX4_init_4 hown hE.1 hM hS hk_4 (hts (.fieldLink RX4 64 "WorkCoderModel" "ruleCode" "[I") (by decide +kernel)) hnm rfl dX4_init_135 (fun H locs hM hS => ?_)
  replace h := h _ rfl
  refine lv_aload_n hx hb dX4_init_138 rfl (lv_at hl 0 rfl) ?_
  refine lv_bipush (v := 40) hx hb dX4_init_139 (by decide) ?_
  refine naI hx hb (hts (.arrayClass .int) (by decide +kernel)) hE.1 hM hS hE.2.1 (N := 40) (by decide) (by decide) (by decide) (Nat.le_of_ble_eq_true rfl) (Nat.le_of_ble_eq_true rfl) dX4_init_141 (fun a_66 H ha_66 hM hS => ?_)
  replace h := h a_66 ha_66 _ rfl
  have hk_3 := mK_keep (kd := 6) (n := 40) hk_3 (by decide) ha_66
  have hk_4 := mK_keep (kd := 6) (n := 40) hk_4 (by decide) ha_66
  have hk_8 := mK_keep (kd := 6) (n := 40) hk_8 (by decide) ha_66
  have hk_12 := mK_keep (kd := 6) (n := 40) hk_12 (by decide) ha_66
  have hk_16 := mK_keep (kd := 6) (n := 40) hk_16 (by decide) ha_66
  have hk_20 := mK_keep (kd := 6) (n := 40) hk_20 (by decide) ha_66
  have hk_24 := mK_keep (kd := 6) (n := 40) hk_24 (by decide) ha_66
  have hk_28 := mK_keep (kd := 6) (n := 40) hk_28 (by decide) ha_66
  have hk_32 := mK_keep (kd := 6) (n := 40) hk_32 (by decide) ha_66
  have hk_36 := mK_keep (kd := 6) (n := 40) hk_36 (by decide) ha_66
  have hk_40 := mK_keep (kd := 6) (n := 40) hk_40 (by decide) ha_66
  have hk_44 := mK_keep (kd := 6) (n := 40) hk_44 (by decide) ha_66
  have hk_48 := mK_keep (kd := 6) (n := 40) hk_48 (by decide) ha_66
  have hk_52 := mK_keep (kd := 6) (n := 40) hk_52 (by decide) ha_66
  have hk_56 := mK_keep (kd := 6) (n := 40) hk_56 (by decide) ha_66
  have hk_60 := mK_keep (kd := 6) (n := 40) hk_60 (by decide) ha_66
  have hk_64 := mK_keep (kd := 6) (n := 40) hk_64 (by decide) ha_66
  have hk_68 := mK_new (kd := 6) (n := 40) ha_66
  refine pf4_21 hx hb hts inX4_init_4 hown hE.1 hM hS hk_4 (hts (.fieldLink RX4 67 "WorkCoderModel" "trades" "[I") (by decide +kernel)) hnm rfl dX4_init_143 (fun H locs hM hS => ?_)
  replace h := h _ rfl
  refine lv_aload_n hx hb dX4_init_146 rfl (lv_at hl 0 rfl) ?_
  refine lv_bipush (v := 40) hx hb dX4_init_147 (by decide) ?_
  refine naJ hx hb (hts (.arrayClass .long) (by decide +kernel)) hE.1 hM hS hE.2.1 (N := 40) (by decide) (by decide) (by decide) (Nat.le_of_ble_eq_true rfl) (Nat.le_of_ble_eq_true rfl) dX4_init_149 (fun a_70 H ha_70 hM hS => ?_)
  replace h := h a_70 ha_70 _ rfl
  have hk_3 := mK_keep (kd := 7) (n := 40) hk_3 (by decide) ha_70
  have hk_4 := mK_keep (kd := 7) (n := 40) hk_4 (by decide) ha_70
  have hk_8 := mK_keep (kd := 7) (n := 40) hk_8 (by decide) ha_70
  have hk_12 := mK_keep (kd := 7) (n := 40) hk_12 (by decide) ha_70
  have hk_16 := mK_keep (kd := 7) (n := 40) hk_16 (by decide) ha_70
  have hk_20 := mK_keep (kd := 7) (n := 40) hk_20 (by decide) ha_70
  have hk_24 := mK_keep (kd := 7) (n := 40) hk_24 (by decide) ha_70
  have hk_28 := mK_keep (kd := 7) (n := 40) hk_28 (by decide) ha_70
  have hk_32 := mK_keep (kd := 7) (n := 40) hk_32 (by decide) ha_70
  have hk_36 := mK_keep (kd := 7) (n := 40) hk_36 (by decide) ha_70
  have hk_40 := mK_keep (kd := 7) (n := 40) hk_40 (by decide) ha_70
  have hk_44 := mK_keep (kd := 7) (n := 40) hk_44 (by decide) ha_70
  have hk_48 := mK_keep (kd := 7) (n := 40) hk_48 (by decide) ha_70
  have hk_52 := mK_keep (kd := 7) (n := 40) hk_52 (by decide) ha_70
  have hk_56 := mK_keep (kd := 7) (n := 40) hk_56 (by decide) ha_70
  have hk_60 := mK_keep (kd := 7) (n := 40) hk_60 (by decide) ha_70
  have hk_64 := mK_keep (kd := 7) (n := 40) hk_64 (by decide) ha_70
  have hk_68 := mK_keep (kd := 7) (n := 40) hk_68 (by decide) ha_70
  have hk_72 := mK_new (kd := 7) (n := 40) ha_70
  refine pf4_22 hx hb hts inX4_init_4 hown hE.1 hM hS hk_4 (hts (.fieldLink RX4 70 "WorkCoderModel" "needed" "[J") (by decide +kernel)) hnm rfl dX4_init_151 (fun H locs hM hS => ?_)
  replace h := h _ rfl
  refine lv_aload_n hx hb dX4_init_154 rfl (lv_at hl 0 rfl) ?_
  refine lv_bipush (v := 40) hx hb dX4_init_155 (by decide) ?_
  refine naJ hx hb (hts (.arrayClass .long) (by decide +kernel)) hE.1 hM hS hE.2.1 (N := 40) (by decide) (by decide) (by decide) (Nat.le_of_ble_eq_true rfl) (Nat.le_of_ble_eq_true rfl) dX4_init_157 (fun a_74 H ha_74 hM hS => ?_)
  replace h := h a_74 ha_74 _ rfl
  have hk_3 := mK_keep (kd := 7) (n := 40) hk_3 (by decide) ha_74
  have hk_4 := mK_keep (kd := 7) (n := 40) hk_4 (by decide) ha_74
  have hk_8 := mK_keep (kd := 7) (n := 40) hk_8 (by decide) ha_74
  have hk_12 := mK_keep (kd := 7) (n := 40) hk_12 (by decide) ha_74
  have hk_16 := mK_keep (kd := 7) (n := 40) hk_16 (by decide) ha_74
  have hk_20 := mK_keep (kd := 7) (n := 40) hk_20 (by decide) ha_74
  have hk_24 := mK_keep (kd := 7) (n := 40) hk_24 (by decide) ha_74
  have hk_28 := mK_keep (kd := 7) (n := 40) hk_28 (by decide) ha_74
  have hk_32 := mK_keep (kd := 7) (n := 40) hk_32 (by decide) ha_74
  have hk_36 := mK_keep (kd := 7) (n := 40) hk_36 (by decide) ha_74
  have hk_40 := mK_keep (kd := 7) (n := 40) hk_40 (by decide) ha_74
  have hk_44 := mK_keep (kd := 7) (n := 40) hk_44 (by decide) ha_74
  have hk_48 := mK_keep (kd := 7) (n := 40) hk_48 (by decide) ha_74
  have hk_52 := mK_keep (kd := 7) (n := 40) hk_52 (by decide) ha_74
  have hk_56 := mK_keep (kd := 7) (n := 40) hk_56 (by decide) ha_74
  have hk_60 := mK_keep (kd := 7) (n := 40) hk_60 (by decide) ha_74
  have hk_64 := mK_keep (kd := 7) (n := 40) hk_64 (by decide) ha_74
  have hk_68 := mK_keep (kd := 7) (n := 40) hk_68 (by decide) ha_74
  have hk_72 := mK_keep (kd := 7) (n := 40) hk_72 (by decide) ha_74
  have hk_76 := mK_new (kd := 7) (n := 40) ha_74
  refine pf4_23 hx hb hts inX4_init_4 hown hE.1 hM hS hk_4 (hts (.fieldLink RX4 73 "WorkCoderModel" "barred" "[J") (by decide +kernel)) hnm rfl dX4_init_159 (fun H locs hM hS => ?_)
  replace h := h _ rfl
  refine lv_aload_n hx hb dX4_init_162 rfl (lv_at hl 0 rfl) ?_
  refine lv_bipush (v := 40) hx hb dX4_init_163 (by decide) ?_
  refine naZ hx hb (hts (.arrayClass .boolean) (by decide +kernel)) hE.1 hM hS hE.2.1 (N := 40) (by decide) (by decide) (by decide) (Nat.le_of_ble_eq_true rfl) (Nat.le_of_ble_eq_true rfl) dX4_init_165 (fun a_78 H ha_78 hM hS => ?_)
  replace h := h a_78 ha_78 _ rfl
  have hk_3 := mK_keep (kd := 8) (n := 40) hk_3 (by decide) ha_78
  have hk_4 := mK_keep (kd := 8) (n := 40) hk_4 (by decide) ha_78
  have hk_8 := mK_keep (kd := 8) (n := 40) hk_8 (by decide) ha_78
  have hk_12 := mK_keep (kd := 8) (n := 40) hk_12 (by decide) ha_78
  have hk_16 := mK_keep (kd := 8) (n := 40) hk_16 (by decide) ha_78
  have hk_20 := mK_keep (kd := 8) (n := 40) hk_20 (by decide) ha_78
  have hk_24 := mK_keep (kd := 8) (n := 40) hk_24 (by decide) ha_78
  have hk_28 := mK_keep (kd := 8) (n := 40) hk_28 (by decide) ha_78
  have hk_32 := mK_keep (kd := 8) (n := 40) hk_32 (by decide) ha_78
  have hk_36 := mK_keep (kd := 8) (n := 40) hk_36 (by decide) ha_78
  have hk_40 := mK_keep (kd := 8) (n := 40) hk_40 (by decide) ha_78
  have hk_44 := mK_keep (kd := 8) (n := 40) hk_44 (by decide) ha_78
  have hk_48 := mK_keep (kd := 8) (n := 40) hk_48 (by decide) ha_78
  have hk_52 := mK_keep (kd := 8) (n := 40) hk_52 (by decide) ha_78
  have hk_56 := mK_keep (kd := 8) (n := 40) hk_56 (by decide) ha_78
  have hk_60 := mK_keep (kd := 8) (n := 40) hk_60 (by decide) ha_78
  have hk_64 := mK_keep (kd := 8) (n := 40) hk_64 (by decide) ha_78
  have hk_68 := mK_keep (kd := 8) (n := 40) hk_68 (by decide) ha_78
  have hk_72 := mK_keep (kd := 8) (n := 40) hk_72 (by decide) ha_78
  have hk_76 := mK_keep (kd := 8) (n := 40) hk_76 (by decide) ha_78
  have hk_80 := mK_new (kd := 8) (n := 40) ha_78
  refine pf4_24 hx hb hts inX4_init_4 hown hE.1 hM hS hk_4 (hts (.fieldLink RX4 76 "WorkCoderModel" "dropped" "[Z") (by decide +kernel)) hnm rfl dX4_init_167 (fun H locs hM hS => ?_)
  replace h := h _ rfl
  refine lv_aload_n hx hb dX4_init_170 rfl (lv_at hl 0 rfl) ?_
  refine lv_sipush (v := 500) hx hb dX4_init_171 (by decide) ?_
  refine pf4_26 hx hb hts inX4_init_4 hown hE.1 hM hS hk_4 (hts (.fieldLink RX4 80 "WorkCoderModel" "least" "I") (by decide +kernel)) dX4_init_174 (fun H locs hM hS => ?_)
  replace h := h _ rfl
  refine lv_aload_n hx hb dX4_init_177 rfl (lv_at hl 0 rfl) ?_
  refine lv_sipush (v := 200) hx hb dX4_init_178 (by decide) ?_
  refine pf4_27 hx hb hts inX4_init_4 hown hE.1 hM hS hk_4 (hts (.fieldLink RX4 83 "WorkCoderModel" "gap" "I") (by decide +kernel)) dX4_init_181 (fun H locs hM hS => ?_)
  replace h := h _ rfl
  refine lv_aload_n hx hb dX4_init_184 rfl (lv_at hl 0 rfl) ?_
  refine lv_sipush (v := 160) hx hb dX4_init_185 (by decide) ?_
  refine naI hx hb (hts (.arrayClass .int) (by decide +kernel)) hE.1 hM hS hE.2.1 (N := 160) (by decide) (by decide) (by decide) (Nat.le_of_ble_eq_true rfl) (Nat.le_of_ble_eq_true rfl) dX4_init_188 (fun a_84 H ha_84 hM hS => ?_)
  replace h := h a_84 ha_84 _ rfl
  have hk_3 := mK_keep (kd := 6) (n := 160) hk_3 (by decide) ha_84
  have hk_4 := mK_keep (kd := 6) (n := 160) hk_4 (by decide) ha_84
  have hk_8 := mK_keep (kd := 6) (n := 160) hk_8 (by decide) ha_84
  have hk_12 := mK_keep (kd := 6) (n := 160) hk_12 (by decide) ha_84
  have hk_16 := mK_keep (kd := 6) (n := 160) hk_16 (by decide) ha_84
  have hk_20 := mK_keep (kd := 6) (n := 160) hk_20 (by decide) ha_84
  have hk_24 := mK_keep (kd := 6) (n := 160) hk_24 (by decide) ha_84
  have hk_28 := mK_keep (kd := 6) (n := 160) hk_28 (by decide) ha_84
  have hk_32 := mK_keep (kd := 6) (n := 160) hk_32 (by decide) ha_84
  have hk_36 := mK_keep (kd := 6) (n := 160) hk_36 (by decide) ha_84
  have hk_40 := mK_keep (kd := 6) (n := 160) hk_40 (by decide) ha_84
  have hk_44 := mK_keep (kd := 6) (n := 160) hk_44 (by decide) ha_84
  have hk_48 := mK_keep (kd := 6) (n := 160) hk_48 (by decide) ha_84
  have hk_52 := mK_keep (kd := 6) (n := 160) hk_52 (by decide) ha_84
  have hk_56 := mK_keep (kd := 6) (n := 160) hk_56 (by decide) ha_84
  have hk_60 := mK_keep (kd := 6) (n := 160) hk_60 (by decide) ha_84
  have hk_64 := mK_keep (kd := 6) (n := 160) hk_64 (by decide) ha_84
  have hk_68 := mK_keep (kd := 6) (n := 160) hk_68 (by decide) ha_84
  have hk_72 := mK_keep (kd := 6) (n := 160) hk_72 (by decide) ha_84
  have hk_76 := mK_keep (kd := 6) (n := 160) hk_76 (by decide) ha_84
  have hk_80 := mK_keep (kd := 6) (n := 160) hk_80 (by decide) ha_84
  have hk_86 := mK_new (kd := 6) (n := 160) ha_84
  refine pf4_30 hx hb hts inX4_init_4 hown hE.1 hM hS hk_4 (hts (.fieldLink RX4 86 "WorkCoderModel" "gets" "[I") (by decide +kernel)) hnm rfl dX4_init_190 (fun H locs hM hS => ?_)
  replace h := h _ rfl
  refine lv_aload_n hx hb dX4_init_193 rfl (lv_at hl 0 rfl) ?_
  refine lv_sipush (v := 160) hx hb dX4_init_194 (by decide) ?_
  refine naI hx hb (hts (.arrayClass .int) (by decide +kernel)) hE.1 hM hS hE.2.1 (N := 160) (by decide) (by decide) (by decide) (Nat.le_of_ble_eq_true rfl) (Nat.le_of_ble_eq_true rfl) dX4_init_197 (fun a_88 H ha_88 hM hS => ?_)
  replace h := h a_88 ha_88 _ rfl
  have hk_3 := mK_keep (kd := 6) (n := 160) hk_3 (by decide) ha_88
  have hk_4 := mK_keep (kd := 6) (n := 160) hk_4 (by decide) ha_88
  have hk_8 := mK_keep (kd := 6) (n := 160) hk_8 (by decide) ha_88
  have hk_12 := mK_keep (kd := 6) (n := 160) hk_12 (by decide) ha_88
  have hk_16 := mK_keep (kd := 6) (n := 160) hk_16 (by decide) ha_88
  have hk_20 := mK_keep (kd := 6) (n := 160) hk_20 (by decide) ha_88
  have hk_24 := mK_keep (kd := 6) (n := 160) hk_24 (by decide) ha_88
  have hk_28 := mK_keep (kd := 6) (n := 160) hk_28 (by decide) ha_88
  have hk_32 := mK_keep (kd := 6) (n := 160) hk_32 (by decide) ha_88
  have hk_36 := mK_keep (kd := 6) (n := 160) hk_36 (by decide) ha_88
  have hk_40 := mK_keep (kd := 6) (n := 160) hk_40 (by decide) ha_88
  have hk_44 := mK_keep (kd := 6) (n := 160) hk_44 (by decide) ha_88
  have hk_48 := mK_keep (kd := 6) (n := 160) hk_48 (by decide) ha_88
  have hk_52 := mK_keep (kd := 6) (n := 160) hk_52 (by decide) ha_88
  have hk_56 := mK_keep (kd := 6) (n := 160) hk_56 (by decide) ha_88
  have hk_60 := mK_keep (kd := 6) (n := 160) hk_60 (by decide) ha_88
  have hk_64 := mK_keep (kd := 6) (n := 160) hk_64 (by decide) ha_88
  have hk_68 := mK_keep (kd := 6) (n := 160) hk_68 (by decide) ha_88
  have hk_72 := mK_keep (kd := 6) (n := 160) hk_72 (by decide) ha_88
  have hk_76 := mK_keep (kd := 6) (n := 160) hk_76 (by decide) ha_88
  have hk_80 := mK_keep (kd := 6) (n := 160) hk_80 (by decide) ha_88
  have hk_86 := mK_keep (kd := 6) (n := 160) hk_86 (by decide) ha_88
  have hk_90 := mK_new (kd := 6) (n := 160) ha_88
  refine pf4_31 hx hb hts inX4_init_4 hown hE.1 hM hS hk_4 (hts (.fieldLink RX4 89 "WorkCoderModel" "getsWhat" "[I") (by decide +kernel)) hnm rfl dX4_init_199 (fun H locs hM hS => ?_)
  replace h := h _ rfl
  refine lv_aload_n hx hb dX4_init_202 rfl (lv_at hl 0 rfl) ?_
  refine lv_sipush (v := 160) hx hb dX4_init_203 (by decide) ?_
  refine naI hx hb (hts (.arrayClass .int) (by decide +kernel)) hE.1 hM hS hE.2.1 (N := 160) (by decide) (by decide) (by decide) (Nat.le_of_ble_eq_true rfl) (Nat.le_of_ble_eq_true rfl) dX4_init_206 (fun a_92 H ha_92 hM hS => ?_)
  replace h := h a_92 ha_92 _ rfl
  have hk_3 := mK_keep (kd := 6) (n := 160) hk_3 (by decide) ha_92
  have hk_4 := mK_keep (kd := 6) (n := 160) hk_4 (by decide) ha_92
  have hk_8 := mK_keep (kd := 6) (n := 160) hk_8 (by decide) ha_92
  have hk_12 := mK_keep (kd := 6) (n := 160) hk_12 (by decide) ha_92
  have hk_16 := mK_keep (kd := 6) (n := 160) hk_16 (by decide) ha_92
  have hk_20 := mK_keep (kd := 6) (n := 160) hk_20 (by decide) ha_92
  have hk_24 := mK_keep (kd := 6) (n := 160) hk_24 (by decide) ha_92
  have hk_28 := mK_keep (kd := 6) (n := 160) hk_28 (by decide) ha_92
  have hk_32 := mK_keep (kd := 6) (n := 160) hk_32 (by decide) ha_92
  have hk_36 := mK_keep (kd := 6) (n := 160) hk_36 (by decide) ha_92
  have hk_40 := mK_keep (kd := 6) (n := 160) hk_40 (by decide) ha_92
  have hk_44 := mK_keep (kd := 6) (n := 160) hk_44 (by decide) ha_92
  have hk_48 := mK_keep (kd := 6) (n := 160) hk_48 (by decide) ha_92
  have hk_52 := mK_keep (kd := 6) (n := 160) hk_52 (by decide) ha_92
  have hk_56 := mK_keep (kd := 6) (n := 160) hk_56 (by decide) ha_92
  have hk_60 := mK_keep (kd := 6) (n := 160) hk_60 (by decide) ha_92
  have hk_64 := mK_keep (kd := 6) (n := 160) hk_64 (by decide) ha_92
  have hk_68 := mK_keep (kd := 6) (n := 160) hk_68 (by decide) ha_92
  have hk_72 := mK_keep (kd := 6) (n := 160) hk_72 (by decide) ha_92
  have hk_76 := mK_keep (kd := 6) (n := 160) hk_76 (by decide) ha_92
  have hk_80 := mK_keep (kd := 6) (n := 160) hk_80 (by decide) ha_92
  have hk_86 := mK_keep (kd := 6) (n := 160) hk_86 (by decide) ha_92
  have hk_90 := mK_keep (kd := 6) (n := 160) hk_90 (by decide) ha_92
  have hk_94 := mK_new (kd := 6) (n := 160) ha_92
  refine pf4_32 hx hb hts inX4_init_4 hown hE.1 hM hS hk_4 (hts (.fieldLink RX4 92 "WorkCoderModel" "getsNumber" "[I") (by decide +kernel)) hnm rfl dX4_init_208 (fun H locs hM hS => ?_)
  replace h := h _ rfl
  refine lv_aload_n hx hb dX4_init_211 rfl (lv_at hl 0 rfl) ?_
  refine lv_sipush (v := 160) hx hb dX4_init_212 (by decide) ?_
  refine naZ hx hb (hts (.arrayClass .boolean) (by decide +kernel)) hE.1 hM hS hE.2.1 (N := 160) (by decide) (by decide) (by decide) (Nat.le_of_ble_eq_true rfl) (Nat.le_of_ble_eq_true rfl) dX4_init_215 (fun a_96 H ha_96 hM hS => ?_)
  replace h := h a_96 ha_96 _ rfl
  have hk_3 := mK_keep (kd := 8) (n := 160) hk_3 (by decide) ha_96
  have hk_4 := mK_keep (kd := 8) (n := 160) hk_4 (by decide) ha_96
  have hk_8 := mK_keep (kd := 8) (n := 160) hk_8 (by decide) ha_96
  have hk_12 := mK_keep (kd := 8) (n := 160) hk_12 (by decide) ha_96
  have hk_16 := mK_keep (kd := 8) (n := 160) hk_16 (by decide) ha_96
  have hk_20 := mK_keep (kd := 8) (n := 160) hk_20 (by decide) ha_96
  have hk_24 := mK_keep (kd := 8) (n := 160) hk_24 (by decide) ha_96
  have hk_28 := mK_keep (kd := 8) (n := 160) hk_28 (by decide) ha_96
  have hk_32 := mK_keep (kd := 8) (n := 160) hk_32 (by decide) ha_96
  have hk_36 := mK_keep (kd := 8) (n := 160) hk_36 (by decide) ha_96
  have hk_40 := mK_keep (kd := 8) (n := 160) hk_40 (by decide) ha_96
  have hk_44 := mK_keep (kd := 8) (n := 160) hk_44 (by decide) ha_96
  have hk_48 := mK_keep (kd := 8) (n := 160) hk_48 (by decide) ha_96
  have hk_52 := mK_keep (kd := 8) (n := 160) hk_52 (by decide) ha_96
  have hk_56 := mK_keep (kd := 8) (n := 160) hk_56 (by decide) ha_96
  have hk_60 := mK_keep (kd := 8) (n := 160) hk_60 (by decide) ha_96
  have hk_64 := mK_keep (kd := 8) (n := 160) hk_64 (by decide) ha_96
  have hk_68 := mK_keep (kd := 8) (n := 160) hk_68 (by decide) ha_96
  have hk_72 := mK_keep (kd := 8) (n := 160) hk_72 (by decide) ha_96
  have hk_76 := mK_keep (kd := 8) (n := 160) hk_76 (by decide) ha_96
  have hk_80 := mK_keep (kd := 8) (n := 160) hk_80 (by decide) ha_96
  have hk_86 := mK_keep (kd := 8) (n := 160) hk_86 (by decide) ha_96
  have hk_90 := mK_keep (kd := 8) (n := 160) hk_90 (by decide) ha_96
  have hk_94 := mK_keep (kd := 8) (n := 160) hk_94 (by decide) ha_96
  have hk_98 := mK_new (kd := 8) (n := 160) ha_96
  refine pf4_33 hx hb hts inX4_init_4 hown hE.1 hM hS hk_4 (hts (.fieldLink RX4 95 "WorkCoderModel" "settled" "[Z") (by decide +kernel)) hnm rfl dX4_init_217 (fun H locs hM hS => ?_)
  replace h := h _ rfl
  refine lv_iconst (v := 0) hx hb dX4_init_220 (by decide) ?_
  refine lv_istore_n (i := 1) (lv' := [(1, .int 0), (0, .ref t)]) hx hb dX4_init_221 rfl hl (by decide) rfl (fun ls hl => ?_)
  obtain ⟨n0, h⟩ := h
  exact oX4_init_222 CX  n0 _ _ _ _ _ h hM hS (lv_sub hl [1, 0] rfl)
end S_X4_init
set_option maxHeartbeats 4000000 in
set_option maxRecDepth 100000 in
theorem ok_X4_init (l : Launch) (D : va_G) (cs : CS) (A : Nat → Prop) (t : Nat) (σ : MM) (k : MM → Prop) (h : wX4_init t σ k) : Met l yX4_init wsX4_init rmX4_init (va_Pc [.ref t] (mP D cs A σ)) (va_Qv k (mB D cs A) A) 24 2290 A := by
  refine Met.ofW (cc := cX4_init) (maxL := 2) (ret := none) (by decide) rfl ?_
  intro p e s m args below meth c s₁ B hml hv
  obtain ⟨rfl, hM, hE⟩ := hv
  have CX : CXM p s m _ meth c cX4_init 2 none "<init>" RX4 wsX4_init D cs A := ⟨B.exec, B.bytes, hml, B.returns, (name_of_methodNamed B.named B.method).1, findClass_of_methodNamed B.named, atoms_spec (ws := wsX4_init) B.pre, B.notSynchronized, hE⟩
  have hl := lv_entry ([.ref t]) (n := 2) (Nat.le_of_ble_eq_true rfl)
  rw [lg_entry_eq]
  exact oX4_init_0 CX  σ _ _ _ h hM va_S.rf hl
/-! WorkCoderModel.isCode(I)Z -/
abbrev rmX4_isCode : Room := { frames := 1, cells := 0, slots := 0, locals := 22 }
theorem inX4_isCode_4 : ∀ w ∈ wsX40, w ∈ wsX4_isCode := fun _ h => List.mem_cons_of_mem _ (List.mem_append_right _ (h))
section S_X4_isCode
variable {p : Program} {l : Launch} {e : Env} {s : State} {m : MethodId} {args : Array Value} {below : List Frame} {meth : Method} {c : Code} {D : va_G} {cs : CS} {A : Nat → Prop}
set_option maxHeartbeats 4000000 in
set_option maxRecDepth 100000 in
theorem oX4_isCode_0 {k : Int32 → MM → Prop} {t : Nat} (CX : CXM p s m args meth c cX4_isCode 2 (some .boolean) "isCode" RX4 wsX4_isCode D cs A) : ∀ (x1 : Int32) (σ : MM) (H : Heap) (locs : List Loc) (ls : Array Slot), wX4_isCode t x1 σ k → PH D cs A σ H → va_S A s.heap H locs → lv_has ls 2 [(0, .ref t), (1, .int x1)] → W p l e (headSpec wsX4_isCode rmX4_isCode).room s m args below meth c H locs 0 0 (MQ below (va_Qi k (mB D cs A) A) args s 0 0 A) (F0 m 0 ls []) := by
  intro x1 σ H locs ls h hM hS hl
  have ⟨hx, hb, hml, hr, hnm, hown, hts, hlocks, hE⟩ := CX
  unfold wX4_isCode at h
  refine lv_iload_n hx hb dX4_isCode_0 rfl (lv_at hl 1 rfl) ?_
  refine lv_iconst (v := 0) hx hb dX4_isCode_1 (by decide) ?_
  refine lv_aload_n hx hb dX4_isCode_2 rfl (lv_at hl 0 rfl) ?_
  obtain ⟨hk_1, h⟩ := h
  refine gf4_2 hx hb hts inX4_isCode_4 hown hE.1 hM hk_1 (hts (.fieldLink RX4 98 "WorkCoderModel" "codes" "I") (by decide +kernel)) dX4_isCode_3 ?_
  refine lv_iconst (v := 1) hx hb dX4_isCode_6 (by decide) ?_
  refine lv_isub hx hb dX4_isCode_7 ?_
  refine clSi (As := [.int x1, .int 0, .int ((mI σ t 2) - 1)]) (rest := []) ⟨hx, hb, hml, hown, hts⟩ hM hE hS (ok_X4_in l D cs A x1 0 ((mI σ t 2) - 1) _ _ h) (va_cwS 3 hts gX4_isCode_X4_in rfl rfl rfl (by decide +kernel) ⟨(Nat.le_of_ble_eq_true rfl), (Nat.le_of_ble_eq_true rfl)⟩) rfl hl.1 rfl (Nat.le_of_ble_eq_true rfl) dX4_isCode_8 ⟨(Nat.le_of_ble_eq_true rfl), (Nat.le_of_ble_eq_true rfl)⟩ (fun x_3 σ_2 H locs h1 hM hS => ?_)
  replace h := h1
  clear h1
  obtain ⟨hz_4, h⟩ := h
  exact W.zret (v := x_3) (ty := .boolean) hx hb hr (bz_narrow hz_4) (fun t_ ht hW => ⟨⟨_, _, rfl, h, mB_of ht hM⟩, hS.F ht⟩) hS.2.2 dX4_isCode_11
end S_X4_isCode
set_option maxHeartbeats 4000000 in
set_option maxRecDepth 100000 in
theorem ok_X4_isCode (l : Launch) (D : va_G) (cs : CS) (A : Nat → Prop) (t : Nat) (x1 : Int32) (σ : MM) (k : Int32 → MM → Prop) (h : wX4_isCode t x1 σ k) : Met l yX4_isCode wsX4_isCode rmX4_isCode (va_Pc [.ref t, .int x1] (mP D cs A σ)) (va_Qi k (mB D cs A) A) 0 0 A := by
  refine Met.ofW (cc := cX4_isCode) (maxL := 2) (ret := (some .boolean)) (by decide) rfl ?_
  intro p e s m args below meth c s₁ B hml hv
  obtain ⟨rfl, hM, hE⟩ := hv
  have CX : CXM p s m _ meth c cX4_isCode 2 (some .boolean) "isCode" RX4 wsX4_isCode D cs A := ⟨B.exec, B.bytes, hml, B.returns, (name_of_methodNamed B.named B.method).1, findClass_of_methodNamed B.named, atoms_spec (ws := wsX4_isCode) B.pre, B.notSynchronized, hE⟩
  have hl := lv_entry ([.ref t, .int x1]) (n := 2) (Nat.le_of_ble_eq_true rfl)
  rw [lg_entry_eq]
  exact oX4_isCode_0 CX x1 σ _ _ _ h hM va_S.rf hl
/-! WorkCoderModel.isOther(I)Z -/
abbrev rmX4_isOther : Room := { frames := 1, cells := 0, slots := 0, locals := 22 }
theorem inX4_isOther_4 : ∀ w ∈ wsX40, w ∈ wsX4_isOther := fun _ h => List.mem_cons_of_mem _ (List.mem_append_right _ (h))
section S_X4_isOther
variable {p : Program} {l : Launch} {e : Env} {s : State} {m : MethodId} {args : Array Value} {below : List Frame} {meth : Method} {c : Code} {D : va_G} {cs : CS} {A : Nat → Prop}
set_option maxHeartbeats 4000000 in
set_option maxRecDepth 100000 in
theorem oX4_isOther_0 {k : Int32 → MM → Prop} {t : Nat} (CX : CXM p s m args meth c cX4_isOther 2 (some .boolean) "isOther" RX4 wsX4_isOther D cs A) : ∀ (x1 : Int32) (σ : MM) (H : Heap) (locs : List Loc) (ls : Array Slot), wX4_isOther t x1 σ k → PH D cs A σ H → va_S A s.heap H locs → lv_has ls 2 [(0, .ref t), (1, .int x1)] → W p l e (headSpec wsX4_isOther rmX4_isOther).room s m args below meth c H locs 0 0 (MQ below (va_Qi k (mB D cs A) A) args s 0 0 A) (F0 m 0 ls []) := by
  intro x1 σ H locs ls h hM hS hl
  have ⟨hx, hb, hml, hr, hnm, hown, hts, hlocks, hE⟩ := CX
  unfold wX4_isOther at h
  refine lv_iload_n hx hb dX4_isOther_0 rfl (lv_at hl 1 rfl) ?_
  refine lv_iconst (v := 0) hx hb dX4_isOther_1 (by decide) ?_
  refine lv_aload_n hx hb dX4_isOther_2 rfl (lv_at hl 0 rfl) ?_
  obtain ⟨hk_1, h⟩ := h
  refine gf4_5 hx hb hts inX4_isOther_4 hown hE.1 hM hk_1 (hts (.fieldLink RX4 101 "WorkCoderModel" "others" "I") (by decide +kernel)) dX4_isOther_3 ?_
  refine lv_iconst (v := 1) hx hb dX4_isOther_6 (by decide) ?_
  refine lv_isub hx hb dX4_isOther_7 ?_
  refine clSi (As := [.int x1, .int 0, .int ((mI σ t 5) - 1)]) (rest := []) ⟨hx, hb, hml, hown, hts⟩ hM hE hS (ok_X4_in l D cs A x1 0 ((mI σ t 5) - 1) _ _ h) (va_cwS 3 hts gX4_isOther_X4_in rfl rfl rfl (by decide +kernel) ⟨(Nat.le_of_ble_eq_true rfl), (Nat.le_of_ble_eq_true rfl)⟩) rfl hl.1 rfl (Nat.le_of_ble_eq_true rfl) dX4_isOther_8 ⟨(Nat.le_of_ble_eq_true rfl), (Nat.le_of_ble_eq_true rfl)⟩ (fun x_3 σ_2 H locs h1 hM hS => ?_)
  replace h := h1
  clear h1
  obtain ⟨hz_4, h⟩ := h
  exact W.zret (v := x_3) (ty := .boolean) hx hb hr (bz_narrow hz_4) (fun t_ ht hW => ⟨⟨_, _, rfl, h, mB_of ht hM⟩, hS.F ht⟩) hS.2.2 dX4_isOther_11
end S_X4_isOther
set_option maxHeartbeats 4000000 in
set_option maxRecDepth 100000 in
theorem ok_X4_isOther (l : Launch) (D : va_G) (cs : CS) (A : Nat → Prop) (t : Nat) (x1 : Int32) (σ : MM) (k : Int32 → MM → Prop) (h : wX4_isOther t x1 σ k) : Met l yX4_isOther wsX4_isOther rmX4_isOther (va_Pc [.ref t, .int x1] (mP D cs A σ)) (va_Qi k (mB D cs A) A) 0 0 A := by
  refine Met.ofW (cc := cX4_isOther) (maxL := 2) (ret := (some .boolean)) (by decide) rfl ?_
  intro p e s m args below meth c s₁ B hml hv
  obtain ⟨rfl, hM, hE⟩ := hv
  have CX : CXM p s m _ meth c cX4_isOther 2 (some .boolean) "isOther" RX4 wsX4_isOther D cs A := ⟨B.exec, B.bytes, hml, B.returns, (name_of_methodNamed B.named B.method).1, findClass_of_methodNamed B.named, atoms_spec (ws := wsX4_isOther) B.pre, B.notSynchronized, hE⟩
  have hl := lv_entry ([.ref t, .int x1]) (n := 2) (Nat.le_of_ble_eq_true rfl)
  rw [lg_entry_eq]
  exact oX4_isOther_0 CX x1 σ _ _ _ h hM va_S.rf hl
/-! WorkCoderModel.code(I)I -/
abbrev rmX4_code : Room := { frames := 1, cells := 0, slots := 0, locals := 22 }
theorem inX4_code_4 : ∀ w ∈ wsX40, w ∈ wsX4_code := fun _ h => List.mem_cons_of_mem _ (List.mem_append_right _ (h))
section S_X4_code
variable {p : Program} {l : Launch} {e : Env} {s : State} {m : MethodId} {args : Array Value} {below : List Frame} {meth : Method} {c : Code} {D : va_G} {cs : CS} {A : Nat → Prop}
set_option maxHeartbeats 4000000 in
set_option maxRecDepth 100000 in
theorem oX4_code_0 {k : Int32 → MM → Prop} {t : Nat} (CX : CXM p s m args meth c cX4_code 2 (some .int) "code" RX4 wsX4_code D cs A) : ∀ (x1 : Int32) (σ : MM) (H : Heap) (locs : List Loc) (ls : Array Slot), wX4_code t x1 σ k → PH D cs A σ H → va_S A s.heap H locs → lv_has ls 2 [(0, .ref t), (1, .int x1)] → W p l e (headSpec wsX4_code rmX4_code).room s m args below meth c H locs 0 0 (MQ below (va_Qi k (mB D cs A) A) args s 0 0 A) (F0 m 0 ls []) := by
  intro x1 σ H locs ls h hM hS hl
  have ⟨hx, hb, hml, hr, hnm, hown, hts, hlocks, hE⟩ := CX
  unfold wX4_code at h
  refine lv_iload_n hx hb dX4_code_0 rfl (lv_at hl 1 rfl) ?_
  refine lv_iconst (v := (-1)) hx hb dX4_code_1 (by decide) ?_
  refine lv_aload_n hx hb dX4_code_2 rfl (lv_at hl 0 rfl) ?_
  obtain ⟨hk_1, h⟩ := h
  refine gf4_2 hx hb hts inX4_code_4 hown hE.1 hM hk_1 (hts (.fieldLink RX4 98 "WorkCoderModel" "codes" "I") (by decide +kernel)) dX4_code_3 ?_
  refine lv_iconst (v := 1) hx hb dX4_code_6 (by decide) ?_
  refine lv_isub hx hb dX4_code_7 ?_
  refine clSi (As := [.int x1, .int (-1), .int ((mI σ t 2) - 1)]) (rest := []) ⟨hx, hb, hml, hown, hts⟩ hM hE hS (ok_X4_in l D cs A x1 (-1) ((mI σ t 2) - 1) _ _ h) (va_cwS 3 hts gX4_code_X4_in rfl rfl rfl (by decide +kernel) ⟨(Nat.le_of_ble_eq_true rfl), (Nat.le_of_ble_eq_true rfl)⟩) rfl hl.1 rfl (Nat.le_of_ble_eq_true rfl) dX4_code_8 ⟨(Nat.le_of_ble_eq_true rfl), (Nat.le_of_ble_eq_true rfl)⟩ (fun x_3 σ_2 H locs h1 hM hS => ?_)
  replace h := h1
  clear h1
  refine lv_if_ne (tgt := 16) hx hb dX4_code_11 (by decide) (fun hc => ?_) (fun hc => ?_)
  · replace h := h.1 hc
    refine lv_aload_n hx hb dX4_code_16 rfl (lv_at hl 0 rfl) ?_
    obtain ⟨hk_4, h⟩ := h
    refine gf4_2 hx hb hts inX4_code_4 hown hE.1 hM hk_4 (hts (.fieldLink RX4 98 "WorkCoderModel" "codes" "I") (by decide +kernel)) dX4_code_17 ?_
    refine lv_bipush (v := 40) hx hb dX4_code_20 (by decide) ?_
    refine lv_icmp_ne (tgt := 28) hx hb dX4_code_22 (by decide) (fun hc => ?_) (fun hc => ?_)
    · replace h := h.1 hc
      refine lv_aload_n hx hb dX4_code_28 rfl (lv_at hl 0 rfl) ?_
      refine gf4_3 hx hb hts inX4_code_4 hown hE.1 hM hk_4 (hts (.fieldLink RX4 21 "WorkCoderModel" "above" "[I") (by decide +kernel)) dX4_code_29 (fun r_5 er_5 => ?_)
      replace h := h r_5 er_5
      clear er_5
      refine lv_aload_n hx hb dX4_code_32 rfl (lv_at hl 0 rfl) ?_
      refine gf4_2 hx hb hts inX4_code_4 hown hE.1 hM hk_4 (hts (.fieldLink RX4 98 "WorkCoderModel" "codes" "I") (by decide +kernel)) dX4_code_33 ?_
      refine lv_iload_n hx hb dX4_code_36 rfl (lv_at hl 1 rfl) ?_
      obtain ⟨a_6, rfl, h⟩ := h
      obtain ⟨hk_7, h⟩ := h
      obtain ⟨hv_8, h⟩ := h
      refine mm_iast hx hb hE.1 hM hS hk_7 hv_8 dX4_code_37 (fun H locs hM hS => ?_)
      replace h := h _ rfl
      refine lv_aload_n hx hb dX4_code_38 rfl (lv_at hl 0 rfl) ?_
      refine lv_dup hx hb dX4_code_39 rfl ?_
      refine gf4_2 hx hb hts inX4_code_4 hown hE.1 hM hk_4 (hts (.fieldLink RX4 98 "WorkCoderModel" "codes" "I") (by decide +kernel)) dX4_code_40 ?_
      refine lv_iconst (v := 1) hx hb dX4_code_43 (by decide) ?_
      refine lv_iadd hx hb dX4_code_44 ?_
      refine pf4_2 hx hb hts inX4_code_4 hown hE.1 hM hS hk_4 (hts (.fieldLink RX4 98 "WorkCoderModel" "codes" "I") (by decide +kernel)) dX4_code_45 (fun H locs hM hS => ?_)
      replace h := h _ rfl
      refine lv_aload_n hx hb dX4_code_48 rfl (lv_at hl 0 rfl) ?_
      refine gf4_2 hx hb hts inX4_code_4 hown hE.1 hM hk_4 (hts (.fieldLink RX4 98 "WorkCoderModel" "codes" "I") (by decide +kernel)) dX4_code_49 ?_
      refine lv_iconst (v := 1) hx hb dX4_code_52 (by decide) ?_
      refine lv_isub hx hb dX4_code_53 ?_
      exact W.iret (v := (mI (sI (sI σ_2 a_6 (ix (mI σ_2 t 2)) x1) t 2 ((mI (sI σ_2 a_6 (ix (mI σ_2 t 2)) x1) t 2) + 1)) t 2) - 1) hx hb hr (fun t_ ht hW => ⟨⟨_, _, rfl, h, mB_of ht hM⟩, hS.F ht⟩) hS.2.2 dX4_code_54
    · replace h := h.2 hc
      refine lv_bipush (v := (-3)) hx hb dX4_code_25 (by decide) ?_
      exact W.iret (v := (-3)) hx hb hr (fun t_ ht hW => ⟨⟨_, _, rfl, h, mB_of ht hM⟩, hS.F ht⟩) hS.2.2 dX4_code_27
  · replace h := h.2 hc
    refine lv_iconst (v := (-1)) hx hb dX4_code_14 (by decide) ?_
    exact W.iret (v := (-1)) hx hb hr (fun t_ ht hW => ⟨⟨_, _, rfl, h, mB_of ht hM⟩, hS.F ht⟩) hS.2.2 dX4_code_15
end S_X4_code
set_option maxHeartbeats 4000000 in
set_option maxRecDepth 100000 in
theorem ok_X4_code (l : Launch) (D : va_G) (cs : CS) (A : Nat → Prop) (t : Nat) (x1 : Int32) (σ : MM) (k : Int32 → MM → Prop) (h : wX4_code t x1 σ k) : Met l yX4_code wsX4_code rmX4_code (va_Pc [.ref t, .int x1] (mP D cs A σ)) (va_Qi k (mB D cs A) A) 0 0 A := by
  refine Met.ofW (cc := cX4_code) (maxL := 2) (ret := (some .int)) (by decide) rfl ?_
  intro p e s m args below meth c s₁ B hml hv
  obtain ⟨rfl, hM, hE⟩ := hv
  have CX : CXM p s m _ meth c cX4_code 2 (some .int) "code" RX4 wsX4_code D cs A := ⟨B.exec, B.bytes, hml, B.returns, (name_of_methodNamed B.named B.method).1, findClass_of_methodNamed B.named, atoms_spec (ws := wsX4_code) B.pre, B.notSynchronized, hE⟩
  have hl := lv_entry ([.ref t, .int x1]) (n := 2) (Nat.le_of_ble_eq_true rfl)
  rw [lg_entry_eq]
  exact oX4_code_0 CX x1 σ _ _ _ h hM va_S.rf hl
/-! WorkCoderModel.exclude(III)I -/
abbrev rmX4_exclude : Room := { frames := 2, cells := 0, slots := 0, locals := 43 }
theorem inX4_exclude_4 : ∀ w ∈ wsX40, w ∈ wsX4_exclude := fun _ h => List.mem_cons_of_mem _ (List.mem_append_right _ (h))
section S_X4_exclude
variable {p : Program} {l : Launch} {e : Env} {s : State} {m : MethodId} {args : Array Value} {below : List Frame} {meth : Method} {c : Code} {D : va_G} {cs : CS} {A : Nat → Prop}
set_option maxHeartbeats 4000000 in
set_option maxRecDepth 100000 in
theorem oX4_exclude_0 {k : Int32 → MM → Prop} {t : Nat} (CX : CXM p s m args meth c cX4_exclude 5 (some .int) "exclude" RX4 wsX4_exclude D cs A) : ∀ (x1 : Int32) (x2 : Int32) (x3 : Int32) (σ : MM) (H : Heap) (locs : List Loc) (ls : Array Slot), wX4_exclude t x1 x2 x3 σ k → PH D cs A σ H → va_S A s.heap H locs → lv_has ls 5 [(0, .ref t), (1, .int x1), (2, .int x2), (3, .int x3)] → W p l e (headSpec wsX4_exclude rmX4_exclude).room s m args below meth c H locs 0 0 (MQ below (va_Qi k (mB D cs A) A) args s 0 0 A) (F0 m 0 ls []) := by
  intro x1 x2 x3 σ H locs ls h hM hS hl
  have ⟨hx, hb, hml, hr, hnm, hown, hts, hlocks, hE⟩ := CX
  unfold wX4_exclude at h
  refine lv_aload_n hx hb dX4_exclude_0 rfl (lv_at hl 0 rfl) ?_
  refine lv_iload_n hx hb dX4_exclude_1 rfl (lv_at hl 1 rfl) ?_
  obtain ⟨hk_1, h⟩ := h
  refine clVi (C := RX4) (b := t) (As := [.int x1]) (rest := []) ⟨hx, hb, hml, hown, hts⟩ hM hE hS (ok_X4_isCode l D cs A t x1 _ _ h) (cwV 1 hts gX4_exclude_X4_isCode rfl rfl rfl (by decide +kernel) ⟨(Nat.le_of_ble_eq_true rfl), (Nat.le_of_ble_eq_true rfl)⟩) (rc4 hM hE.1 hk_1) rfl hl.1 rfl (Nat.le_of_ble_eq_true rfl) dX4_exclude_2 ⟨(Nat.le_of_ble_eq_true rfl), (Nat.le_of_ble_eq_true rfl)⟩ (fun x_3 σ_2 H locs h1 hM hS => ?_)
  replace h := h1
  clear h1
  refine lv_if_eq (tgt := 24) hx hb dX4_exclude_5 (by decide) (fun hc => ?_) (fun hc => ?_)
  · replace h := h.1 hc
    refine lv_iconst (v := (-1)) hx hb dX4_exclude_24 (by decide) ?_
    exact W.iret (v := (-1)) hx hb hr (fun t_ ht hW => ⟨⟨_, _, rfl, h, mB_of ht hM⟩, hS.F ht⟩) hS.2.2 dX4_exclude_25
  · replace h := h.2 hc
    refine lv_iload_n hx hb dX4_exclude_8 rfl (lv_at hl 2 rfl) ?_
    refine clSi (As := [.int x2]) (rest := []) ⟨hx, hb, hml, hown, hts⟩ hM hE hS (ok_X4_isWord l D cs A x2 _ _ h) (va_cwS 1 hts gX4_exclude_X4_isWord rfl rfl rfl (by decide +kernel) ⟨(Nat.le_of_ble_eq_true rfl), (Nat.le_of_ble_eq_true rfl)⟩) rfl hl.1 rfl (Nat.le_of_ble_eq_true rfl) dX4_exclude_9 ⟨(Nat.le_of_ble_eq_true rfl), (Nat.le_of_ble_eq_true rfl)⟩ (fun x_5 σ_4 H locs h1 hM hS => ?_)
    replace h := h1
    clear h1
    refine lv_if_eq (tgt := 24) hx hb dX4_exclude_12 (by decide) (fun hc => ?_) (fun hc => ?_)
    · replace h := h.1 hc
      refine lv_iconst (v := (-1)) hx hb dX4_exclude_24 (by decide) ?_
      exact W.iret (v := (-1)) hx hb hr (fun t_ ht hW => ⟨⟨_, _, rfl, h, mB_of ht hM⟩, hS.F ht⟩) hS.2.2 dX4_exclude_25
    · replace h := h.2 hc
      refine lv_iload_n hx hb dX4_exclude_15 rfl (lv_at hl 3 rfl) ?_
      refine lv_iconst (v := 0) hx hb dX4_exclude_16 (by decide) ?_
      refine lv_iconst (v := 1) hx hb dX4_exclude_17 (by decide) ?_
      refine clSi (As := [.int x3, .int 0, .int 1]) (rest := []) ⟨hx, hb, hml, hown, hts⟩ hM hE hS (ok_X4_in l D cs A x3 0 1 _ _ h) (va_cwS 3 hts gX4_exclude_X4_in rfl rfl rfl (by decide +kernel) ⟨(Nat.le_of_ble_eq_true rfl), (Nat.le_of_ble_eq_true rfl)⟩) rfl hl.1 rfl (Nat.le_of_ble_eq_true rfl) dX4_exclude_18 ⟨(Nat.le_of_ble_eq_true rfl), (Nat.le_of_ble_eq_true rfl)⟩ (fun x_7 σ_6 H locs h1 hM hS => ?_)
      replace h := h1
      clear h1
      refine lv_if_ne (tgt := 26) hx hb dX4_exclude_21 (by decide) (fun hc => ?_) (fun hc => ?_)
      · replace h := h.1 hc
        refine lv_aload_n hx hb dX4_exclude_26 rfl (lv_at hl 0 rfl) ?_
        obtain ⟨hk_8, h⟩ := h
        refine gf4_4 hx hb hts inX4_exclude_4 hown hE.1 hM hk_8 (hts (.fieldLink RX4 24 "WorkCoderModel" "excluded" "[J") (by decide +kernel)) dX4_exclude_27 (fun r_9 er_9 => ?_)
        replace h := h r_9 er_9
        clear er_9
        refine lv_iload_n hx hb dX4_exclude_30 rfl (lv_at hl 1 rfl) ?_
        obtain ⟨a_10, rfl, h⟩ := h
        obtain ⟨hk_11, h⟩ := h
        obtain ⟨hv_12, h⟩ := h
        refine mm_lald hx hb hE.1 hM hk_11 hv_12 dX4_exclude_31 ?_
        refine lv_iload_n hx hb dX4_exclude_32 rfl (lv_at hl 2 rfl) ?_
        refine lv_lshr hx hb dX4_exclude_33 (v := lShr (mL σ_6 a_10 (ix x1)) x2) rfl ?_
        refine lv_lconst (v := 1) hx hb dX4_exclude_34 (by decide) ?_
        refine lv_land hx hb dX4_exclude_35 ?_
        refine lv_l2i hx hb dX4_exclude_36 (v := ((lShr (mL σ_6 a_10 (ix x1)) x2) &&& 1).toInt32) rfl ?_
        refine lv_topi (fun x_13 ex_13 => ?_)
        replace h := h x_13 ex_13
        refine lv_istore (i := 4) (lv' := [(4, .int x_13), (0, .ref t), (1, .int x1), (2, .int x2), (3, .int x3)]) hx hb dX4_exclude_37 hl (by decide) rfl (fun ls hl => ?_)
        refine lv_aload_n hx hb dX4_exclude_39 rfl (lv_at hl 1 rfl) ?_
        refine gf4_4 hx hb hts inX4_exclude_4 hown hE.1 hM hk_8 (hts (.fieldLink RX4 24 "WorkCoderModel" "excluded" "[J") (by decide +kernel)) dX4_exclude_40 (fun r_14 er_14 => ?_)
        replace h := h r_14 er_14
        clear er_14
        refine lv_iload_n hx hb dX4_exclude_43 rfl (lv_at hl 2 rfl) ?_
        refine lv_iload_n hx hb dX4_exclude_44 rfl (lv_at hl 4 rfl) ?_
        refine lv_iconst (v := 1) hx hb dX4_exclude_45 (by decide) ?_
        refine lv_icmp_ne (tgt := 62) hx hb dX4_exclude_46 (by decide) (fun hc => ?_) (fun hc => ?_)
        · replace h := h.1 hc
          refine lv_aload_n hx hb dX4_exclude_62 rfl (lv_at hl 1 rfl) ?_
          refine gf4_4 hx hb hts inX4_exclude_4 hown hE.1 hM hk_8 (hts (.fieldLink RX4 24 "WorkCoderModel" "excluded" "[J") (by decide +kernel)) dX4_exclude_63 (fun r_15 er_15 => ?_)
          replace h := h r_15 er_15
          clear er_15
          refine lv_iload_n hx hb dX4_exclude_66 rfl (lv_at hl 2 rfl) ?_
          obtain ⟨a_16, rfl, h⟩ := h
          obtain ⟨hk_17, h⟩ := h
          obtain ⟨hv_18, h⟩ := h
          refine mm_lald hx hb hE.1 hM hk_17 hv_18 dX4_exclude_67 ?_
          refine lv_lconst (v := 1) hx hb dX4_exclude_68 (by decide) ?_
          refine lv_iload_n hx hb dX4_exclude_69 rfl (lv_at hl 3 rfl) ?_
          refine lv_lshl hx hb dX4_exclude_70 (v := lShl (1 : Int64) x2) rfl ?_
          refine lv_ldc2 (v := (-1)) hx hb hown (hts (.constantLong RX4 111 (-1)) (by decide +kernel)) dX4_exclude_71 ?_
          refine lv_lxor hx hb dX4_exclude_74 ?_
          refine lv_land hx hb dX4_exclude_75 ?_
          obtain ⟨a_19, rfl, h⟩ := h
          obtain ⟨hk_20, h⟩ := h
          obtain ⟨hv_21, h⟩ := h
          refine mm_last hx hb hE.1 hM hS hk_20 hv_21 dX4_exclude_76 (fun H locs hM hS => ?_)
          replace h := h _ rfl
          refine lv_iload hx hb dX4_exclude_77 (lv_at hl 0 rfl) ?_
          exact W.iret (v := x_13) hx hb hr (fun t_ ht hW => ⟨⟨_, _, rfl, h, mB_of ht hM⟩, hS.F ht⟩) hS.2.2 dX4_exclude_79
        · replace h := h.2 hc
          refine lv_aload_n hx hb dX4_exclude_49 rfl (lv_at hl 1 rfl) ?_
          refine gf4_4 hx hb hts inX4_exclude_4 hown hE.1 hM hk_8 (hts (.fieldLink RX4 24 "WorkCoderModel" "excluded" "[J") (by decide +kernel)) dX4_exclude_50 (fun r_23 er_23 => ?_)
          replace h := h r_23 er_23
          clear er_23
          refine lv_iload_n hx hb dX4_exclude_53 rfl (lv_at hl 2 rfl) ?_
          obtain ⟨a_24, rfl, h⟩ := h
          obtain ⟨hk_25, h⟩ := h
          obtain ⟨hv_26, h⟩ := h
          refine mm_lald hx hb hE.1 hM hk_25 hv_26 dX4_exclude_54 ?_
          refine lv_lconst (v := 1) hx hb dX4_exclude_55 (by decide) ?_
          refine lv_iload_n hx hb dX4_exclude_56 rfl (lv_at hl 3 rfl) ?_
          refine lv_lshl hx hb dX4_exclude_57 (v := lShl (1 : Int64) x2) rfl ?_
          refine lv_lor hx hb dX4_exclude_58 ?_
          refine lv_goto (tgt := 76) hx hb dX4_exclude_59 (by decide) ?_
          obtain ⟨a_27, rfl, h⟩ := h
          obtain ⟨hk_28, h⟩ := h
          obtain ⟨hv_29, h⟩ := h
          refine mm_last hx hb hE.1 hM hS hk_28 hv_29 dX4_exclude_76 (fun H locs hM hS => ?_)
          replace h := h _ rfl
          refine lv_iload hx hb dX4_exclude_77 (lv_at hl 0 rfl) ?_
          exact W.iret (v := x_13) hx hb hr (fun t_ ht hW => ⟨⟨_, _, rfl, h, mB_of ht hM⟩, hS.F ht⟩) hS.2.2 dX4_exclude_79
      · replace h := h.2 hc
        refine lv_iconst (v := (-1)) hx hb dX4_exclude_24 (by decide) ?_
        exact W.iret (v := (-1)) hx hb hr (fun t_ ht hW => ⟨⟨_, _, rfl, h, mB_of ht hM⟩, hS.F ht⟩) hS.2.2 dX4_exclude_25
end S_X4_exclude
set_option maxHeartbeats 4000000 in
set_option maxRecDepth 100000 in
theorem ok_X4_exclude (l : Launch) (D : va_G) (cs : CS) (A : Nat → Prop) (t : Nat) (x1 : Int32) (x2 : Int32) (x3 : Int32) (σ : MM) (k : Int32 → MM → Prop) (h : wX4_exclude t x1 x2 x3 σ k) : Met l yX4_exclude wsX4_exclude rmX4_exclude (va_Pc [.ref t, .int x1, .int x2, .int x3] (mP D cs A σ)) (va_Qi k (mB D cs A) A) 0 0 A := by
  refine Met.ofW (cc := cX4_exclude) (maxL := 5) (ret := (some .int)) (by decide) rfl ?_
  intro p e s m args below meth c s₁ B hml hv
  obtain ⟨rfl, hM, hE⟩ := hv
  have CX : CXM p s m _ meth c cX4_exclude 5 (some .int) "exclude" RX4 wsX4_exclude D cs A := ⟨B.exec, B.bytes, hml, B.returns, (name_of_methodNamed B.named B.method).1, findClass_of_methodNamed B.named, atoms_spec (ws := wsX4_exclude) B.pre, B.notSynchronized, hE⟩
  have hl := lv_entry ([.ref t, .int x1, .int x2, .int x3]) (n := 5) (Nat.le_of_ble_eq_true rfl)
  rw [lg_entry_eq]
  exact oX4_exclude_0 CX x1 x2 x3 σ _ _ _ h hM va_S.rf hl
/-! WorkCoderModel.spell(II)I -/
abbrev rmX4_spell : Room := { frames := 2, cells := 0, slots := 0, locals := 42 }
theorem inX4_spell_4 : ∀ w ∈ wsX40, w ∈ wsX4_spell := fun _ h => List.mem_cons_of_mem _ (List.mem_append_right _ (h))
section S_X4_spell
variable {p : Program} {l : Launch} {e : Env} {s : State} {m : MethodId} {args : Array Value} {below : List Frame} {meth : Method} {c : Code} {D : va_G} {cs : CS} {A : Nat → Prop}
set_option maxHeartbeats 4000000 in
set_option maxRecDepth 100000 in
theorem oX4_spell_0 {k : Int32 → MM → Prop} {t : Nat} (CX : CXM p s m args meth c cX4_spell 4 (some .int) "spell" RX4 wsX4_spell D cs A) : ∀ (x1 : Int32) (x2 : Int32) (σ : MM) (H : Heap) (locs : List Loc) (ls : Array Slot), wX4_spell t x1 x2 σ k → PH D cs A σ H → va_S A s.heap H locs → lv_has ls 4 [(0, .ref t), (1, .int x1), (2, .int x2)] → W p l e (headSpec wsX4_spell rmX4_spell).room s m args below meth c H locs 0 0 (MQ below (va_Qi k (mB D cs A) A) args s 0 0 A) (F0 m 0 ls []) := by
  intro x1 x2 σ H locs ls h hM hS hl
  have ⟨hx, hb, hml, hr, hnm, hown, hts, hlocks, hE⟩ := CX
  unfold wX4_spell at h
  refine lv_iload_n hx hb dX4_spell_0 rfl (lv_at hl 1 rfl) ?_
  refine clSi (As := [.int x1]) (rest := []) ⟨hx, hb, hml, hown, hts⟩ hM hE hS (ok_X4_isWord l D cs A x1 _ _ h) (va_cwS 1 hts gX4_spell_X4_isWord rfl rfl rfl (by decide +kernel) ⟨(Nat.le_of_ble_eq_true rfl), (Nat.le_of_ble_eq_true rfl)⟩) rfl hl.1 rfl (Nat.le_of_ble_eq_true rfl) dX4_spell_1 ⟨(Nat.le_of_ble_eq_true rfl), (Nat.le_of_ble_eq_true rfl)⟩ (fun x_2 σ_1 H locs h1 hM hS => ?_)
  replace h := h1
  clear h1
  refine lv_if_eq (tgt := 14) hx hb dX4_spell_4 (by decide) (fun hc => ?_) (fun hc => ?_)
  · replace h := h.1 hc
    refine lv_iconst (v := (-1)) hx hb dX4_spell_14 (by decide) ?_
    exact W.iret (v := (-1)) hx hb hr (fun t_ ht hW => ⟨⟨_, _, rfl, h, mB_of ht hM⟩, hS.F ht⟩) hS.2.2 dX4_spell_15
  · replace h := h.2 hc
    refine lv_iload_n hx hb dX4_spell_7 rfl (lv_at hl 2 rfl) ?_
    refine clSi (As := [.int x2]) (rest := []) ⟨hx, hb, hml, hown, hts⟩ hM hE hS (ok_X4_isWord l D cs A x2 _ _ h) (va_cwS 1 hts gX4_spell_X4_isWord rfl rfl rfl (by decide +kernel) ⟨(Nat.le_of_ble_eq_true rfl), (Nat.le_of_ble_eq_true rfl)⟩) rfl hl.1 rfl (Nat.le_of_ble_eq_true rfl) dX4_spell_8 ⟨(Nat.le_of_ble_eq_true rfl), (Nat.le_of_ble_eq_true rfl)⟩ (fun x_4 σ_3 H locs h1 hM hS => ?_)
    replace h := h1
    clear h1
    refine lv_if_ne (tgt := 16) hx hb dX4_spell_11 (by decide) (fun hc => ?_) (fun hc => ?_)
    · replace h := h.1 hc
      refine lv_aload_n hx hb dX4_spell_16 rfl (lv_at hl 0 rfl) ?_
      obtain ⟨hk_5, h⟩ := h
      refine gf4_1 hx hb hts inX4_spell_4 hown hE.1 hM hk_5 (hts (.fieldLink RX4 17 "WorkCoderModel" "stands" "[I") (by decide +kernel)) dX4_spell_17 (fun r_6 er_6 => ?_)
      replace h := h r_6 er_6
      clear er_6
      refine lv_iload_n hx hb dX4_spell_20 rfl (lv_at hl 1 rfl) ?_
      obtain ⟨a_7, rfl, h⟩ := h
      obtain ⟨hk_8, h⟩ := h
      obtain ⟨hv_9, h⟩ := h
      refine mm_iald hx hb hE.1 hM hk_8 hv_9 dX4_spell_21 ?_
      refine lv_topi (fun x_10 ex_10 => ?_)
      replace h := h x_10 ex_10
      refine lv_istore_n (i := 3) (lv' := [(3, .int x_10), (0, .ref t), (1, .int x1), (2, .int x2)]) hx hb dX4_spell_22 rfl hl (by decide) rfl (fun ls hl => ?_)
      refine lv_aload_n hx hb dX4_spell_23 rfl (lv_at hl 1 rfl) ?_
      refine gf4_1 hx hb hts inX4_spell_4 hown hE.1 hM hk_5 (hts (.fieldLink RX4 17 "WorkCoderModel" "stands" "[I") (by decide +kernel)) dX4_spell_24 (fun r_11 er_11 => ?_)
      replace h := h r_11 er_11
      clear er_11
      refine lv_iload_n hx hb dX4_spell_27 rfl (lv_at hl 2 rfl) ?_
      refine lv_iload_n hx hb dX4_spell_28 rfl (lv_at hl 3 rfl) ?_
      obtain ⟨a_12, rfl, h⟩ := h
      obtain ⟨hk_13, h⟩ := h
      obtain ⟨hv_14, h⟩ := h
      refine mm_iast hx hb hE.1 hM hS hk_13 hv_14 dX4_spell_29 (fun H locs hM hS => ?_)
      replace h := h _ rfl
      refine lv_iload_n hx hb dX4_spell_30 rfl (lv_at hl 0 rfl) ?_
      exact W.iret (v := x_10) hx hb hr (fun t_ ht hW => ⟨⟨_, _, rfl, h, mB_of ht hM⟩, hS.F ht⟩) hS.2.2 dX4_spell_31
    · replace h := h.2 hc
      refine lv_iconst (v := (-1)) hx hb dX4_spell_14 (by decide) ?_
      exact W.iret (v := (-1)) hx hb hr (fun t_ ht hW => ⟨⟨_, _, rfl, h, mB_of ht hM⟩, hS.F ht⟩) hS.2.2 dX4_spell_15
end S_X4_spell
set_option maxHeartbeats 4000000 in
set_option maxRecDepth 100000 in
theorem ok_X4_spell (l : Launch) (D : va_G) (cs : CS) (A : Nat → Prop) (t : Nat) (x1 : Int32) (x2 : Int32) (σ : MM) (k : Int32 → MM → Prop) (h : wX4_spell t x1 x2 σ k) : Met l yX4_spell wsX4_spell rmX4_spell (va_Pc [.ref t, .int x1, .int x2] (mP D cs A σ)) (va_Qi k (mB D cs A) A) 0 0 A := by
  refine Met.ofW (cc := cX4_spell) (maxL := 4) (ret := (some .int)) (by decide) rfl ?_
  intro p e s m args below meth c s₁ B hml hv
  obtain ⟨rfl, hM, hE⟩ := hv
  have CX : CXM p s m _ meth c cX4_spell 4 (some .int) "spell" RX4 wsX4_spell D cs A := ⟨B.exec, B.bytes, hml, B.returns, (name_of_methodNamed B.named B.method).1, findClass_of_methodNamed B.named, atoms_spec (ws := wsX4_spell) B.pre, B.notSynchronized, hE⟩
  have hl := lv_entry ([.ref t, .int x1, .int x2]) (n := 4) (Nat.le_of_ble_eq_true rfl)
  rw [lg_entry_eq]
  exact oX4_spell_0 CX x1 x2 σ _ _ _ h hM va_S.rf hl
/-! WorkCoderModel.other(I)I -/
abbrev rmX4_other : Room := { frames := 1, cells := 0, slots := 0, locals := 22 }
theorem inX4_other_4 : ∀ w ∈ wsX40, w ∈ wsX4_other := fun _ h => List.mem_cons_of_mem _ (List.mem_append_right _ (h))
section S_X4_other
variable {p : Program} {l : Launch} {e : Env} {s : State} {m : MethodId} {args : Array Value} {below : List Frame} {meth : Method} {c : Code} {D : va_G} {cs : CS} {A : Nat → Prop}
set_option maxHeartbeats 4000000 in
set_option maxRecDepth 100000 in
theorem oX4_other_0 {k : Int32 → MM → Prop} {t : Nat} (CX : CXM p s m args meth c cX4_other 2 (some .int) "other" RX4 wsX4_other D cs A) : ∀ (x1 : Int32) (σ : MM) (H : Heap) (locs : List Loc) (ls : Array Slot), wX4_other t x1 σ k → PH D cs A σ H → va_S A s.heap H locs → lv_has ls 2 [(0, .ref t), (1, .int x1)] → W p l e (headSpec wsX4_other rmX4_other).room s m args below meth c H locs 0 0 (MQ below (va_Qi k (mB D cs A) A) args s 0 0 A) (F0 m 0 ls []) := by
  intro x1 σ H locs ls h hM hS hl
  have ⟨hx, hb, hml, hr, hnm, hown, hts, hlocks, hE⟩ := CX
  unfold wX4_other at h
  refine lv_iload_n hx hb dX4_other_0 rfl (lv_at hl 1 rfl) ?_
  refine lv_iconst (v := (-1)) hx hb dX4_other_1 (by decide) ?_
  refine lv_aload_n hx hb dX4_other_2 rfl (lv_at hl 0 rfl) ?_
  obtain ⟨hk_1, h⟩ := h
  refine gf4_5 hx hb hts inX4_other_4 hown hE.1 hM hk_1 (hts (.fieldLink RX4 101 "WorkCoderModel" "others" "I") (by decide +kernel)) dX4_other_3 ?_
  refine lv_iconst (v := 1) hx hb dX4_other_6 (by decide) ?_
  refine lv_isub hx hb dX4_other_7 ?_
  refine clSi (As := [.int x1, .int (-1), .int ((mI σ t 5) - 1)]) (rest := []) ⟨hx, hb, hml, hown, hts⟩ hM hE hS (ok_X4_in l D cs A x1 (-1) ((mI σ t 5) - 1) _ _ h) (va_cwS 3 hts gX4_other_X4_in rfl rfl rfl (by decide +kernel) ⟨(Nat.le_of_ble_eq_true rfl), (Nat.le_of_ble_eq_true rfl)⟩) rfl hl.1 rfl (Nat.le_of_ble_eq_true rfl) dX4_other_8 ⟨(Nat.le_of_ble_eq_true rfl), (Nat.le_of_ble_eq_true rfl)⟩ (fun x_3 σ_2 H locs h1 hM hS => ?_)
  replace h := h1
  clear h1
  refine lv_if_ne (tgt := 16) hx hb dX4_other_11 (by decide) (fun hc => ?_) (fun hc => ?_)
  · replace h := h.1 hc
    refine lv_aload_n hx hb dX4_other_16 rfl (lv_at hl 0 rfl) ?_
    obtain ⟨hk_4, h⟩ := h
    refine gf4_5 hx hb hts inX4_other_4 hown hE.1 hM hk_4 (hts (.fieldLink RX4 101 "WorkCoderModel" "others" "I") (by decide +kernel)) dX4_other_17 ?_
    refine lv_bipush (v := 30) hx hb dX4_other_20 (by decide) ?_
    refine lv_icmp_ne (tgt := 28) hx hb dX4_other_22 (by decide) (fun hc => ?_) (fun hc => ?_)
    · replace h := h.1 hc
      refine lv_aload_n hx hb dX4_other_28 rfl (lv_at hl 0 rfl) ?_
      refine gf4_6 hx hb hts inX4_other_4 hown hE.1 hM hk_4 (hts (.fieldLink RX4 28 "WorkCoderModel" "otherAbove" "[I") (by decide +kernel)) dX4_other_29 (fun r_5 er_5 => ?_)
      replace h := h r_5 er_5
      clear er_5
      refine lv_aload_n hx hb dX4_other_32 rfl (lv_at hl 0 rfl) ?_
      refine gf4_5 hx hb hts inX4_other_4 hown hE.1 hM hk_4 (hts (.fieldLink RX4 101 "WorkCoderModel" "others" "I") (by decide +kernel)) dX4_other_33 ?_
      refine lv_iload_n hx hb dX4_other_36 rfl (lv_at hl 1 rfl) ?_
      obtain ⟨a_6, rfl, h⟩ := h
      obtain ⟨hk_7, h⟩ := h
      obtain ⟨hv_8, h⟩ := h
      refine mm_iast hx hb hE.1 hM hS hk_7 hv_8 dX4_other_37 (fun H locs hM hS => ?_)
      replace h := h _ rfl
      refine lv_aload_n hx hb dX4_other_38 rfl (lv_at hl 0 rfl) ?_
      refine lv_dup hx hb dX4_other_39 rfl ?_
      refine gf4_5 hx hb hts inX4_other_4 hown hE.1 hM hk_4 (hts (.fieldLink RX4 101 "WorkCoderModel" "others" "I") (by decide +kernel)) dX4_other_40 ?_
      refine lv_iconst (v := 1) hx hb dX4_other_43 (by decide) ?_
      refine lv_iadd hx hb dX4_other_44 ?_
      refine pf4_5 hx hb hts inX4_other_4 hown hE.1 hM hS hk_4 (hts (.fieldLink RX4 101 "WorkCoderModel" "others" "I") (by decide +kernel)) dX4_other_45 (fun H locs hM hS => ?_)
      replace h := h _ rfl
      refine lv_aload_n hx hb dX4_other_48 rfl (lv_at hl 0 rfl) ?_
      refine gf4_5 hx hb hts inX4_other_4 hown hE.1 hM hk_4 (hts (.fieldLink RX4 101 "WorkCoderModel" "others" "I") (by decide +kernel)) dX4_other_49 ?_
      refine lv_iconst (v := 1) hx hb dX4_other_52 (by decide) ?_
      refine lv_isub hx hb dX4_other_53 ?_
      exact W.iret (v := (mI (sI (sI σ_2 a_6 (ix (mI σ_2 t 5)) x1) t 5 ((mI (sI σ_2 a_6 (ix (mI σ_2 t 5)) x1) t 5) + 1)) t 5) - 1) hx hb hr (fun t_ ht hW => ⟨⟨_, _, rfl, h, mB_of ht hM⟩, hS.F ht⟩) hS.2.2 dX4_other_54
    · replace h := h.2 hc
      refine lv_bipush (v := (-3)) hx hb dX4_other_25 (by decide) ?_
      exact W.iret (v := (-3)) hx hb hr (fun t_ ht hW => ⟨⟨_, _, rfl, h, mB_of ht hM⟩, hS.F ht⟩) hS.2.2 dX4_other_27
  · replace h := h.2 hc
    refine lv_iconst (v := (-1)) hx hb dX4_other_14 (by decide) ?_
    exact W.iret (v := (-1)) hx hb hr (fun t_ ht hW => ⟨⟨_, _, rfl, h, mB_of ht hM⟩, hS.F ht⟩) hS.2.2 dX4_other_15
end S_X4_other
set_option maxHeartbeats 4000000 in
set_option maxRecDepth 100000 in
theorem ok_X4_other (l : Launch) (D : va_G) (cs : CS) (A : Nat → Prop) (t : Nat) (x1 : Int32) (σ : MM) (k : Int32 → MM → Prop) (h : wX4_other t x1 σ k) : Met l yX4_other wsX4_other rmX4_other (va_Pc [.ref t, .int x1] (mP D cs A σ)) (va_Qi k (mB D cs A) A) 0 0 A := by
  refine Met.ofW (cc := cX4_other) (maxL := 2) (ret := (some .int)) (by decide) rfl ?_
  intro p e s m args below meth c s₁ B hml hv
  obtain ⟨rfl, hM, hE⟩ := hv
  have CX : CXM p s m _ meth c cX4_other 2 (some .int) "other" RX4 wsX4_other D cs A := ⟨B.exec, B.bytes, hml, B.returns, (name_of_methodNamed B.named B.method).1, findClass_of_methodNamed B.named, atoms_spec (ws := wsX4_other) B.pre, B.notSynchronized, hE⟩
  have hl := lv_entry ([.ref t, .int x1]) (n := 2) (Nat.le_of_ble_eq_true rfl)
  rw [lg_entry_eq]
  exact oX4_other_0 CX x1 σ _ _ _ h hM va_S.rf hl
/-! WorkCoderModel.carry(III)I -/
abbrev rmX4_carry : Room := { frames := 2, cells := 0, slots := 0, locals := 43 }
theorem inX4_carry_4 : ∀ w ∈ wsX40, w ∈ wsX4_carry := fun _ h => List.mem_cons_of_mem _ (List.mem_append_right _ (h))
section S_X4_carry
variable {p : Program} {l : Launch} {e : Env} {s : State} {m : MethodId} {args : Array Value} {below : List Frame} {meth : Method} {c : Code} {D : va_G} {cs : CS} {A : Nat → Prop}
set_option maxHeartbeats 4000000 in
set_option maxRecDepth 100000 in
theorem oX4_carry_0 {k : Int32 → MM → Prop} {t : Nat} (CX : CXM p s m args meth c cX4_carry 5 (some .int) "carry" RX4 wsX4_carry D cs A) : ∀ (x1 : Int32) (x2 : Int32) (x3 : Int32) (σ : MM) (H : Heap) (locs : List Loc) (ls : Array Slot), wX4_carry t x1 x2 x3 σ k → PH D cs A σ H → va_S A s.heap H locs → lv_has ls 5 [(0, .ref t), (1, .int x1), (2, .int x2), (3, .int x3)] → W p l e (headSpec wsX4_carry rmX4_carry).room s m args below meth c H locs 0 0 (MQ below (va_Qi k (mB D cs A) A) args s 0 0 A) (F0 m 0 ls []) := by
  intro x1 x2 x3 σ H locs ls h hM hS hl
  have ⟨hx, hb, hml, hr, hnm, hown, hts, hlocks, hE⟩ := CX
  unfold wX4_carry at h
  refine lv_aload_n hx hb dX4_carry_0 rfl (lv_at hl 0 rfl) ?_
  refine lv_iload_n hx hb dX4_carry_1 rfl (lv_at hl 1 rfl) ?_
  obtain ⟨hk_1, h⟩ := h
  refine clVi (C := RX4) (b := t) (As := [.int x1]) (rest := []) ⟨hx, hb, hml, hown, hts⟩ hM hE hS (ok_X4_isCode l D cs A t x1 _ _ h) (cwV 1 hts gX4_carry_X4_isCode rfl rfl rfl (by decide +kernel) ⟨(Nat.le_of_ble_eq_true rfl), (Nat.le_of_ble_eq_true rfl)⟩) (rc4 hM hE.1 hk_1) rfl hl.1 rfl (Nat.le_of_ble_eq_true rfl) dX4_carry_2 ⟨(Nat.le_of_ble_eq_true rfl), (Nat.le_of_ble_eq_true rfl)⟩ (fun x_3 σ_2 H locs h1 hM hS => ?_)
  replace h := h1
  clear h1
  refine lv_if_eq (tgt := 25) hx hb dX4_carry_5 (by decide) (fun hc => ?_) (fun hc => ?_)
  · replace h := h.1 hc
    refine lv_iconst (v := (-1)) hx hb dX4_carry_25 (by decide) ?_
    exact W.iret (v := (-1)) hx hb hr (fun t_ ht hW => ⟨⟨_, _, rfl, h, mB_of ht hM⟩, hS.F ht⟩) hS.2.2 dX4_carry_26
  · replace h := h.2 hc
    refine lv_aload_n hx hb dX4_carry_8 rfl (lv_at hl 0 rfl) ?_
    refine lv_iload_n hx hb dX4_carry_9 rfl (lv_at hl 2 rfl) ?_
    obtain ⟨hk_4, h⟩ := h
    refine clVi (C := RX4) (b := t) (As := [.int x2]) (rest := []) ⟨hx, hb, hml, hown, hts⟩ hM hE hS (ok_X4_isOther l D cs A t x2 _ _ h) (cwV 1 hts gX4_carry_X4_isOther rfl rfl rfl (by decide +kernel) ⟨(Nat.le_of_ble_eq_true rfl), (Nat.le_of_ble_eq_true rfl)⟩) (rc4 hM hE.1 hk_4) rfl hl.1 rfl (Nat.le_of_ble_eq_true rfl) dX4_carry_10 ⟨(Nat.le_of_ble_eq_true rfl), (Nat.le_of_ble_eq_true rfl)⟩ (fun x_6 σ_5 H locs h1 hM hS => ?_)
    replace h := h1
    clear h1
    refine lv_if_eq (tgt := 25) hx hb dX4_carry_13 (by decide) (fun hc => ?_) (fun hc => ?_)
    · replace h := h.1 hc
      refine lv_iconst (v := (-1)) hx hb dX4_carry_25 (by decide) ?_
      exact W.iret (v := (-1)) hx hb hr (fun t_ ht hW => ⟨⟨_, _, rfl, h, mB_of ht hM⟩, hS.F ht⟩) hS.2.2 dX4_carry_26
    · replace h := h.2 hc
      refine lv_iload_n hx hb dX4_carry_16 rfl (lv_at hl 3 rfl) ?_
      refine lv_iconst (v := 0) hx hb dX4_carry_17 (by decide) ?_
      refine lv_iconst (v := 1) hx hb dX4_carry_18 (by decide) ?_
      refine clSi (As := [.int x3, .int 0, .int 1]) (rest := []) ⟨hx, hb, hml, hown, hts⟩ hM hE hS (ok_X4_in l D cs A x3 0 1 _ _ h) (va_cwS 3 hts gX4_carry_X4_in rfl rfl rfl (by decide +kernel) ⟨(Nat.le_of_ble_eq_true rfl), (Nat.le_of_ble_eq_true rfl)⟩) rfl hl.1 rfl (Nat.le_of_ble_eq_true rfl) dX4_carry_19 ⟨(Nat.le_of_ble_eq_true rfl), (Nat.le_of_ble_eq_true rfl)⟩ (fun x_8 σ_7 H locs h1 hM hS => ?_)
      replace h := h1
      clear h1
      refine lv_if_ne (tgt := 27) hx hb dX4_carry_22 (by decide) (fun hc => ?_) (fun hc => ?_)
      · replace h := h.1 hc
        refine lv_aload_n hx hb dX4_carry_27 rfl (lv_at hl 0 rfl) ?_
        obtain ⟨hk_9, h⟩ := h
        refine gf4_7 hx hb hts inX4_carry_4 hown hE.1 hM hk_9 (hts (.fieldLink RX4 31 "WorkCoderModel" "carries" "[I") (by decide +kernel)) dX4_carry_28 (fun r_10 er_10 => ?_)
        replace h := h r_10 er_10
        clear er_10
        refine lv_iload_n hx hb dX4_carry_31 rfl (lv_at hl 1 rfl) ?_
        obtain ⟨a_11, rfl, h⟩ := h
        obtain ⟨hk_12, h⟩ := h
        obtain ⟨hv_13, h⟩ := h
        refine mm_iald hx hb hE.1 hM hk_12 hv_13 dX4_carry_32 ?_
        refine lv_iload_n hx hb dX4_carry_33 rfl (lv_at hl 2 rfl) ?_
        refine lv_ishr hx hb dX4_carry_34 ?_
        refine lv_iconst (v := 1) hx hb dX4_carry_35 (by decide) ?_
        refine lv_iand hx hb dX4_carry_36 ?_
        refine lv_topi (fun x_14 ex_14 => ?_)
        replace h := h x_14 ex_14
        refine lv_istore (i := 4) (lv' := [(4, .int x_14), (0, .ref t), (1, .int x1), (2, .int x2), (3, .int x3)]) hx hb dX4_carry_37 hl (by decide) rfl (fun ls hl => ?_)
        refine lv_aload_n hx hb dX4_carry_39 rfl (lv_at hl 1 rfl) ?_
        refine gf4_7 hx hb hts inX4_carry_4 hown hE.1 hM hk_9 (hts (.fieldLink RX4 31 "WorkCoderModel" "carries" "[I") (by decide +kernel)) dX4_carry_40 (fun r_15 er_15 => ?_)
        replace h := h r_15 er_15
        clear er_15
        refine lv_iload_n hx hb dX4_carry_43 rfl (lv_at hl 2 rfl) ?_
        refine lv_iload_n hx hb dX4_carry_44 rfl (lv_at hl 4 rfl) ?_
        refine lv_iconst (v := 1) hx hb dX4_carry_45 (by decide) ?_
        refine lv_icmp_ne (tgt := 62) hx hb dX4_carry_46 (by decide) (fun hc => ?_) (fun hc => ?_)
        · replace h := h.1 hc
          refine lv_aload_n hx hb dX4_carry_62 rfl (lv_at hl 1 rfl) ?_
          refine gf4_7 hx hb hts inX4_carry_4 hown hE.1 hM hk_9 (hts (.fieldLink RX4 31 "WorkCoderModel" "carries" "[I") (by decide +kernel)) dX4_carry_63 (fun r_16 er_16 => ?_)
          replace h := h r_16 er_16
          clear er_16
          refine lv_iload_n hx hb dX4_carry_66 rfl (lv_at hl 2 rfl) ?_
          obtain ⟨a_17, rfl, h⟩ := h
          obtain ⟨hk_18, h⟩ := h
          obtain ⟨hv_19, h⟩ := h
          refine mm_iald hx hb hE.1 hM hk_18 hv_19 dX4_carry_67 ?_
          refine lv_iconst (v := 1) hx hb dX4_carry_68 (by decide) ?_
          refine lv_iload_n hx hb dX4_carry_69 rfl (lv_at hl 3 rfl) ?_
          refine lv_ishl hx hb dX4_carry_70 ?_
          refine lv_iconst (v := (-1)) hx hb dX4_carry_71 (by decide) ?_
          refine lv_ixor hx hb dX4_carry_72 ?_
          refine lv_iand hx hb dX4_carry_73 ?_
          obtain ⟨a_20, rfl, h⟩ := h
          obtain ⟨hk_21, h⟩ := h
          obtain ⟨hv_22, h⟩ := h
          refine mm_iast hx hb hE.1 hM hS hk_21 hv_22 dX4_carry_74 (fun H locs hM hS => ?_)
          replace h := h _ rfl
          refine lv_iload hx hb dX4_carry_75 (lv_at hl 0 rfl) ?_
          exact W.iret (v := x_14) hx hb hr (fun t_ ht hW => ⟨⟨_, _, rfl, h, mB_of ht hM⟩, hS.F ht⟩) hS.2.2 dX4_carry_77
        · replace h := h.2 hc
          refine lv_aload_n hx hb dX4_carry_49 rfl (lv_at hl 1 rfl) ?_
          refine gf4_7 hx hb hts inX4_carry_4 hown hE.1 hM hk_9 (hts (.fieldLink RX4 31 "WorkCoderModel" "carries" "[I") (by decide +kernel)) dX4_carry_50 (fun r_24 er_24 => ?_)
          replace h := h r_24 er_24
          clear er_24
          refine lv_iload_n hx hb dX4_carry_53 rfl (lv_at hl 2 rfl) ?_
          obtain ⟨a_25, rfl, h⟩ := h
          obtain ⟨hk_26, h⟩ := h
          obtain ⟨hv_27, h⟩ := h
          refine mm_iald hx hb hE.1 hM hk_26 hv_27 dX4_carry_54 ?_
          refine lv_iconst (v := 1) hx hb dX4_carry_55 (by decide) ?_
          refine lv_iload_n hx hb dX4_carry_56 rfl (lv_at hl 3 rfl) ?_
          refine lv_ishl hx hb dX4_carry_57 ?_
          refine lv_ior hx hb dX4_carry_58 ?_
          refine lv_goto (tgt := 74) hx hb dX4_carry_59 (by decide) ?_
          obtain ⟨a_28, rfl, h⟩ := h
          obtain ⟨hk_29, h⟩ := h
          obtain ⟨hv_30, h⟩ := h
          refine mm_iast hx hb hE.1 hM hS hk_29 hv_30 dX4_carry_74 (fun H locs hM hS => ?_)
          replace h := h _ rfl
          refine lv_iload hx hb dX4_carry_75 (lv_at hl 0 rfl) ?_
          exact W.iret (v := x_14) hx hb hr (fun t_ ht hW => ⟨⟨_, _, rfl, h, mB_of ht hM⟩, hS.F ht⟩) hS.2.2 dX4_carry_77
      · replace h := h.2 hc
        refine lv_iconst (v := (-1)) hx hb dX4_carry_25 (by decide) ?_
        exact W.iret (v := (-1)) hx hb hr (fun t_ ht hW => ⟨⟨_, _, rfl, h, mB_of ht hM⟩, hS.F ht⟩) hS.2.2 dX4_carry_26
end S_X4_carry
set_option maxHeartbeats 4000000 in
set_option maxRecDepth 100000 in
theorem ok_X4_carry (l : Launch) (D : va_G) (cs : CS) (A : Nat → Prop) (t : Nat) (x1 : Int32) (x2 : Int32) (x3 : Int32) (σ : MM) (k : Int32 → MM → Prop) (h : wX4_carry t x1 x2 x3 σ k) : Met l yX4_carry wsX4_carry rmX4_carry (va_Pc [.ref t, .int x1, .int x2, .int x3] (mP D cs A σ)) (va_Qi k (mB D cs A) A) 0 0 A := by
  refine Met.ofW (cc := cX4_carry) (maxL := 5) (ret := (some .int)) (by decide) rfl ?_
  intro p e s m args below meth c s₁ B hml hv
  obtain ⟨rfl, hM, hE⟩ := hv
  have CX : CXM p s m _ meth c cX4_carry 5 (some .int) "carry" RX4 wsX4_carry D cs A := ⟨B.exec, B.bytes, hml, B.returns, (name_of_methodNamed B.named B.method).1, findClass_of_methodNamed B.named, atoms_spec (ws := wsX4_carry) B.pre, B.notSynchronized, hE⟩
  have hl := lv_entry ([.ref t, .int x1, .int x2, .int x3]) (n := 5) (Nat.le_of_ble_eq_true rfl)
  rw [lg_entry_eq]
  exact oX4_carry_0 CX x1 x2 x3 σ _ _ _ h hM va_S.rf hl
/-! WorkCoderModel.isBelow(II)Z -/
abbrev rmX4_isBelow : Room := { frames := 0, cells := 0, slots := 0, locals := 0 }
theorem inX4_isBelow_4 : ∀ w ∈ wsX40, w ∈ wsX4_isBelow := fun _ h => List.mem_cons_of_mem _ (List.mem_append_right _ (h))
section S_X4_isBelow
variable {p : Program} {l : Launch} {e : Env} {s : State} {m : MethodId} {args : Array Value} {below : List Frame} {meth : Method} {c : Code} {D : va_G} {cs : CS} {A : Nat → Prop}
set_option maxHeartbeats 4000000 in
set_option maxRecDepth 100000 in
theorem oX4_isBelow_2 {k : Int32 → MM → Prop} {t : Nat} (CX : CXM p s m args meth c cX4_isBelow 4 (some .boolean) "isBelow" RX4 wsX4_isBelow D cs A) : ∀ (n : Nat), ∀ (x2 : Int32) (x3 : Int32) (σ : MM) (H : Heap) (locs : List Loc) (ls : Array Slot), wX4_isBelow_2 k t  n x2 x3 σ → PH D cs A σ H → va_S A s.heap H locs → lv_has ls 4 [(0, .ref t), (2, .int x2), (3, .int x3)] → W p l e (headSpec wsX4_isBelow rmX4_isBelow).room s m args below meth c H locs 0 0 (MQ below (va_Qi k (mB D cs A) A) args s 0 0 A) (F0 m 2 ls []) := by
  intro n
  induction n with
  | zero => intro x2 x3 σ H locs ls h; exact h.elim
  | succ n ih =>
    intro x2 x3 σ H locs ls h hM hS hl
    have ⟨hx, hb, hml, hr, hnm, hown, hts, hlocks, hE⟩ := CX
    unfold wX4_isBelow_2 at h
    refine lv_iload_n hx hb dX4_isBelow_2 rfl (lv_at hl 2 rfl) ?_
    refine lv_if_lt (tgt := 21) hx hb dX4_isBelow_3 (by decide) (fun hc => ?_) (fun hc => ?_)
    · replace h := h.1 hc
      refine lv_iload_n hx hb dX4_isBelow_21 rfl (lv_at hl 2 rfl) ?_
      refine lv_iload_n hx hb dX4_isBelow_22 rfl (lv_at hl 1 rfl) ?_
      refine lv_icmp_ne (tgt := 30) hx hb dX4_isBelow_23 (by decide) (fun hc => ?_) (fun hc => ?_)
      · replace h := h.1 hc
        refine lv_iconst (v := 0) hx hb dX4_isBelow_30 (by decide) ?_
        exact W.zret (v := 0) (ty := .boolean) hx hb hr rfl (fun t_ ht hW => ⟨⟨_, _, rfl, h, mB_of ht hM⟩, hS.F ht⟩) hS.2.2 dX4_isBelow_31
      · replace h := h.2 hc
        refine lv_iconst (v := 1) hx hb dX4_isBelow_26 (by decide) ?_
        refine lv_goto (tgt := 31) hx hb dX4_isBelow_27 (by decide) ?_
        exact W.zret (v := 1) (ty := .boolean) hx hb hr rfl (fun t_ ht hW => ⟨⟨_, _, rfl, h, mB_of ht hM⟩, hS.F ht⟩) hS.2.2 dX4_isBelow_31
    · replace h := h.2 hc
      refine lv_iload_n hx hb dX4_isBelow_6 rfl (lv_at hl 2 rfl) ?_
      refine lv_iload_n hx hb dX4_isBelow_7 rfl (lv_at hl 1 rfl) ?_
      refine lv_icmp_eq (tgt := 21) hx hb dX4_isBelow_8 (by decide) (fun hc => ?_) (fun hc => ?_)
      · replace h := h.1 hc
        refine lv_iload_n hx hb dX4_isBelow_21 rfl (lv_at hl 2 rfl) ?_
        refine lv_iload_n hx hb dX4_isBelow_22 rfl (lv_at hl 1 rfl) ?_
        refine lv_icmp_ne (tgt := 30) hx hb dX4_isBelow_23 (by decide) (fun hc => ?_) (fun hc => ?_)
        · replace h := h.1 hc
          refine lv_iconst (v := 0) hx hb dX4_isBelow_30 (by decide) ?_
          exact W.zret (v := 0) (ty := .boolean) hx hb hr rfl (fun t_ ht hW => ⟨⟨_, _, rfl, h, mB_of ht hM⟩, hS.F ht⟩) hS.2.2 dX4_isBelow_31
        · replace h := h.2 hc
          refine lv_iconst (v := 1) hx hb dX4_isBelow_26 (by decide) ?_
          refine lv_goto (tgt := 31) hx hb dX4_isBelow_27 (by decide) ?_
          exact W.zret (v := 1) (ty := .boolean) hx hb hr rfl (fun t_ ht hW => ⟨⟨_, _, rfl, h, mB_of ht hM⟩, hS.F ht⟩) hS.2.2 dX4_isBelow_31
      · replace h := h.2 hc
        refine lv_aload_n hx hb dX4_isBelow_11 rfl (lv_at hl 0 rfl) ?_
        obtain ⟨hk_1, h⟩ := h
        refine gf4_3 hx hb hts inX4_isBelow_4 hown hE.1 hM hk_1 (hts (.fieldLink RX4 21 "WorkCoderModel" "above" "[I") (by decide +kernel)) dX4_isBelow_12 (fun r_2 er_2 => ?_)
        replace h := h r_2 er_2
        clear er_2
        refine lv_iload_n hx hb dX4_isBelow_15 rfl (lv_at hl 2 rfl) ?_
        obtain ⟨a_3, rfl, h⟩ := h
        obtain ⟨hk_4, h⟩ := h
        obtain ⟨hv_5, h⟩ := h
        refine mm_iald hx hb hE.1 hM hk_4 hv_5 dX4_isBelow_16 ?_
        refine lv_topi (fun x_6 ex_6 => ?_)
        replace h := h x_6 ex_6
        refine lv_istore_n (i := 3) (lv' := [(3, .int x_6), (0, .ref t), (2, .int x2)]) hx hb dX4_isBelow_17 rfl hl (by decide) rfl (fun ls hl => ?_)
        refine lv_goto (tgt := 2) hx hb dX4_isBelow_18 (by decide) ?_
        exact ih _ _ _ _ _ _ h hM hS (lv_sub hl [1, 2, 0] rfl)
set_option maxHeartbeats 4000000 in
set_option maxRecDepth 100000 in
theorem oX4_isBelow_0 {k : Int32 → MM → Prop} {t : Nat} (CX : CXM p s m args meth c cX4_isBelow 4 (some .boolean) "isBelow" RX4 wsX4_isBelow D cs A) : ∀ (x1 : Int32) (x2 : Int32) (σ : MM) (H : Heap) (locs : List Loc) (ls : Array Slot), wX4_isBelow t x1 x2 σ k → PH D cs A σ H → va_S A s.heap H locs → lv_has ls 4 [(0, .ref t), (1, .int x1), (2, .int x2)] → W p l e (headSpec wsX4_isBelow rmX4_isBelow).room s m args below meth c H locs 0 0 (MQ below (va_Qi k (mB D cs A) A) args s 0 0 A) (F0 m 0 ls []) := by
  intro x1 x2 σ H locs ls h hM hS hl
  have ⟨hx, hb, hml, hr, hnm, hown, hts, hlocks, hE⟩ := CX
  unfold wX4_isBelow at h
  refine lv_iload_n hx hb dX4_isBelow_0 rfl (lv_at hl 1 rfl) ?_
  refine lv_istore_n (i := 3) (lv' := [(3, .int x1), (0, .ref t), (1, .int x1), (2, .int x2)]) hx hb dX4_isBelow_1 rfl hl (by decide) rfl (fun ls hl => ?_)
  obtain ⟨n0, h⟩ := h
  exact oX4_isBelow_2 CX  n0 _ _ _ _ _ _ h hM hS (lv_sub hl [1, 3, 0] rfl)
end S_X4_isBelow
set_option maxHeartbeats 4000000 in
set_option maxRecDepth 100000 in
theorem ok_X4_isBelow (l : Launch) (D : va_G) (cs : CS) (A : Nat → Prop) (t : Nat) (x1 : Int32) (x2 : Int32) (σ : MM) (k : Int32 → MM → Prop) (h : wX4_isBelow t x1 x2 σ k) : Met l yX4_isBelow wsX4_isBelow rmX4_isBelow (va_Pc [.ref t, .int x1, .int x2] (mP D cs A σ)) (va_Qi k (mB D cs A) A) 0 0 A := by
  refine Met.ofW (cc := cX4_isBelow) (maxL := 4) (ret := (some .boolean)) (by decide) rfl ?_
  intro p e s m args below meth c s₁ B hml hv
  obtain ⟨rfl, hM, hE⟩ := hv
  have CX : CXM p s m _ meth c cX4_isBelow 4 (some .boolean) "isBelow" RX4 wsX4_isBelow D cs A := ⟨B.exec, B.bytes, hml, B.returns, (name_of_methodNamed B.named B.method).1, findClass_of_methodNamed B.named, atoms_spec (ws := wsX4_isBelow) B.pre, B.notSynchronized, hE⟩
  have hl := lv_entry ([.ref t, .int x1, .int x2]) (n := 4) (Nat.le_of_ble_eq_true rfl)
  rw [lg_entry_eq]
  exact oX4_isBelow_0 CX x1 x2 σ _ _ _ h hM va_S.rf hl
/-! WorkCoderModel.isOtherBelow(II)Z -/
abbrev rmX4_isOtherBelow : Room := { frames := 0, cells := 0, slots := 0, locals := 0 }
theorem inX4_isOtherBelow_4 : ∀ w ∈ wsX40, w ∈ wsX4_isOtherBelow := fun _ h => List.mem_cons_of_mem _ (List.mem_append_right _ (h))
section S_X4_isOtherBelow
variable {p : Program} {l : Launch} {e : Env} {s : State} {m : MethodId} {args : Array Value} {below : List Frame} {meth : Method} {c : Code} {D : va_G} {cs : CS} {A : Nat → Prop}
set_option maxHeartbeats 4000000 in
set_option maxRecDepth 100000 in
theorem oX4_isOtherBelow_2 {k : Int32 → MM → Prop} {t : Nat} (CX : CXM p s m args meth c cX4_isOtherBelow 4 (some .boolean) "isOtherBelow" RX4 wsX4_isOtherBelow D cs A) : ∀ (n : Nat), ∀ (x2 : Int32) (x3 : Int32) (σ : MM) (H : Heap) (locs : List Loc) (ls : Array Slot), wX4_isOtherBelow_2 k t  n x2 x3 σ → PH D cs A σ H → va_S A s.heap H locs → lv_has ls 4 [(0, .ref t), (2, .int x2), (3, .int x3)] → W p l e (headSpec wsX4_isOtherBelow rmX4_isOtherBelow).room s m args below meth c H locs 0 0 (MQ below (va_Qi k (mB D cs A) A) args s 0 0 A) (F0 m 2 ls []) := by
  intro n
  induction n with
  | zero => intro x2 x3 σ H locs ls h; exact h.elim
  | succ n ih =>
    intro x2 x3 σ H locs ls h hM hS hl
    have ⟨hx, hb, hml, hr, hnm, hown, hts, hlocks, hE⟩ := CX
    unfold wX4_isOtherBelow_2 at h
    refine lv_iload_n hx hb dX4_isOtherBelow_2 rfl (lv_at hl 2 rfl) ?_
    refine lv_if_lt (tgt := 21) hx hb dX4_isOtherBelow_3 (by decide) (fun hc => ?_) (fun hc => ?_)
    · replace h := h.1 hc
      refine lv_iload_n hx hb dX4_isOtherBelow_21 rfl (lv_at hl 2 rfl) ?_
      refine lv_iload_n hx hb dX4_isOtherBelow_22 rfl (lv_at hl 1 rfl) ?_
      refine lv_icmp_ne (tgt := 30) hx hb dX4_isOtherBelow_23 (by decide) (fun hc => ?_) (fun hc => ?_)
      · replace h := h.1 hc
        refine lv_iconst (v := 0) hx hb dX4_isOtherBelow_30 (by decide) ?_
        exact W.zret (v := 0) (ty := .boolean) hx hb hr rfl (fun t_ ht hW => ⟨⟨_, _, rfl, h, mB_of ht hM⟩, hS.F ht⟩) hS.2.2 dX4_isOtherBelow_31
      · replace h := h.2 hc
        refine lv_iconst (v := 1) hx hb dX4_isOtherBelow_26 (by decide) ?_
        refine lv_goto (tgt := 31) hx hb dX4_isOtherBelow_27 (by decide) ?_
        exact W.zret (v := 1) (ty := .boolean) hx hb hr rfl (fun t_ ht hW => ⟨⟨_, _, rfl, h, mB_of ht hM⟩, hS.F ht⟩) hS.2.2 dX4_isOtherBelow_31
    · replace h := h.2 hc
      refine lv_iload_n hx hb dX4_isOtherBelow_6 rfl (lv_at hl 2 rfl) ?_
      refine lv_iload_n hx hb dX4_isOtherBelow_7 rfl (lv_at hl 1 rfl) ?_
      refine lv_icmp_eq (tgt := 21) hx hb dX4_isOtherBelow_8 (by decide) (fun hc => ?_) (fun hc => ?_)
      · replace h := h.1 hc
        refine lv_iload_n hx hb dX4_isOtherBelow_21 rfl (lv_at hl 2 rfl) ?_
        refine lv_iload_n hx hb dX4_isOtherBelow_22 rfl (lv_at hl 1 rfl) ?_
        refine lv_icmp_ne (tgt := 30) hx hb dX4_isOtherBelow_23 (by decide) (fun hc => ?_) (fun hc => ?_)
        · replace h := h.1 hc
          refine lv_iconst (v := 0) hx hb dX4_isOtherBelow_30 (by decide) ?_
          exact W.zret (v := 0) (ty := .boolean) hx hb hr rfl (fun t_ ht hW => ⟨⟨_, _, rfl, h, mB_of ht hM⟩, hS.F ht⟩) hS.2.2 dX4_isOtherBelow_31
        · replace h := h.2 hc
          refine lv_iconst (v := 1) hx hb dX4_isOtherBelow_26 (by decide) ?_
          refine lv_goto (tgt := 31) hx hb dX4_isOtherBelow_27 (by decide) ?_
          exact W.zret (v := 1) (ty := .boolean) hx hb hr rfl (fun t_ ht hW => ⟨⟨_, _, rfl, h, mB_of ht hM⟩, hS.F ht⟩) hS.2.2 dX4_isOtherBelow_31
      · replace h := h.2 hc
        refine lv_aload_n hx hb dX4_isOtherBelow_11 rfl (lv_at hl 0 rfl) ?_
        obtain ⟨hk_1, h⟩ := h
        refine gf4_6 hx hb hts inX4_isOtherBelow_4 hown hE.1 hM hk_1 (hts (.fieldLink RX4 28 "WorkCoderModel" "otherAbove" "[I") (by decide +kernel)) dX4_isOtherBelow_12 (fun r_2 er_2 => ?_)
        replace h := h r_2 er_2
        clear er_2
        refine lv_iload_n hx hb dX4_isOtherBelow_15 rfl (lv_at hl 2 rfl) ?_
        obtain ⟨a_3, rfl, h⟩ := h
        obtain ⟨hk_4, h⟩ := h
        obtain ⟨hv_5, h⟩ := h
        refine mm_iald hx hb hE.1 hM hk_4 hv_5 dX4_isOtherBelow_16 ?_
        refine lv_topi (fun x_6 ex_6 => ?_)
        replace h := h x_6 ex_6
        refine lv_istore_n (i := 3) (lv' := [(3, .int x_6), (0, .ref t), (2, .int x2)]) hx hb dX4_isOtherBelow_17 rfl hl (by decide) rfl (fun ls hl => ?_)
        refine lv_goto (tgt := 2) hx hb dX4_isOtherBelow_18 (by decide) ?_
        exact ih _ _ _ _ _ _ h hM hS (lv_sub hl [1, 2, 0] rfl)
set_option maxHeartbeats 4000000 in
set_option maxRecDepth 100000 in
theorem oX4_isOtherBelow_0 {k : Int32 → MM → Prop} {t : Nat} (CX : CXM p s m args meth c cX4_isOtherBelow 4 (some .boolean) "isOtherBelow" RX4 wsX4_isOtherBelow D cs A) : ∀ (x1 : Int32) (x2 : Int32) (σ : MM) (H : Heap) (locs : List Loc) (ls : Array Slot), wX4_isOtherBelow t x1 x2 σ k → PH D cs A σ H → va_S A s.heap H locs → lv_has ls 4 [(0, .ref t), (1, .int x1), (2, .int x2)] → W p l e (headSpec wsX4_isOtherBelow rmX4_isOtherBelow).room s m args below meth c H locs 0 0 (MQ below (va_Qi k (mB D cs A) A) args s 0 0 A) (F0 m 0 ls []) := by
  intro x1 x2 σ H locs ls h hM hS hl
  have ⟨hx, hb, hml, hr, hnm, hown, hts, hlocks, hE⟩ := CX
  unfold wX4_isOtherBelow at h
  refine lv_iload_n hx hb dX4_isOtherBelow_0 rfl (lv_at hl 1 rfl) ?_
  refine lv_istore_n (i := 3) (lv' := [(3, .int x1), (0, .ref t), (1, .int x1), (2, .int x2)]) hx hb dX4_isOtherBelow_1 rfl hl (by decide) rfl (fun ls hl => ?_)
  obtain ⟨n0, h⟩ := h
  exact oX4_isOtherBelow_2 CX  n0 _ _ _ _ _ _ h hM hS (lv_sub hl [1, 3, 0] rfl)
end S_X4_isOtherBelow
set_option maxHeartbeats 4000000 in
set_option maxRecDepth 100000 in
theorem ok_X4_isOtherBelow (l : Launch) (D : va_G) (cs : CS) (A : Nat → Prop) (t : Nat) (x1 : Int32) (x2 : Int32) (σ : MM) (k : Int32 → MM → Prop) (h : wX4_isOtherBelow t x1 x2 σ k) : Met l yX4_isOtherBelow wsX4_isOtherBelow rmX4_isOtherBelow (va_Pc [.ref t, .int x1, .int x2] (mP D cs A σ)) (va_Qi k (mB D cs A) A) 0 0 A := by
  refine Met.ofW (cc := cX4_isOtherBelow) (maxL := 4) (ret := (some .boolean)) (by decide) rfl ?_
  intro p e s m args below meth c s₁ B hml hv
  obtain ⟨rfl, hM, hE⟩ := hv
  have CX : CXM p s m _ meth c cX4_isOtherBelow 4 (some .boolean) "isOtherBelow" RX4 wsX4_isOtherBelow D cs A := ⟨B.exec, B.bytes, hml, B.returns, (name_of_methodNamed B.named B.method).1, findClass_of_methodNamed B.named, atoms_spec (ws := wsX4_isOtherBelow) B.pre, B.notSynchronized, hE⟩
  have hl := lv_entry ([.ref t, .int x1, .int x2]) (n := 4) (Nat.le_of_ble_eq_true rfl)
  rw [lg_entry_eq]
  exact oX4_isOtherBelow_0 CX x1 x2 σ _ _ _ h hM va_S.rf hl
/-! WorkCoderModel.isItem(I)Z -/
abbrev rmX4_isItem : Room := { frames := 1, cells := 0, slots := 0, locals := 22 }
theorem inX4_isItem_4 : ∀ w ∈ wsX40, w ∈ wsX4_isItem := fun _ h => List.mem_cons_of_mem _ (List.mem_append_right _ (h))
section S_X4_isItem
variable {p : Program} {l : Launch} {e : Env} {s : State} {m : MethodId} {args : Array Value} {below : List Frame} {meth : Method} {c : Code} {D : va_G} {cs : CS} {A : Nat → Prop}
set_option maxHeartbeats 4000000 in
set_option maxRecDepth 100000 in
theorem oX4_isItem_0 {k : Int32 → MM → Prop} {t : Nat} (CX : CXM p s m args meth c cX4_isItem 2 (some .boolean) "isItem" RX4 wsX4_isItem D cs A) : ∀ (x1 : Int32) (σ : MM) (H : Heap) (locs : List Loc) (ls : Array Slot), wX4_isItem t x1 σ k → PH D cs A σ H → va_S A s.heap H locs → lv_has ls 2 [(0, .ref t), (1, .int x1)] → W p l e (headSpec wsX4_isItem rmX4_isItem).room s m args below meth c H locs 0 0 (MQ below (va_Qi k (mB D cs A) A) args s 0 0 A) (F0 m 0 ls []) := by
  intro x1 σ H locs ls h hM hS hl
  have ⟨hx, hb, hml, hr, hnm, hown, hts, hlocks, hE⟩ := CX
  unfold wX4_isItem at h
  refine lv_iload_n hx hb dX4_isItem_0 rfl (lv_at hl 1 rfl) ?_
  refine lv_iconst (v := 0) hx hb dX4_isItem_1 (by decide) ?_
  refine lv_iconst (v := 2) hx hb dX4_isItem_2 (by decide) ?_
  refine lv_aload_n hx hb dX4_isItem_3 rfl (lv_at hl 0 rfl) ?_
  obtain ⟨hk_1, h⟩ := h
  refine gf4_8 hx hb hts inX4_isItem_4 hown hE.1 hM hk_1 (hts (.fieldLink RX4 116 "WorkCoderModel" "answers" "I") (by decide +kernel)) dX4_isItem_4 ?_
  refine lv_imul hx hb dX4_isItem_7 ?_
  refine lv_iconst (v := 1) hx hb dX4_isItem_8 (by decide) ?_
  refine lv_isub hx hb dX4_isItem_9 ?_
  refine clSi (As := [.int x1, .int 0, .int (((2 : Int32) * (mI σ t 8)) - 1)]) (rest := []) ⟨hx, hb, hml, hown, hts⟩ hM hE hS (ok_X4_in l D cs A x1 0 (((2 : Int32) * (mI σ t 8)) - 1) _ _ h) (va_cwS 3 hts gX4_isItem_X4_in rfl rfl rfl (by decide +kernel) ⟨(Nat.le_of_ble_eq_true rfl), (Nat.le_of_ble_eq_true rfl)⟩) rfl hl.1 rfl (Nat.le_of_ble_eq_true rfl) dX4_isItem_10 ⟨(Nat.le_of_ble_eq_true rfl), (Nat.le_of_ble_eq_true rfl)⟩ (fun x_3 σ_2 H locs h1 hM hS => ?_)
  replace h := h1
  clear h1
  refine lv_if_eq (tgt := 38) hx hb dX4_isItem_13 (by decide) (fun hc => ?_) (fun hc => ?_)
  · replace h := h.1 hc
    refine lv_iconst (v := 0) hx hb dX4_isItem_38 (by decide) ?_
    exact W.zret (v := 0) (ty := .boolean) hx hb hr rfl (fun t_ ht hW => ⟨⟨_, _, rfl, h, mB_of ht hM⟩, hS.F ht⟩) hS.2.2 dX4_isItem_39
  · replace h := h.2 hc
    refine lv_iload_n hx hb dX4_isItem_16 rfl (lv_at hl 1 rfl) ?_
    refine lv_iconst (v := 2) hx hb dX4_isItem_17 (by decide) ?_
    refine lv_irem hx hb dX4_isItem_18 (by decide) ?_
    refine lv_if_eq (tgt := 34) hx hb dX4_isItem_19 (by decide) (fun hc => ?_) (fun hc => ?_)
    · replace h := h.1 hc
      refine lv_iconst (v := 1) hx hb dX4_isItem_34 (by decide) ?_
      refine lv_goto (tgt := 39) hx hb dX4_isItem_35 (by decide) ?_
      exact W.zret (v := 1) (ty := .boolean) hx hb hr rfl (fun t_ ht hW => ⟨⟨_, _, rfl, h, mB_of ht hM⟩, hS.F ht⟩) hS.2.2 dX4_isItem_39
    · replace h := h.2 hc
      refine lv_aload_n hx hb dX4_isItem_22 rfl (lv_at hl 0 rfl) ?_
      obtain ⟨hk_4, h⟩ := h
      refine gf4_9 hx hb hts inX4_isItem_4 hown hE.1 hM hk_4 (hts (.fieldLink RX4 34 "WorkCoderModel" "sort" "[I") (by decide +kernel)) dX4_isItem_23 (fun r_5 er_5 => ?_)
      replace h := h r_5 er_5
      clear er_5
      refine lv_iload_n hx hb dX4_isItem_26 rfl (lv_at hl 1 rfl) ?_
      refine lv_iconst (v := 2) hx hb dX4_isItem_27 (by decide) ?_
      refine lv_idiv hx hb dX4_isItem_28 (by decide) ?_
      obtain ⟨a_6, rfl, h⟩ := h
      obtain ⟨hk_7, h⟩ := h
      obtain ⟨hv_8, h⟩ := h
      refine mm_iald hx hb hE.1 hM hk_7 hv_8 dX4_isItem_29 ?_
      refine lv_iconst (v := 1) hx hb dX4_isItem_30 (by decide) ?_
      refine lv_icmp_ne (tgt := 38) hx hb dX4_isItem_31 (by decide) (fun hc => ?_) (fun hc => ?_)
      · replace h := h.1 hc
        refine lv_iconst (v := 0) hx hb dX4_isItem_38 (by decide) ?_
        exact W.zret (v := 0) (ty := .boolean) hx hb hr rfl (fun t_ ht hW => ⟨⟨_, _, rfl, h, mB_of ht hM⟩, hS.F ht⟩) hS.2.2 dX4_isItem_39
      · replace h := h.2 hc
        refine lv_iconst (v := 1) hx hb dX4_isItem_34 (by decide) ?_
        refine lv_goto (tgt := 39) hx hb dX4_isItem_35 (by decide) ?_
        exact W.zret (v := 1) (ty := .boolean) hx hb hr rfl (fun t_ ht hW => ⟨⟨_, _, rfl, h, mB_of ht hM⟩, hS.F ht⟩) hS.2.2 dX4_isItem_39
end S_X4_isItem
set_option maxHeartbeats 4000000 in
set_option maxRecDepth 100000 in
theorem ok_X4_isItem (l : Launch) (D : va_G) (cs : CS) (A : Nat → Prop) (t : Nat) (x1 : Int32) (σ : MM) (k : Int32 → MM → Prop) (h : wX4_isItem t x1 σ k) : Met l yX4_isItem wsX4_isItem rmX4_isItem (va_Pc [.ref t, .int x1] (mP D cs A σ)) (va_Qi k (mB D cs A) A) 0 0 A := by
  refine Met.ofW (cc := cX4_isItem) (maxL := 2) (ret := (some .boolean)) (by decide) rfl ?_
  intro p e s m args below meth c s₁ B hml hv
  obtain ⟨rfl, hM, hE⟩ := hv
  have CX : CXM p s m _ meth c cX4_isItem 2 (some .boolean) "isItem" RX4 wsX4_isItem D cs A := ⟨B.exec, B.bytes, hml, B.returns, (name_of_methodNamed B.named B.method).1, findClass_of_methodNamed B.named, atoms_spec (ws := wsX4_isItem) B.pre, B.notSynchronized, hE⟩
  have hl := lv_entry ([.ref t, .int x1]) (n := 2) (Nat.le_of_ble_eq_true rfl)
  rw [lg_entry_eq]
  exact oX4_isItem_0 CX x1 σ _ _ _ h hM va_S.rf hl
/-! WorkCoderModel.anew(I)V -/
abbrev rmX4_anew : Room := { frames := 0, cells := 0, slots := 0, locals := 0 }
theorem inX4_anew_4 : ∀ w ∈ wsX40, w ∈ wsX4_anew := fun _ h => List.mem_cons_of_mem _ (List.mem_append_right _ (h))
section S_X4_anew
variable {p : Program} {l : Launch} {e : Env} {s : State} {m : MethodId} {args : Array Value} {below : List Frame} {meth : Method} {c : Code} {D : va_G} {cs : CS} {A : Nat → Prop}
set_option maxHeartbeats 4000000 in
set_option maxRecDepth 100000 in
theorem oX4_anew_0 {k : MM → Prop} {t : Nat} (CX : CXM p s m args meth c cX4_anew 2 none "anew" RX4 wsX4_anew D cs A) : ∀ (x1 : Int32) (σ : MM) (H : Heap) (locs : List Loc) (ls : Array Slot), wX4_anew t x1 σ k → PH D cs A σ H → va_S A s.heap H locs → lv_has ls 2 [(0, .ref t), (1, .int x1)] → W p l e (headSpec wsX4_anew rmX4_anew).room s m args below meth c H locs 0 0 (MQ below (va_Qv k (mB D cs A) A) args s 0 0 A) (F0 m 0 ls []) := by
  intro x1 σ H locs ls h hM hS hl
  have ⟨hx, hb, hml, hr, hnm, hown, hts, hlocks, hE⟩ := CX
  unfold wX4_anew at h
  refine lv_aload_n hx hb dX4_anew_0 rfl (lv_at hl 0 rfl) ?_
  obtain ⟨hk_1, h⟩ := h
  refine gf4_13 hx hb hts inX4_anew_4 hown hE.1 hM hk_1 (hts (.fieldLink RX4 46 "WorkCoderModel" "state" "[I") (by decide +kernel)) dX4_anew_1 (fun r_2 er_2 => ?_)
  replace h := h r_2 er_2
  clear er_2
  refine lv_iload_n hx hb dX4_anew_4 rfl (lv_at hl 1 rfl) ?_
  refine lv_iconst (v := 0) hx hb dX4_anew_5 (by decide) ?_
  obtain ⟨a_3, rfl, h⟩ := h
  obtain ⟨hk_4, h⟩ := h
  obtain ⟨hv_5, h⟩ := h
  refine mm_iast hx hb hE.1 hM hS hk_4 hv_5 dX4_anew_6 (fun H locs hM hS => ?_)
  replace h := h _ rfl
  refine lv_aload_n hx hb dX4_anew_7 rfl (lv_at hl 0 rfl) ?_
  refine gf4_14 hx hb hts inX4_anew_4 hown hE.1 hM hk_1 (hts (.fieldLink RX4 49 "WorkCoderModel" "codeOf" "[I") (by decide +kernel)) dX4_anew_8 (fun r_7 er_7 => ?_)
  replace h := h r_7 er_7
  clear er_7
  refine lv_iload_n hx hb dX4_anew_11 rfl (lv_at hl 1 rfl) ?_
  refine lv_iconst (v := (-1)) hx hb dX4_anew_12 (by decide) ?_
  obtain ⟨a_8, rfl, h⟩ := h
  obtain ⟨hk_9, h⟩ := h
  obtain ⟨hv_10, h⟩ := h
  refine mm_iast hx hb hE.1 hM hS hk_9 hv_10 dX4_anew_13 (fun H locs hM hS => ?_)
  replace h := h _ rfl
  refine lv_aload_n hx hb dX4_anew_14 rfl (lv_at hl 0 rfl) ?_
  refine gf4_15 hx hb hts inX4_anew_4 hown hE.1 hM hk_1 (hts (.fieldLink RX4 52 "WorkCoderModel" "byWhat" "[I") (by decide +kernel)) dX4_anew_15 (fun r_12 er_12 => ?_)
  replace h := h r_12 er_12
  clear er_12
  refine lv_iload_n hx hb dX4_anew_18 rfl (lv_at hl 1 rfl) ?_
  refine lv_iconst (v := (-1)) hx hb dX4_anew_19 (by decide) ?_
  obtain ⟨a_13, rfl, h⟩ := h
  obtain ⟨hk_14, h⟩ := h
  obtain ⟨hv_15, h⟩ := h
  refine mm_iast hx hb hE.1 hM hS hk_14 hv_15 dX4_anew_20 (fun H locs hM hS => ?_)
  replace h := h _ rfl
  refine lv_aload_n hx hb dX4_anew_21 rfl (lv_at hl 0 rfl) ?_
  refine gf4_16 hx hb hts inX4_anew_4 hown hE.1 hM hk_1 (hts (.fieldLink RX4 55 "WorkCoderModel" "byNumber" "[I") (by decide +kernel)) dX4_anew_22 (fun r_17 er_17 => ?_)
  replace h := h r_17 er_17
  clear er_17
  refine lv_iload_n hx hb dX4_anew_25 rfl (lv_at hl 1 rfl) ?_
  refine lv_iconst (v := (-1)) hx hb dX4_anew_26 (by decide) ?_
  obtain ⟨a_18, rfl, h⟩ := h
  obtain ⟨hk_19, h⟩ := h
  obtain ⟨hv_20, h⟩ := h
  refine mm_iast hx hb hE.1 hM hS hk_19 hv_20 dX4_anew_27 (fun H locs hM hS => ?_)
  replace h := h _ rfl
  refine lv_aload_n hx hb dX4_anew_28 rfl (lv_at hl 0 rfl) ?_
  refine gf4_17 hx hb hts inX4_anew_4 hown hE.1 hM hk_1 (hts (.fieldLink RX4 58 "WorkCoderModel" "second" "[I") (by decide +kernel)) dX4_anew_29 (fun r_22 er_22 => ?_)
  replace h := h r_22 er_22
  clear er_22
  refine lv_iload_n hx hb dX4_anew_32 rfl (lv_at hl 1 rfl) ?_
  refine lv_iconst (v := (-1)) hx hb dX4_anew_33 (by decide) ?_
  obtain ⟨a_23, rfl, h⟩ := h
  obtain ⟨hk_24, h⟩ := h
  obtain ⟨hv_25, h⟩ := h
  refine mm_iast hx hb hE.1 hM hS hk_24 hv_25 dX4_anew_34 (fun H locs hM hS => ?_)
  replace h := h _ rfl
  exact W.vret hx hb hr (fun t_ ht hW => ⟨⟨_, rfl, h, mB_of ht hM⟩, hS.F ht⟩) hS.2.2 dX4_anew_35
end S_X4_anew
set_option maxHeartbeats 4000000 in
set_option maxRecDepth 100000 in
theorem ok_X4_anew (l : Launch) (D : va_G) (cs : CS) (A : Nat → Prop) (t : Nat) (x1 : Int32) (σ : MM) (k : MM → Prop) (h : wX4_anew t x1 σ k) : Met l yX4_anew wsX4_anew rmX4_anew (va_Pc [.ref t, .int x1] (mP D cs A σ)) (va_Qv k (mB D cs A) A) 0 0 A := by
  refine Met.ofW (cc := cX4_anew) (maxL := 2) (ret := none) (by decide) rfl ?_
  intro p e s m args below meth c s₁ B hml hv
  obtain ⟨rfl, hM, hE⟩ := hv
  have CX : CXM p s m _ meth c cX4_anew 2 none "anew" RX4 wsX4_anew D cs A := ⟨B.exec, B.bytes, hml, B.returns, (name_of_methodNamed B.named B.method).1, findClass_of_methodNamed B.named, atoms_spec (ws := wsX4_anew) B.pre, B.notSynchronized, hE⟩
  have hl := lv_entry ([.ref t, .int x1]) (n := 2) (Nat.le_of_ble_eq_true rfl)
  rw [lg_entry_eq]
  exact oX4_anew_0 CX x1 σ _ _ _ h hM va_S.rf hl
/-! WorkCoderModel.answer(III)I -/
abbrev rmX4_answer : Room := { frames := 1, cells := 0, slots := 0, locals := 22 }
theorem inX4_answer_4 : ∀ w ∈ wsX40, w ∈ wsX4_answer := fun _ h => List.mem_cons_of_mem _ (List.mem_append_right _ (h))
section S_X4_answer
variable {p : Program} {l : Launch} {e : Env} {s : State} {m : MethodId} {args : Array Value} {below : List Frame} {meth : Method} {c : Code} {D : va_G} {cs : CS} {A : Nat → Prop}
set_option maxHeartbeats 4000000 in
set_option maxRecDepth 100000 in
theorem oX4_answer_79 {k : Int32 → MM → Prop} {t : Nat} (CX : CXM p s m args meth c cX4_answer 6 (some .int) "answer" RX4 wsX4_answer D cs A) : ∀ (n : Nat), ∀ (x4 : Int32) (x5 : Int32) (σ : MM) (H : Heap) (locs : List Loc) (ls : Array Slot), wX4_answer_79 k t  n x4 x5 σ → PH D cs A σ H → va_S A s.heap H locs → lv_has ls 6 [(0, .ref t), (4, .int x4), (5, .int x5)] → W p l e (headSpec wsX4_answer rmX4_answer).room s m args below meth c H locs 0 0 (MQ below (va_Qi k (mB D cs A) A) args s 0 0 A) (F0 m 79 ls []) := by
  intro n
  induction n with
  | zero => intro x4 x5 σ H locs ls h; exact h.elim
  | succ n ih =>
    intro x4 x5 σ H locs ls h hM hS hl
    have ⟨hx, hb, hml, hr, hnm, hown, hts, hlocks, hE⟩ := CX
    unfold wX4_answer_79 at h
    refine lv_iload hx hb dX4_answer_79 (lv_at hl 2 rfl) ?_
    refine lv_iconst (v := 2) hx hb dX4_answer_81 (by decide) ?_
    refine lv_iload hx hb dX4_answer_82 (lv_at hl 1 rfl) ?_
    refine lv_imul hx hb dX4_answer_84 ?_
    refine lv_iconst (v := 2) hx hb dX4_answer_85 (by decide) ?_
    refine lv_iadd hx hb dX4_answer_86 ?_
    refine lv_icmp_ge (tgt := 110) hx hb dX4_answer_87 (by decide) (fun hc => ?_) (fun hc => ?_)
    · replace h := h.1 hc
      refine lv_aload_n hx hb dX4_answer_110 rfl (lv_at hl 0 rfl) ?_
      refine lv_dup hx hb dX4_answer_111 rfl ?_
      obtain ⟨hk_1, h⟩ := h
      refine gf4_8 hx hb hts inX4_answer_4 hown hE.1 hM hk_1 (hts (.fieldLink RX4 116 "WorkCoderModel" "answers" "I") (by decide +kernel)) dX4_answer_112 ?_
      refine lv_iconst (v := 1) hx hb dX4_answer_115 (by decide) ?_
      refine lv_iadd hx hb dX4_answer_116 ?_
      refine pf4_8 hx hb hts inX4_answer_4 hown hE.1 hM hS hk_1 (hts (.fieldLink RX4 116 "WorkCoderModel" "answers" "I") (by decide +kernel)) dX4_answer_117 (fun H locs hM hS => ?_)
      replace h := h _ rfl
      refine lv_iload hx hb dX4_answer_120 (lv_at hl 1 rfl) ?_
      exact W.iret (v := x4) hx hb hr (fun t_ ht hW => ⟨⟨_, _, rfl, h, mB_of ht hM⟩, hS.F ht⟩) hS.2.2 dX4_answer_122
    · replace h := h.2 hc
      refine lv_aload_n hx hb dX4_answer_90 rfl (lv_at hl 0 rfl) ?_
      obtain ⟨hk_3, h⟩ := h
      refine gf4_12 hx hb hts inX4_answer_4 hown hE.1 hM hk_3 (hts (.fieldLink RX4 43 "WorkCoderModel" "words" "[J") (by decide +kernel)) dX4_answer_91 (fun r_4 er_4 => ?_)
      replace h := h r_4 er_4
      clear er_4
      refine lv_iload hx hb dX4_answer_94 (lv_at hl 2 rfl) ?_
      refine lv_lconst (v := 0) hx hb dX4_answer_96 (by decide) ?_
      obtain ⟨a_5, rfl, h⟩ := h
      obtain ⟨hk_6, h⟩ := h
      obtain ⟨hv_7, h⟩ := h
      refine mm_last hx hb hE.1 hM hS hk_6 hv_7 dX4_answer_97 (fun H locs hM hS => ?_)
      replace h := h _ rfl
      refine lv_aload_n hx hb dX4_answer_98 rfl (lv_at hl 0 rfl) ?_
      refine lv_iload hx hb dX4_answer_99 (lv_at hl 2 rfl) ?_
      refine clVv (C := RX4) (b := t) (As := [.int x5]) (rest := []) ⟨hx, hb, hml, hown, hts⟩ hM hE hS (ok_X4_anew l D cs A t x5 _ _ h) (cwV 1 hts gX4_answer_X4_anew rfl rfl rfl (by decide +kernel) ⟨(Nat.le_of_ble_eq_true rfl), (Nat.le_of_ble_eq_true rfl)⟩) (rc4 hM hE.1 hk_3) rfl hl.1 rfl (Nat.le_of_ble_eq_true rfl) dX4_answer_101 ⟨(Nat.le_of_ble_eq_true rfl), (Nat.le_of_ble_eq_true rfl)⟩ (fun σ_9 H locs h1 hM hS => ?_)
      replace h := h1
      clear h1
      obtain ⟨x_11, ex_11⟩ : ∃ y : Int32, y = x5 + 1 := ⟨_, rfl⟩
      replace h := h x_11 ex_11
      refine lv_iinc (v := x_11) (lv' := [(5, .int x_11), (0, .ref t), (4, .int x4)]) hx hb dX4_answer_104 hl (k := 2) rfl (by rw [ex_11]; rfl) (by decide) rfl (fun ls hl => ?_)
      refine lv_goto (tgt := 79) hx hb dX4_answer_107 (by decide) ?_
      exact ih _ _ _ _ _ _ h hM hS (lv_sub hl [1, 2, 0] rfl)
set_option maxHeartbeats 4000000 in
set_option maxRecDepth 100000 in
theorem oX4_answer_0 {k : Int32 → MM → Prop} {t : Nat} (CX : CXM p s m args meth c cX4_answer 6 (some .int) "answer" RX4 wsX4_answer D cs A) : ∀ (x1 : Int32) (x2 : Int32) (x3 : Int32) (σ : MM) (H : Heap) (locs : List Loc) (ls : Array Slot), wX4_answer t x1 x2 x3 σ k → PH D cs A σ H → va_S A s.heap H locs → lv_has ls 6 [(0, .ref t), (1, .int x1), (2, .int x2), (3, .int x3)] → W p l e (headSpec wsX4_answer rmX4_answer).room s m args below meth c H locs 0 0 (MQ below (va_Qi k (mB D cs A) A) args s 0 0 A) (F0 m 0 ls []) := by
  intro x1 x2 x3 σ H locs ls h hM hS hl
  have ⟨hx, hb, hml, hr, hnm, hown, hts, hlocks, hE⟩ := CX
  unfold wX4_answer at h
  refine lv_iload_n hx hb dX4_answer_0 rfl (lv_at hl 1 rfl) ?_
  refine lv_iconst (v := 0) hx hb dX4_answer_1 (by decide) ?_
  refine lv_iconst (v := 1) hx hb dX4_answer_2 (by decide) ?_
  refine clSi (As := [.int x1, .int 0, .int 1]) (rest := []) ⟨hx, hb, hml, hown, hts⟩ hM hE hS (ok_X4_in l D cs A x1 0 1 _ _ h) (va_cwS 3 hts gX4_answer_X4_in rfl rfl rfl (by decide +kernel) ⟨(Nat.le_of_ble_eq_true rfl), (Nat.le_of_ble_eq_true rfl)⟩) rfl hl.1 rfl (Nat.le_of_ble_eq_true rfl) dX4_answer_3 ⟨(Nat.le_of_ble_eq_true rfl), (Nat.le_of_ble_eq_true rfl)⟩ (fun x_2 σ_1 H locs h1 hM hS => ?_)
  replace h := h1
  clear h1
  refine lv_if_eq (tgt := 29) hx hb dX4_answer_6 (by decide) (fun hc => ?_) (fun hc => ?_)
  · replace h := h.1 hc
    refine lv_iconst (v := (-1)) hx hb dX4_answer_29 (by decide) ?_
    exact W.iret (v := (-1)) hx hb hr (fun t_ ht hW => ⟨⟨_, _, rfl, h, mB_of ht hM⟩, hS.F ht⟩) hS.2.2 dX4_answer_30
  · replace h := h.2 hc
    refine lv_iload_n hx hb dX4_answer_9 rfl (lv_at hl 2 rfl) ?_
    refine lv_iconst (v := 0) hx hb dX4_answer_10 (by decide) ?_
    refine lv_bipush (v := 9) hx hb dX4_answer_11 (by decide) ?_
    refine clSi (As := [.int x2, .int 0, .int 9]) (rest := []) ⟨hx, hb, hml, hown, hts⟩ hM hE hS (ok_X4_in l D cs A x2 0 9 _ _ h) (va_cwS 3 hts gX4_answer_X4_in rfl rfl rfl (by decide +kernel) ⟨(Nat.le_of_ble_eq_true rfl), (Nat.le_of_ble_eq_true rfl)⟩) rfl hl.1 rfl (Nat.le_of_ble_eq_true rfl) dX4_answer_13 ⟨(Nat.le_of_ble_eq_true rfl), (Nat.le_of_ble_eq_true rfl)⟩ (fun x_4 σ_3 H locs h1 hM hS => ?_)
    replace h := h1
    clear h1
    refine lv_if_eq (tgt := 29) hx hb dX4_answer_16 (by decide) (fun hc => ?_) (fun hc => ?_)
    · replace h := h.1 hc
      refine lv_iconst (v := (-1)) hx hb dX4_answer_29 (by decide) ?_
      exact W.iret (v := (-1)) hx hb hr (fun t_ ht hW => ⟨⟨_, _, rfl, h, mB_of ht hM⟩, hS.F ht⟩) hS.2.2 dX4_answer_30
    · replace h := h.2 hc
      refine lv_iload_n hx hb dX4_answer_19 rfl (lv_at hl 3 rfl) ?_
      refine lv_iconst (v := 0) hx hb dX4_answer_20 (by decide) ?_
      refine lv_bipush (v := 9) hx hb dX4_answer_21 (by decide) ?_
      refine clSi (As := [.int x3, .int 0, .int 9]) (rest := []) ⟨hx, hb, hml, hown, hts⟩ hM hE hS (ok_X4_in l D cs A x3 0 9 _ _ h) (va_cwS 3 hts gX4_answer_X4_in rfl rfl rfl (by decide +kernel) ⟨(Nat.le_of_ble_eq_true rfl), (Nat.le_of_ble_eq_true rfl)⟩) rfl hl.1 rfl (Nat.le_of_ble_eq_true rfl) dX4_answer_23 ⟨(Nat.le_of_ble_eq_true rfl), (Nat.le_of_ble_eq_true rfl)⟩ (fun x_6 σ_5 H locs h1 hM hS => ?_)
      replace h := h1
      clear h1
      refine lv_if_ne (tgt := 31) hx hb dX4_answer_26 (by decide) (fun hc => ?_) (fun hc => ?_)
      · replace h := h.1 hc
        refine lv_aload_n hx hb dX4_answer_31 rfl (lv_at hl 0 rfl) ?_
        obtain ⟨hk_7, h⟩ := h
        refine gf4_8 hx hb hts inX4_answer_4 hown hE.1 hM hk_7 (hts (.fieldLink RX4 116 "WorkCoderModel" "answers" "I") (by decide +kernel)) dX4_answer_32 ?_
        refine lv_bipush (v := 80) hx hb dX4_answer_35 (by decide) ?_
        refine lv_icmp_ne (tgt := 43) hx hb dX4_answer_37 (by decide) (fun hc => ?_) (fun hc => ?_)
        · replace h := h.1 hc
          refine lv_aload_n hx hb dX4_answer_43 rfl (lv_at hl 0 rfl) ?_
          refine gf4_8 hx hb hts inX4_answer_4 hown hE.1 hM hk_7 (hts (.fieldLink RX4 116 "WorkCoderModel" "answers" "I") (by decide +kernel)) dX4_answer_44 ?_
          refine lv_topi (fun x_8 ex_8 => ?_)
          replace h := h x_8 ex_8
          refine lv_istore (i := 4) (lv' := [(4, .int x_8), (0, .ref t), (1, .int x1), (2, .int x2), (3, .int x3)]) hx hb dX4_answer_47 hl (by decide) rfl (fun ls hl => ?_)
          refine lv_aload_n hx hb dX4_answer_49 rfl (lv_at hl 1 rfl) ?_
          refine gf4_9 hx hb hts inX4_answer_4 hown hE.1 hM hk_7 (hts (.fieldLink RX4 34 "WorkCoderModel" "sort" "[I") (by decide +kernel)) dX4_answer_50 (fun r_9 er_9 => ?_)
          replace h := h r_9 er_9
          clear er_9
          refine lv_iload hx hb dX4_answer_53 (lv_at hl 0 rfl) ?_
          refine lv_iload_n hx hb dX4_answer_55 rfl (lv_at hl 2 rfl) ?_
          obtain ⟨a_10, rfl, h⟩ := h
          obtain ⟨hk_11, h⟩ := h
          obtain ⟨hv_12, h⟩ := h
          refine mm_iast hx hb hE.1 hM hS hk_11 hv_12 dX4_answer_56 (fun H locs hM hS => ?_)
          replace h := h _ rfl
          refine lv_aload_n hx hb dX4_answer_57 rfl (lv_at hl 1 rfl) ?_
          refine gf4_10 hx hb hts inX4_answer_4 hown hE.1 hM hk_7 (hts (.fieldLink RX4 37 "WorkCoderModel" "trade" "[I") (by decide +kernel)) dX4_answer_58 (fun r_14 er_14 => ?_)
          replace h := h r_14 er_14
          clear er_14
          refine lv_iload hx hb dX4_answer_61 (lv_at hl 0 rfl) ?_
          refine lv_iload_n hx hb dX4_answer_63 rfl (lv_at hl 3 rfl) ?_
          obtain ⟨a_15, rfl, h⟩ := h
          obtain ⟨hk_16, h⟩ := h
          obtain ⟨hv_17, h⟩ := h
          refine mm_iast hx hb hE.1 hM hS hk_16 hv_17 dX4_answer_64 (fun H locs hM hS => ?_)
          replace h := h _ rfl
          refine lv_aload_n hx hb dX4_answer_65 rfl (lv_at hl 1 rfl) ?_
          refine gf4_11 hx hb hts inX4_answer_4 hown hE.1 hM hk_7 (hts (.fieldLink RX4 40 "WorkCoderModel" "schooling" "[I") (by decide +kernel)) dX4_answer_66 (fun r_19 er_19 => ?_)
          replace h := h r_19 er_19
          clear er_19
          refine lv_iload hx hb dX4_answer_69 (lv_at hl 0 rfl) ?_
          refine lv_iload_n hx hb dX4_answer_71 rfl (lv_at hl 4 rfl) ?_
          obtain ⟨a_20, rfl, h⟩ := h
          obtain ⟨hk_21, h⟩ := h
          obtain ⟨hv_22, h⟩ := h
          refine mm_iast hx hb hE.1 hM hS hk_21 hv_22 dX4_answer_72 (fun H locs hM hS => ?_)
          replace h := h _ rfl
          refine lv_iconst (v := 2) hx hb dX4_answer_73 (by decide) ?_
          refine lv_iload hx hb dX4_answer_74 (lv_at hl 0 rfl) ?_
          refine lv_imul hx hb dX4_answer_76 ?_
          refine lv_topi (fun x_24 ex_24 => ?_)
          replace h := h x_24 ex_24
          refine lv_istore (i := 5) (lv' := [(5, .int x_24), (4, .int x_8), (0, .ref t), (1, .int x1), (2, .int x2), (3, .int x3)]) hx hb dX4_answer_77 hl (by decide) rfl (fun ls hl => ?_)
          obtain ⟨n0, h⟩ := h
          exact oX4_answer_79 CX  n0 _ _ _ _ _ _ h hM hS (lv_sub hl [2, 1, 0] rfl)
        · replace h := h.2 hc
          refine lv_bipush (v := (-3)) hx hb dX4_answer_40 (by decide) ?_
          exact W.iret (v := (-3)) hx hb hr (fun t_ ht hW => ⟨⟨_, _, rfl, h, mB_of ht hM⟩, hS.F ht⟩) hS.2.2 dX4_answer_42
      · replace h := h.2 hc
        refine lv_iconst (v := (-1)) hx hb dX4_answer_29 (by decide) ?_
        exact W.iret (v := (-1)) hx hb hr (fun t_ ht hW => ⟨⟨_, _, rfl, h, mB_of ht hM⟩, hS.F ht⟩) hS.2.2 dX4_answer_30
end S_X4_answer
set_option maxHeartbeats 4000000 in
set_option maxRecDepth 100000 in
theorem ok_X4_answer (l : Launch) (D : va_G) (cs : CS) (A : Nat → Prop) (t : Nat) (x1 : Int32) (x2 : Int32) (x3 : Int32) (σ : MM) (k : Int32 → MM → Prop) (h : wX4_answer t x1 x2 x3 σ k) : Met l yX4_answer wsX4_answer rmX4_answer (va_Pc [.ref t, .int x1, .int x2, .int x3] (mP D cs A σ)) (va_Qi k (mB D cs A) A) 0 0 A := by
  refine Met.ofW (cc := cX4_answer) (maxL := 6) (ret := (some .int)) (by decide) rfl ?_
  intro p e s m args below meth c s₁ B hml hv
  obtain ⟨rfl, hM, hE⟩ := hv
  have CX : CXM p s m _ meth c cX4_answer 6 (some .int) "answer" RX4 wsX4_answer D cs A := ⟨B.exec, B.bytes, hml, B.returns, (name_of_methodNamed B.named B.method).1, findClass_of_methodNamed B.named, atoms_spec (ws := wsX4_answer) B.pre, B.notSynchronized, hE⟩
  have hl := lv_entry ([.ref t, .int x1, .int x2, .int x3]) (n := 6) (Nat.le_of_ble_eq_true rfl)
  rw [lg_entry_eq]
  exact oX4_answer_0 CX x1 x2 x3 σ _ _ _ h hM va_S.rf hl
