/-! memory by addresses: kinds, lengths, ints, longs, references -/
abbrev MM : Type := (Nat → Nat) × (Nat → Nat) × (Nat → Nat → Int32) × (Nat → Nat → Int64) × (Nat → Nat → Option Nat)
def mK (σ : MM) : Nat → Nat := σ.1
def mN (σ : MM) : Nat → Nat := σ.2.1
def mI (σ : MM) : Nat → Nat → Int32 := σ.2.2.1
def mL (σ : MM) : Nat → Nat → Int64 := σ.2.2.2.1
def mR (σ : MM) : Nat → Nat → Option Nat := σ.2.2.2.2
def sI (σ : MM) (a k : Nat) (v : Int32) : MM := (σ.1, σ.2.1, va_up σ.2.2.1 a (va_up (σ.2.2.1 a) k v), σ.2.2.2.1, σ.2.2.2.2)
def sL (σ : MM) (a k : Nat) (v : Int64) : MM := (σ.1, σ.2.1, σ.2.2.1, va_up σ.2.2.2.1 a (va_up (σ.2.2.2.1 a) k v), σ.2.2.2.2)
def sR (σ : MM) (a k : Nat) (v : Option Nat) : MM := (σ.1, σ.2.1, σ.2.2.1, σ.2.2.2.1, va_up σ.2.2.2.2 a (va_up (σ.2.2.2.2 a) k v))
def sN (σ : MM) (a kd n : Nat) : MM := (va_up σ.1 a kd, va_up σ.2.1 a n, va_up σ.2.2.1 a (fun _ => 0), va_up σ.2.2.2.1 a (fun _ => 0), va_up σ.2.2.2.2 a (fun _ => none))
theorem mK_sI (σ : MM) (a k : Nat) v : mK (sI σ a k v) = mK σ := rfl
theorem mN_sI (σ : MM) (a k : Nat) v : mN (sI σ a k v) = mN σ := rfl
theorem mL_sI (σ : MM) (a k : Nat) v : mL (sI σ a k v) = mL σ := rfl
theorem mR_sI (σ : MM) (a k : Nat) v : mR (sI σ a k v) = mR σ := rfl
theorem mI_sI (σ : MM) (a k : Nat) v (b j : Nat) : mI (sI σ a k v) b j = if b = a ∧ j = k then v else mI σ b j := by
  unfold mI sI
  by_cases h : b = a
  · subst h; by_cases h2 : j = k <;> simp [va_up, h2]
  · simp [va_up, h]
theorem mK_sL (σ : MM) (a k : Nat) v : mK (sL σ a k v) = mK σ := rfl
theorem mN_sL (σ : MM) (a k : Nat) v : mN (sL σ a k v) = mN σ := rfl
theorem mI_sL (σ : MM) (a k : Nat) v : mI (sL σ a k v) = mI σ := rfl
theorem mR_sL (σ : MM) (a k : Nat) v : mR (sL σ a k v) = mR σ := rfl
theorem mL_sL (σ : MM) (a k : Nat) v (b j : Nat) : mL (sL σ a k v) b j = if b = a ∧ j = k then v else mL σ b j := by
  unfold mL sL
  by_cases h : b = a
  · subst h; by_cases h2 : j = k <;> simp [va_up, h2]
  · simp [va_up, h]
theorem mK_sR (σ : MM) (a k : Nat) v : mK (sR σ a k v) = mK σ := rfl
theorem mN_sR (σ : MM) (a k : Nat) v : mN (sR σ a k v) = mN σ := rfl
theorem mI_sR (σ : MM) (a k : Nat) v : mI (sR σ a k v) = mI σ := rfl
theorem mL_sR (σ : MM) (a k : Nat) v : mL (sR σ a k v) = mL σ := rfl
theorem mR_sR (σ : MM) (a k : Nat) v (b j : Nat) : mR (sR σ a k v) b j = if b = a ∧ j = k then v else mR σ b j := by
  unfold mR sR
  by_cases h : b = a
  · subst h; by_cases h2 : j = k <;> simp [va_up, h2]
  · simp [va_up, h]
theorem mK_sN (σ : MM) (a kd n b : Nat) : mK (sN σ a kd n) b = if b = a then kd else mK σ b := rfl
theorem mN_sN (σ : MM) (a kd n b : Nat) : mN (sN σ a kd n) b = if b = a then n else mN σ b := rfl
theorem mI_sN (σ : MM) (a kd n b j : Nat) : mI (sN σ a kd n) b j = if b = a then 0 else mI σ b j := by by_cases h : b = a <;> simp [mI, sN, va_up, h]
theorem mL_sN (σ : MM) (a kd n b j : Nat) : mL (sN σ a kd n) b j = if b = a then 0 else mL σ b j := by by_cases h : b = a <;> simp [mL, sN, va_up, h]
theorem mR_sN (σ : MM) (a kd n b j : Nat) : mR (sN σ a kd n) b j = if b = a then none else mR σ b j := by by_cases h : b = a <;> simp [mR, sN, va_up, h]
abbrev CS : Type := Nat → ClassId
abbrev csT (cs : CS) : List (ClassId × FieldType) := [(cs 0, .int), (cs 1, .long), (cs 2, .boolean), (cs 3, .object "WorkCoder$Item"), (cs 4, .object "WorkCoder$Rule")]
def mF (cs : CS) (σ : MM) (a : Nat) : va_E :=
  if mK σ a = 1 then .inr (0, [.int (mI σ a 0), .int (mI σ a 1), .long (mL σ a 2), .long (mL σ a 3), .int (mI σ a 4), .int (mI σ a 5), .int (mI σ a 6), .int (mI σ a 7), .int (mI σ a 8), .int (mI σ a 9), .int (mI σ a 10), .int (mI σ a 11)]) else
  if mK σ a = 2 then .inr (1, [.int (mI σ a 0), .int (mI σ a 1), .int (mI σ a 2), .long (mL σ a 3), .long (mL σ a 4), .int (mI σ a 5)]) else
  if mK σ a = 3 then .inr (2, [va_rf (mR σ a 0), .int (mI σ a 1), .int (mI σ a 2)]) else
  if mK σ a = 4 then .inr (3, [va_rf (mR σ a 0), va_rf (mR σ a 1), va_rf (mR σ a 2), va_rf (mR σ a 3), va_rf (mR σ a 4), va_rf (mR σ a 5), .int (mI σ a 6), va_rf (mR σ a 7), .int (mI σ a 8), .int (mI σ a 9), .int (mI σ a 10), va_rf (mR σ a 11)]) else
  if mK σ a = 5 then .inr (4, [.int (mI σ a 0), va_rf (mR σ a 1), .int (mI σ a 2), va_rf (mR σ a 3), va_rf (mR σ a 4), .int (mI σ a 5), va_rf (mR σ a 6), va_rf (mR σ a 7), .int (mI σ a 8), va_rf (mR σ a 9), va_rf (mR σ a 10), va_rf (mR σ a 11), va_rf (mR σ a 12), va_rf (mR σ a 13), va_rf (mR σ a 14), va_rf (mR σ a 15), va_rf (mR σ a 16), va_rf (mR σ a 17), .int (mI σ a 18), va_rf (mR σ a 19), va_rf (mR σ a 20), va_rf (mR σ a 21), va_rf (mR σ a 22), va_rf (mR σ a 23), va_rf (mR σ a 24), .int (mI σ a 25), .int (mI σ a 26), .int (mI σ a 27), .int (mI σ a 28), .int (mI σ a 29), va_rf (mR σ a 30), va_rf (mR σ a 31), va_rf (mR σ a 32), va_rf (mR σ a 33)]) else
  if mK σ a = 6 then .inl (cs 0, mN σ a, .inl (mI σ a)) else
  if mK σ a = 7 then .inl (cs 1, mN σ a, .inr (.inl (mL σ a))) else
  if mK σ a = 8 then .inl (cs 2, mN σ a, .inl (mI σ a)) else
  if mK σ a = 9 then .inl (cs 3, mN σ a, .inr (.inr (.inr (.inr (mR σ a))))) else
  .inl (cs 4, mN σ a, .inr (.inr (.inr (.inr (mR σ a)))))
theorem mF_1 {cs : CS} {σ : MM} {a : Nat} (h : mK σ a = 1) : mF cs σ a = .inr (0, [.int (mI σ a 0), .int (mI σ a 1), .long (mL σ a 2), .long (mL σ a 3), .int (mI σ a 4), .int (mI σ a 5), .int (mI σ a 6), .int (mI σ a 7), .int (mI σ a 8), .int (mI σ a 9), .int (mI σ a 10), .int (mI σ a 11)]) := by simp [mF, h]
theorem mF_2 {cs : CS} {σ : MM} {a : Nat} (h : mK σ a = 2) : mF cs σ a = .inr (1, [.int (mI σ a 0), .int (mI σ a 1), .int (mI σ a 2), .long (mL σ a 3), .long (mL σ a 4), .int (mI σ a 5)]) := by simp [mF, h]
theorem mF_3 {cs : CS} {σ : MM} {a : Nat} (h : mK σ a = 3) : mF cs σ a = .inr (2, [va_rf (mR σ a 0), .int (mI σ a 1), .int (mI σ a 2)]) := by simp [mF, h]
theorem mF_4 {cs : CS} {σ : MM} {a : Nat} (h : mK σ a = 4) : mF cs σ a = .inr (3, [va_rf (mR σ a 0), va_rf (mR σ a 1), va_rf (mR σ a 2), va_rf (mR σ a 3), va_rf (mR σ a 4), va_rf (mR σ a 5), .int (mI σ a 6), va_rf (mR σ a 7), .int (mI σ a 8), .int (mI σ a 9), .int (mI σ a 10), va_rf (mR σ a 11)]) := by simp [mF, h]
theorem mF_5 {cs : CS} {σ : MM} {a : Nat} (h : mK σ a = 5) : mF cs σ a = .inr (4, [.int (mI σ a 0), va_rf (mR σ a 1), .int (mI σ a 2), va_rf (mR σ a 3), va_rf (mR σ a 4), .int (mI σ a 5), va_rf (mR σ a 6), va_rf (mR σ a 7), .int (mI σ a 8), va_rf (mR σ a 9), va_rf (mR σ a 10), va_rf (mR σ a 11), va_rf (mR σ a 12), va_rf (mR σ a 13), va_rf (mR σ a 14), va_rf (mR σ a 15), va_rf (mR σ a 16), va_rf (mR σ a 17), .int (mI σ a 18), va_rf (mR σ a 19), va_rf (mR σ a 20), va_rf (mR σ a 21), va_rf (mR σ a 22), va_rf (mR σ a 23), va_rf (mR σ a 24), .int (mI σ a 25), .int (mI σ a 26), .int (mI σ a 27), .int (mI σ a 28), .int (mI σ a 29), va_rf (mR σ a 30), va_rf (mR σ a 31), va_rf (mR σ a 32), va_rf (mR σ a 33)]) := by simp [mF, h]
theorem mF_6 {cs : CS} {σ : MM} {a : Nat} (h : mK σ a = 6) : mF cs σ a = .inl (cs 0, mN σ a, .inl (mI σ a)) := by simp [mF, h]
theorem mF_7 {cs : CS} {σ : MM} {a : Nat} (h : mK σ a = 7) : mF cs σ a = .inl (cs 1, mN σ a, .inr (.inl (mL σ a))) := by simp [mF, h]
theorem mF_8 {cs : CS} {σ : MM} {a : Nat} (h : mK σ a = 8) : mF cs σ a = .inl (cs 2, mN σ a, .inl (mI σ a)) := by simp [mF, h]
theorem mF_9 {cs : CS} {σ : MM} {a : Nat} (h : mK σ a = 9) : mF cs σ a = .inl (cs 3, mN σ a, .inr (.inr (.inr (.inr (mR σ a))))) := by simp [mF, h]
theorem mF_10 {cs : CS} {σ : MM} {a : Nat} (h : mK σ a = 10) : mF cs σ a = .inl (cs 4, mN σ a, .inr (.inr (.inr (.inr (mR σ a))))) := by simp [mF, h]
theorem mF_congr {cs : CS} {σ τ : MM} {b : Nat} (h1 : mK σ b = mK τ b) (h2 : mN σ b = mN τ b) (h3 : mI σ b = mI τ b) (h4 : mL σ b = mL τ b) (h5 : mR σ b = mR τ b) : mF cs σ b = mF cs τ b := by unfold mF; rw [h1, h2, h3, h4, h5]
theorem mF_sI_ne {cs : CS} {σ : MM} {a b k : Nat} {v} (h : b ≠ a) : mF cs (sI σ a k v) b = mF cs σ b := mF_congr rfl rfl (va_up_ne _ _ h) rfl rfl
theorem mF_sL_ne {cs : CS} {σ : MM} {a b k : Nat} {v} (h : b ≠ a) : mF cs (sL σ a k v) b = mF cs σ b := mF_congr rfl rfl rfl (va_up_ne _ _ h) rfl
theorem mF_sR_ne {cs : CS} {σ : MM} {a b k : Nat} {v} (h : b ≠ a) : mF cs (sR σ a k v) b = mF cs σ b := mF_congr rfl rfl rfl rfl (va_up_ne _ _ h)
theorem mF_sN_ne {cs : CS} {σ : MM} {a b kd n : Nat} (h : b ≠ a) : mF cs (sN σ a kd n) b = mF cs σ b := mF_congr (va_up_ne _ _ h) (va_up_ne _ _ h) (va_up_ne _ _ h) (va_up_ne _ _ h) (va_up_ne _ _ h)
def NW (U : State) : Prop := va_Nw (.methodLinkNest "WorkCoder$Rule" 32 ⟨"WorkCoder", "bit", "(JI)I"⟩ "WorkCoder") U ∧ va_Nw (.methodLinkNest "WorkCoder$Rule" 36 ⟨"WorkCoder", "withBit", "(JII)J"⟩ "WorkCoder") U ∧ va_Nw (.methodLinkNest "WorkCoder$Scheme" 32 ⟨"WorkCoder", "bit", "(JI)I"⟩ "WorkCoder") U ∧ va_AO "WorkCoder$Item" U ∧ va_AO "WorkCoder$Rule" U
theorem NW.warm {s U : State} (hW : s.WarmedH U.vm) (h : NW s) : NW U := ⟨va_Nw.warmM hW h.1, va_Nw.warmM hW h.2.1, va_Nw.warmM hW h.2.2.1, va_AO.moved hW.alike h.2.2.2.1, va_AO.moved hW.alike h.2.2.2.2⟩
theorem NW.same {s U : State} (hW : s.vm = U.vm) (h : NW s) : NW U := ⟨va_Nw.same rfl hW h.1, va_Nw.same rfl hW h.2.1, va_Nw.same rfl hW h.2.2.1, va_AO.moved (by rw [hW]; exact Vm.Alike.refl _) h.2.2.2.1, va_AO.moved (by rw [hW]; exact Vm.Alike.refl _) h.2.2.2.2⟩
def PH (D : va_G) (cs : CS) (A : Nat → Prop) (σ : MM) (H : Heap) : Prop := ∃ L : List Nat, (∀ a, a ∈ L ↔ mK σ a ≠ 0) ∧ va_P D vwCl ([] ++ va_pl L (mF cs σ)) H ∧ va_D A ([] ++ va_pl L (mF cs σ))
def EN (D : va_G) (cs : CS) (A : Nat → Prop) (U : State) : Prop := va_K D vwCl (csT cs) U ∧ (∀ q, U.heap.size ≤ q → A q) ∧ NW U
abbrev mB (D : va_G) (cs : CS) (A : Nat → Prop) : MM → State → Prop := fun σ t => PH D cs A σ t.heap
abbrev mP (D : va_G) (cs : CS) (A : Nat → Prop) (σ : MM) : State → Prop := fun U => PH D cs A σ U.heap ∧ EN D cs A U
abbrev ix (i : Int32) : Nat := i.toNatClampNeg
def bz (x : Int32) : Prop := x = 0 ∨ x = 1
def CXM (p : Program) (s : State) (m : MethodId) (args : Array Value) (meth : Method) (c : Code) (cc : ByteArray) (nL : Nat) (ret : Option FieldType) (nm own : String) (Ts : List Cond) (D : va_G) (cs : CS) (A : Nat → Prop) : Prop := p.tables.exec = Jvm.exec ∧ c.code = cc ∧ c.maxLocals = nL ∧ meth.sig.returnType = ret ∧ meth.name = nm ∧ s.vm.findClass own = some m.cls ∧ (∀ w ∈ Ts, w.before args s = true) ∧ meth.locks = false ∧ EN D cs A s
theorem PH.blind {D : va_G} {cs : CS} {A : Nat → Prop} {σ : MM} {av : List Value} : FrameBlind (va_Pc av (mP D cs A σ)) := fun a U g mk q => by
  obtain ⟨q0, qM, qK, qA, qN⟩ := q
  exact ⟨q0, qM, va_K.moved (u := U) (U := U.calling g mk a) (Vm.Alike.refl U.vm) qK, qA, NW.same (s := U) (U := U.calling g mk a) rfl qN⟩
theorem PH.recv {D : va_G} {cs : CS} {A : Nat → Prop} {σ : MM} {H : Heap} {s : State} {tys : List (ClassId × FieldType)} {b ci : Nat} {fs : List Value} {q : vw_C} (hM : PH D cs A σ H) (hK : va_K D vwCl tys s) (hk : mK σ b ≠ 0) (he : mF cs σ b = .inr (ci, fs)) (hc : vwCl[ci]? = some q) : ∃ cell : Cell, H[b]? = some cell ∧ cell.vm.isStatics = false ∧ s.vm.findClass q.1 = some cell.cls := by
  obtain ⟨L, hL, hP, hD⟩ := hM
  obtain ⟨q0, hq⟩ := va_pl_get (X := []) (f := mF cs σ) ((hL b).mpr hk)
  exact va_recv hK hP hc (hq.trans (by rw [he]))
section MM0
variable {p : Program} {l : Launch} {e : Env} {R : Room} {s : State} {m : MethodId} {args : Array Value} {below : List Frame} {meth : Method} {c : Code} {H : Heap} {locs : List Loc} {cells slots : Nat} {Q : State → Prop}
variable {cc : ByteArray} {pc : Nat} {ls : Array Slot} {rest st0 : List Value} {D : va_G} {cs : CS} {A : Nat → Prop} {a : Nat} {tys : List (ClassId × FieldType)} {σ : MM} {H0 : Heap}
theorem mm_get (hx : p.tables.exec = Jvm.exec) (hb : c.code = cc) {own C : String} {T : u_T} {N ci index : Nat} {Ts : List Cond} (hts : ∀ w ∈ Ts, w.before args s = true) (hin : ∀ w ∈ u_ws C T N, w ∈ Ts) (hown : s.vm.findClass own = some m.cls) (hK : va_K D vwCl tys s) (hM : PH D cs A σ H) {fs : List Value} (he : mF cs σ a = .inr (ci, fs)) (hne : mK σ a ≠ 0) (hc : vwCl[ci]? = some (C, T, N)) (k : Nat) (hk : k < N) (hlink : (Cond.fieldLink own index (T k).1 (T k).2.1 (T k).2.2.1).before args s = true) {v : Value} (hv : fs[k]? = some v) (hdg : decode cc pc = .ok (.getfield index, 3))
    (kk : W p l e R s m args below meth c H locs cells slots Q (F0 m (pc + 3) ls (v :: rest))) : W p l e R s m args below meth c H locs cells slots Q (F0 m pc ls (.ref a :: rest)) := by
  obtain ⟨L, hL, hP, hD⟩ := hM
  obtain ⟨q0, hq⟩ := va_pl_get (X := []) (f := mF cs σ) ((hL a).mpr hne)
  exact va_get hx hb hts hin hown hK hP q0 (hq.trans (by rw [he])) hc k hk hlink (fun _ h => h) hv hdg kk
theorem mm_put (hx : p.tables.exec = Jvm.exec) (hb : c.code = cc) {own C : String} {T : u_T} {N ci index : Nat} {Ts : List Cond} (hts : ∀ w ∈ Ts, w.before args s = true) (hin : ∀ w ∈ u_ws C T N, w ∈ Ts) (ty0 : Nat → FieldType) (hty : ∀ k, k < N → parseFieldDescriptor (T k).2.2.1 = some (ty0 k)) (hnm : ∀ a, a < N → ∀ b, b < N → a ≠ b → (T a).2.1 ≠ (T b).2.1) (hown : s.vm.findClass own = some m.cls) (hK : va_K D vwCl tys s) (hM : PH D cs A σ H) (hS : va_S A H0 H locs) {σ1 : MM} {fs : List Value} {v : Value} (he : mF cs σ a = .inr (ci, fs)) (hne : mK σ a ≠ 0) (hc : vwCl[ci]? = some (C, T, N)) (k : Nat) (hk : k < N) (hlink : (Cond.fieldLink own index (T k).1 (T k).2.1 (T k).2.2.1).before args s = true) (hfin : (T k).2.2.2 = false) {ty : FieldType} (hd : parseFieldDescriptor (T k).2.2.1 = some ty) (hn : narrow ty v = v) (hfit : fits ty v = true) (hl : k < fs.length) (e1 : mF cs σ1 a = .inr (ci, fs.set k v)) (e2 : ∀ b, b ≠ a → mF cs σ1 b = mF cs σ b) (e3 : mK σ1 = mK σ)
    (hdg : decode cc pc = .ok (.putfield index, 3)) (kk : ∀ (H1 : Heap) (locs1 : List Loc), PH D cs A σ1 H1 → va_S A H0 H1 locs1 → W p l e R s m args below meth c H1 locs1 cells slots Q (F0 m (pc + 3) ls rest)) : W p l e R s m args below meth c H locs cells slots Q (F0 m pc ls (v :: .ref a :: rest)) := by
  obtain ⟨L, hL, hP, hD⟩ := hM
  have haL := (hL a).mpr hne
  obtain ⟨q0, hq⟩ := va_pl_get (X := []) (f := mF cs σ) haL
  refine va_put hx hb hts hin ty0 hty hnm hown hK hP hD hS q0 (hq.trans (by rw [he])) hc k hk hlink (fun _ h => h) hfin hd hn hfit hl hdg (fun H1 locs1 hP1 hD1 hS1 => ?_)
  rw [va_pl_set hD haL hq] at hP1 hD1
  have hF : va_up (mF cs σ) a (.inr (ci, fs.set k v)) = mF cs σ1 := by
    funext b
    by_cases hb : b = a
    · subst hb; rw [va_up_self, e1]
    · rw [va_up_ne _ _ hb, e2 b hb]
  rw [hF] at hP1 hD1
  exact kk H1 locs1 ⟨L, by rw [e3]; exact hL, hP1, hD1⟩ hS1

theorem mm_putF (hx : p.tables.exec = Jvm.exec) (hb : c.code = cc) {own C : String} {T : u_T} {N ci index : Nat} {Ts : List Cond} (hts : ∀ w ∈ Ts, w.before args s = true) (hin : ∀ w ∈ u_ws C T N, w ∈ Ts) (ty0 : Nat → FieldType) (hty : ∀ k, k < N → parseFieldDescriptor (T k).2.2.1 = some (ty0 k)) (hnm : ∀ a, a < N → ∀ b, b < N → a ≠ b → (T a).2.1 ≠ (T b).2.1) (hown : s.vm.findClass own = some m.cls) (hK : va_K D vwCl tys s) (hM : PH D cs A σ H) (hS : va_S A H0 H locs) {σ1 : MM} {fs : List Value} {v : Value} (he : mF cs σ a = .inr (ci, fs)) (hne : mK σ a ≠ 0) (hc : vwCl[ci]? = some (C, T, N)) (k : Nat) (hk : k < N) (hlink : (Cond.fieldLink own index (T k).1 (T k).2.1 (T k).2.2.1).before args s = true) (hfin : (T k).2.2.2 = true) (hin2 : meth.name = "<init>") (hdecl : (T k).1 = own) {ty : FieldType} (hd : parseFieldDescriptor (T k).2.2.1 = some ty) (hn : narrow ty v = v) (hfit : fits ty v = true) (hl : k < fs.length) (e1 : mF cs σ1 a = .inr (ci, fs.set k v)) (e2 : ∀ b, b ≠ a → mF cs σ1 b = mF cs σ b) (e3 : mK σ1 = mK σ)
    (hdg : decode cc pc = .ok (.putfield index, 3)) (kk : ∀ (H1 : Heap) (locs1 : List Loc), PH D cs A σ1 H1 → va_S A H0 H1 locs1 → W p l e R s m args below meth c H1 locs1 cells slots Q (F0 m (pc + 3) ls rest)) : W p l e R s m args below meth c H locs cells slots Q (F0 m pc ls (v :: .ref a :: rest)) := by
  obtain ⟨L, hL, hP, hD⟩ := hM
  have haL := (hL a).mpr hne
  obtain ⟨q0, hq⟩ := va_pl_get (X := []) (f := mF cs σ) haL
  refine va_putF hx hb hts hin ty0 hty hnm hown hK hP hD hS q0 (hq.trans (by rw [he])) hc k hk hlink (fun _ h => h) hfin hin2 hdecl hd hn hfit hl hdg (fun H1 locs1 hP1 hD1 hS1 => ?_)
  rw [va_pl_set hD haL hq] at hP1 hD1
  have hF : va_up (mF cs σ) a (.inr (ci, fs.set k v)) = mF cs σ1 := by
    funext b
    by_cases hb : b = a
    · subst hb; rw [va_up_self, e1]
    · rw [va_up_ne _ _ hb, e2 b hb]
  rw [hF] at hP1 hD1
  exact kk H1 locs1 ⟨L, by rw [e3]; exact hL, hP1, hD1⟩ hS1
theorem mm_iald (hx : p.tables.exec = Jvm.exec) (hb : c.code = cc) (hK : va_K D vwCl (csT cs) s) (hM : PH D cs A σ H) (hk : mK σ a = 6) {i : Int32} (hin : vp_in i (mN σ a)) (hdg : decode cc pc = .ok (.iaload, 1))
    (kk : W p l e R s m args below meth c H locs cells slots Q (F0 m (pc + 1) ls (.int (mI σ a (ix i)) :: rest))) : W p l e R s m args below meth c H locs cells slots Q (F0 m pc ls (.int i :: .ref a :: rest)) := by
  obtain ⟨L, hL, hP, hD⟩ := hM
  obtain ⟨q0, hq⟩ := va_pl_get (X := []) (f := mF cs σ) ((hL a).mpr (by rw [hk]; decide))
  exact va_iald hx hb hK hP q0 0 (hq.trans (by rw [mF_6 hk])) rfl hin hdg kk
theorem mm_zald (hx : p.tables.exec = Jvm.exec) (hb : c.code = cc) (hK : va_K D vwCl (csT cs) s) (hM : PH D cs A σ H) (hk : mK σ a = 8) {i : Int32} (hin : vp_in i (mN σ a)) (hdg : decode cc pc = .ok (.baload, 1))
    (kk : W p l e R s m args below meth c H locs cells slots Q (F0 m (pc + 1) ls (.int (mI σ a (ix i)) :: rest))) : W p l e R s m args below meth c H locs cells slots Q (F0 m pc ls (.int i :: .ref a :: rest)) := by
  obtain ⟨L, hL, hP, hD⟩ := hM
  obtain ⟨q0, hq⟩ := va_pl_get (X := []) (f := mF cs σ) ((hL a).mpr (by rw [hk]; decide))
  exact va_zald hx hb hK hP q0 2 (hq.trans (by rw [mF_8 hk])) rfl hin hdg kk
theorem mm_lald (hx : p.tables.exec = Jvm.exec) (hb : c.code = cc) (hK : va_K D vwCl (csT cs) s) (hM : PH D cs A σ H) (hk : mK σ a = 7) {i : Int32} (hin : vp_in i (mN σ a)) (hdg : decode cc pc = .ok (.laload, 1))
    (kk : W p l e R s m args below meth c H locs cells slots Q (F0 m (pc + 1) ls (.long (mL σ a (ix i)) :: rest))) : W p l e R s m args below meth c H locs cells slots Q (F0 m pc ls (.int i :: .ref a :: rest)) := by
  obtain ⟨L, hL, hP, hD⟩ := hM
  obtain ⟨q0, hq⟩ := va_pl_get (X := []) (f := mF cs σ) ((hL a).mpr (by rw [hk]; decide))
  exact va_lald hx hb hK hP q0 1 (hq.trans (by rw [mF_7 hk])) rfl hin hdg kk
theorem mm_aald9 (hx : p.tables.exec = Jvm.exec) (hb : c.code = cc) (hK : va_K D vwCl (csT cs) s) (hM : PH D cs A σ H) (hk : mK σ a = 9) {i : Int32} (hin : vp_in i (mN σ a)) (hdg : decode cc pc = .ok (.aaload, 1))
    (kk : ∀ r : Option Nat, r = mR σ a (ix i) → W p l e R s m args below meth c H locs cells slots Q (F0 m (pc + 1) ls (va_rf r :: rest))) : W p l e R s m args below meth c H locs cells slots Q (F0 m pc ls (.int i :: .ref a :: rest)) := by
  obtain ⟨L, hL, hP, hD⟩ := hM
  obtain ⟨q0, hq⟩ := va_pl_get (X := []) (f := mF cs σ) ((hL a).mpr (by rw [hk]; decide))
  exact va_aldq hx hb hK hP q0 3 (hq.trans (by rw [mF_9 hk])) rfl hin hdg (kk _ rfl)
theorem mm_aald10 (hx : p.tables.exec = Jvm.exec) (hb : c.code = cc) (hK : va_K D vwCl (csT cs) s) (hM : PH D cs A σ H) (hk : mK σ a = 10) {i : Int32} (hin : vp_in i (mN σ a)) (hdg : decode cc pc = .ok (.aaload, 1))
    (kk : ∀ r : Option Nat, r = mR σ a (ix i) → W p l e R s m args below meth c H locs cells slots Q (F0 m (pc + 1) ls (va_rf r :: rest))) : W p l e R s m args below meth c H locs cells slots Q (F0 m pc ls (.int i :: .ref a :: rest)) := by
  obtain ⟨L, hL, hP, hD⟩ := hM
  obtain ⟨q0, hq⟩ := va_pl_get (X := []) (f := mF cs σ) ((hL a).mpr (by rw [hk]; decide))
  exact va_aldq hx hb hK hP q0 4 (hq.trans (by rw [mF_10 hk])) rfl hin hdg (kk _ rfl)
theorem mm_alen6 (hx : p.tables.exec = Jvm.exec) (hb : c.code = cc) (hK : va_K D vwCl (csT cs) s) (hM : PH D cs A σ H) (hk : mK σ a = 6) (hdg : decode cc pc = .ok (.arraylength, 1))
    (kk : W p l e R s m args below meth c H locs cells slots Q (F0 m (pc + 1) ls (.int (nI (mN σ a)) :: rest))) : W p l e R s m args below meth c H locs cells slots Q (F0 m pc ls (.ref a :: rest)) := by
  obtain ⟨L, hL, hP, hD⟩ := hM
  obtain ⟨q0, hq⟩ := va_pl_get (X := []) (f := mF cs σ) ((hL a).mpr (by rw [hk]; decide))
  exact va_alen (x := (mN σ a, .inl (mI σ a))) hx hb hK hP q0 0 (hq.trans (by rw [mF_6 hk])) rfl rfl hdg kk
theorem mm_alen7 (hx : p.tables.exec = Jvm.exec) (hb : c.code = cc) (hK : va_K D vwCl (csT cs) s) (hM : PH D cs A σ H) (hk : mK σ a = 7) (hdg : decode cc pc = .ok (.arraylength, 1))
    (kk : W p l e R s m args below meth c H locs cells slots Q (F0 m (pc + 1) ls (.int (nI (mN σ a)) :: rest))) : W p l e R s m args below meth c H locs cells slots Q (F0 m pc ls (.ref a :: rest)) := by
  obtain ⟨L, hL, hP, hD⟩ := hM
  obtain ⟨q0, hq⟩ := va_pl_get (X := []) (f := mF cs σ) ((hL a).mpr (by rw [hk]; decide))
  exact va_alen (x := (mN σ a, .inr (.inl (mL σ a)))) hx hb hK hP q0 1 (hq.trans (by rw [mF_7 hk])) rfl rfl hdg kk
theorem mm_alen8 (hx : p.tables.exec = Jvm.exec) (hb : c.code = cc) (hK : va_K D vwCl (csT cs) s) (hM : PH D cs A σ H) (hk : mK σ a = 8) (hdg : decode cc pc = .ok (.arraylength, 1))
    (kk : W p l e R s m args below meth c H locs cells slots Q (F0 m (pc + 1) ls (.int (nI (mN σ a)) :: rest))) : W p l e R s m args below meth c H locs cells slots Q (F0 m pc ls (.ref a :: rest)) := by
  obtain ⟨L, hL, hP, hD⟩ := hM
  obtain ⟨q0, hq⟩ := va_pl_get (X := []) (f := mF cs σ) ((hL a).mpr (by rw [hk]; decide))
  exact va_alen (x := (mN σ a, .inl (mI σ a))) hx hb hK hP q0 2 (hq.trans (by rw [mF_8 hk])) rfl rfl hdg kk
theorem mm_alen9 (hx : p.tables.exec = Jvm.exec) (hb : c.code = cc) (hK : va_K D vwCl (csT cs) s) (hM : PH D cs A σ H) (hk : mK σ a = 9) (hdg : decode cc pc = .ok (.arraylength, 1))
    (kk : W p l e R s m args below meth c H locs cells slots Q (F0 m (pc + 1) ls (.int (nI (mN σ a)) :: rest))) : W p l e R s m args below meth c H locs cells slots Q (F0 m pc ls (.ref a :: rest)) := by
  obtain ⟨L, hL, hP, hD⟩ := hM
  obtain ⟨q0, hq⟩ := va_pl_get (X := []) (f := mF cs σ) ((hL a).mpr (by rw [hk]; decide))
  exact va_alen (x := (mN σ a, .inr (.inr (.inr (.inr (mR σ a)))))) hx hb hK hP q0 3 (hq.trans (by rw [mF_9 hk])) rfl rfl hdg kk
theorem mm_alen10 (hx : p.tables.exec = Jvm.exec) (hb : c.code = cc) (hK : va_K D vwCl (csT cs) s) (hM : PH D cs A σ H) (hk : mK σ a = 10) (hdg : decode cc pc = .ok (.arraylength, 1))
    (kk : W p l e R s m args below meth c H locs cells slots Q (F0 m (pc + 1) ls (.int (nI (mN σ a)) :: rest))) : W p l e R s m args below meth c H locs cells slots Q (F0 m pc ls (.ref a :: rest)) := by
  obtain ⟨L, hL, hP, hD⟩ := hM
  obtain ⟨q0, hq⟩ := va_pl_get (X := []) (f := mF cs σ) ((hL a).mpr (by rw [hk]; decide))
  exact va_alen (x := (mN σ a, .inr (.inr (.inr (.inr (mR σ a)))))) hx hb hK hP q0 4 (hq.trans (by rw [mF_10 hk])) rfl rfl hdg kk
theorem mm_iast (hx : p.tables.exec = Jvm.exec) (hb : c.code = cc) (hK : va_K D vwCl (csT cs) s) (hM : PH D cs A σ H) (hS : va_S A H0 H locs) (hk : mK σ a = 6) {i : Int32} {x : Int32} (hin : vp_in i (mN σ a)) (hdg : decode cc pc = .ok (.iastore, 1))
    (kk : ∀ (H1 : Heap) (locs1 : List Loc), PH D cs A (sI σ a (ix i) x) H1 → va_S A H0 H1 locs1 → W p l e R s m args below meth c H1 locs1 cells slots Q (F0 m (pc + 1) ls rest)) : W p l e R s m args below meth c H locs cells slots Q (F0 m pc ls (.int x :: .int i :: .ref a :: rest)) := by
  obtain ⟨L, hL, hP, hD⟩ := hM
  have haL := (hL a).mpr (by rw [hk]; decide)
  obtain ⟨q0, hq⟩ := va_pl_get (X := []) (f := mF cs σ) haL
  refine va_iast hx hb hK hP hD hS q0 0 (hq.trans (by rw [mF_6 hk])) rfl hin hdg (fun H1 locs1 hP1 hD1 hS1 => ?_)
  rw [va_pl_set hD haL hq] at hP1 hD1
  have hF : va_up (mF cs σ) a (.inl (cs 0, mN σ a, .inl (upd (mI σ a) (ix i) x))) = mF cs (sI σ a (ix i) x) := by
    funext b
    by_cases hb : b = a
    · subst hb; rw [va_up_self, mF_6 (show mK (sI σ b (ix i) x) b = 6 from hk)]
      simp only [mI, mN, sI, va_up_self]; rfl
    · rw [va_up_ne _ _ hb, mF_sI_ne hb]
  rw [hF] at hP1 hD1
  exact kk H1 locs1 ⟨L, hL, hP1, hD1⟩ hS1
theorem mm_last (hx : p.tables.exec = Jvm.exec) (hb : c.code = cc) (hK : va_K D vwCl (csT cs) s) (hM : PH D cs A σ H) (hS : va_S A H0 H locs) (hk : mK σ a = 7) {i : Int32} {x : Int64} (hin : vp_in i (mN σ a)) (hdg : decode cc pc = .ok (.lastore, 1))
    (kk : ∀ (H1 : Heap) (locs1 : List Loc), PH D cs A (sL σ a (ix i) x) H1 → va_S A H0 H1 locs1 → W p l e R s m args below meth c H1 locs1 cells slots Q (F0 m (pc + 1) ls rest)) : W p l e R s m args below meth c H locs cells slots Q (F0 m pc ls (.long x :: .int i :: .ref a :: rest)) := by
  obtain ⟨L, hL, hP, hD⟩ := hM
  have haL := (hL a).mpr (by rw [hk]; decide)
  obtain ⟨q0, hq⟩ := va_pl_get (X := []) (f := mF cs σ) haL
  refine va_last hx hb hK hP hD hS q0 1 (hq.trans (by rw [mF_7 hk])) rfl hin hdg (fun H1 locs1 hP1 hD1 hS1 => ?_)
  rw [va_pl_set hD haL hq] at hP1 hD1
  have hF : va_up (mF cs σ) a (.inl (cs 1, mN σ a, .inr (.inl (vp_updL (mL σ a) (ix i) x)))) = mF cs (sL σ a (ix i) x) := by
    funext b
    by_cases hb : b = a
    · subst hb; rw [va_up_self, mF_7 (show mK (sL σ b (ix i) x) b = 7 from hk)]
      simp only [mL, mN, sL, va_up_self]; rfl
    · rw [va_up_ne _ _ hb, mF_sL_ne hb]
  rw [hF] at hP1 hD1
  exact kk H1 locs1 ⟨L, hL, hP1, hD1⟩ hS1
theorem mm_zast (hx : p.tables.exec = Jvm.exec) (hb : c.code = cc) (hK : va_K D vwCl (csT cs) s) (hM : PH D cs A σ H) (hS : va_S A H0 H locs) (hk : mK σ a = 8) {i : Int32} {x : Int32} (hin : vp_in i (mN σ a)) (hz : vp_nar .boolean x = x) (hdg : decode cc pc = .ok (.bastore, 1))
    (kk : ∀ (H1 : Heap) (locs1 : List Loc), PH D cs A (sI σ a (ix i) x) H1 → va_S A H0 H1 locs1 → W p l e R s m args below meth c H1 locs1 cells slots Q (F0 m (pc + 1) ls rest)) : W p l e R s m args below meth c H locs cells slots Q (F0 m pc ls (.int x :: .int i :: .ref a :: rest)) := by
  obtain ⟨L, hL, hP, hD⟩ := hM
  have haL := (hL a).mpr (by rw [hk]; decide)
  obtain ⟨q0, hq⟩ := va_pl_get (X := []) (f := mF cs σ) haL
  refine va_zast hx hb hK hP hD hS q0 2 (hq.trans (by rw [mF_8 hk])) rfl hin hdg (fun H1 locs1 hP1 hD1 hS1 => ?_)
  rw [va_pl_set hD haL hq] at hP1 hD1
  have hF : va_up (mF cs σ) a (.inl (cs 2, mN σ a, .inl (upd (mI σ a) (ix i) (vp_nar .boolean x)))) = mF cs (sI σ a (ix i) x) := by
    funext b
    by_cases hb : b = a
    · subst hb; rw [va_up_self, mF_8 (show mK (sI σ b (ix i) x) b = 8 from hk)]
      simp only [mI, mN, sI, va_up_self, hz]; rfl
    · rw [va_up_ne _ _ hb, mF_sI_ne hb]
  rw [hF] at hP1 hD1
  exact kk H1 locs1 ⟨L, hL, hP1, hD1⟩ hS1
theorem mm_aast9 (hx : p.tables.exec = Jvm.exec) (hb : c.code = cc) (hK : va_K D vwCl (csT cs) s) (hM : PH D cs A σ H) (hS : va_S A H0 H locs) (hk : mK σ a = 9) {i : Int32} {x : Nat} (hkx : mK σ x = 1) (hin : vp_in i (mN σ a)) (hdg : decode cc pc = .ok (.aastore, 1))
    (kk : ∀ (H1 : Heap) (locs1 : List Loc), PH D cs A (sR σ a (ix i) (some x)) H1 → va_S A H0 H1 locs1 → W p l e R s m args below meth c H1 locs1 cells slots Q (F0 m (pc + 1) ls rest)) : W p l e R s m args below meth c H locs cells slots Q (F0 m pc ls (.ref x :: .int i :: .ref a :: rest)) := by
  obtain ⟨L, hL, hP, hD⟩ := hM
  have haL := (hL a).mpr (by rw [hk]; decide)
  obtain ⟨q0, hq⟩ := va_pl_get (X := []) (f := mF cs σ) haL
  obtain ⟨q1, hq1⟩ := va_pl_get (X := []) (f := mF cs σ) ((hL x).mpr (by rw [hkx]; decide))
  refine va_astq (r := (RX0, TX0, 12)) hx hb hK hP hD hS q0 3 q1 0 (hq.trans (by rw [mF_9 hk])) rfl (hq1.trans (by rw [mF_1 hkx])) rfl hin hdg (fun H1 locs1 hP1 hD1 hS1 => ?_)
  rw [va_pl_set hD haL hq] at hP1 hD1
  have hF : va_up (mF cs σ) a (.inl (cs 3, mN σ a, .inr (.inr (.inr (.inr (va_up (mR σ a) (ix i) (some x))))))) = mF cs (sR σ a (ix i) (some x)) := by
    funext b
    by_cases hb : b = a
    · subst hb; rw [va_up_self, mF_9 (show mK (sR σ b (ix i) (some x)) b = 9 from hk)]
      simp only [mR, mN, sR, va_up_self]
    · rw [va_up_ne _ _ hb, mF_sR_ne hb]
  rw [hF] at hP1 hD1
  exact kk H1 locs1 ⟨L, hL, hP1, hD1⟩ hS1
theorem mm_aast10 (hx : p.tables.exec = Jvm.exec) (hb : c.code = cc) (hK : va_K D vwCl (csT cs) s) (hM : PH D cs A σ H) (hS : va_S A H0 H locs) (hk : mK σ a = 10) {i : Int32} {x : Nat} (hkx : mK σ x = 2) (hin : vp_in i (mN σ a)) (hdg : decode cc pc = .ok (.aastore, 1))
    (kk : ∀ (H1 : Heap) (locs1 : List Loc), PH D cs A (sR σ a (ix i) (some x)) H1 → va_S A H0 H1 locs1 → W p l e R s m args below meth c H1 locs1 cells slots Q (F0 m (pc + 1) ls rest)) : W p l e R s m args below meth c H locs cells slots Q (F0 m pc ls (.ref x :: .int i :: .ref a :: rest)) := by
  obtain ⟨L, hL, hP, hD⟩ := hM
  have haL := (hL a).mpr (by rw [hk]; decide)
  obtain ⟨q0, hq⟩ := va_pl_get (X := []) (f := mF cs σ) haL
  obtain ⟨q1, hq1⟩ := va_pl_get (X := []) (f := mF cs σ) ((hL x).mpr (by rw [hkx]; decide))
  refine va_astq (r := (RX1, TX1, 6)) hx hb hK hP hD hS q0 4 q1 1 (hq.trans (by rw [mF_10 hk])) rfl (hq1.trans (by rw [mF_2 hkx])) rfl hin hdg (fun H1 locs1 hP1 hD1 hS1 => ?_)
  rw [va_pl_set hD haL hq] at hP1 hD1
  have hF : va_up (mF cs σ) a (.inl (cs 4, mN σ a, .inr (.inr (.inr (.inr (va_up (mR σ a) (ix i) (some x))))))) = mF cs (sR σ a (ix i) (some x)) := by
    funext b
    by_cases hb : b = a
    · subst hb; rw [va_up_self, mF_10 (show mK (sR σ b (ix i) (some x)) b = 10 from hk)]
      simp only [mR, mN, sR, va_up_self]
    · rw [va_up_ne _ _ hb, mF_sR_ne hb]
  rw [hF] at hP1 hD1
  exact kk H1 locs1 ⟨L, hL, hP1, hD1⟩ hS1
theorem PH.fresh {hM : PH D cs A σ H} : mK σ H.size = 0 := by
  obtain ⟨L, hL, hP, hD⟩ := hM
  apply Classical.byContradiction
  intro h
  have h1 := va_pl_fresh hP (Nat.le_refl H.size)
  exact h1 ((hL H.size).mpr h)
theorem PH.push {H1 : Heap} {q kd n : Nat} (hM : PH D cs A σ H) (h0 : mK σ q = 0) (hkd : kd ≠ 0) (L : List Nat) (hL : ∀ a, a ∈ L ↔ mK σ a ≠ 0) {e0 : va_E} (he : mF cs (sN σ q kd n) q = e0) (hP1 : va_P D vwCl (([] ++ va_pl L (mF cs σ)) ++ [(q, e0)]) H1) (hD1 : va_D A (([] ++ va_pl L (mF cs σ)) ++ [(q, e0)])) : PH D cs A (sN σ q kd n) H1 := by
  have hq : q ∉ L := fun h => ((hL q).mp h) h0
  rw [List.append_assoc, va_pl_push hq] at hP1 hD1
  have hF : va_pl (L ++ [q]) (va_up (mF cs σ) q e0) = va_pl (L ++ [q]) (mF cs (sN σ q kd n)) := va_pl_congr (fun b => by
    by_cases hb : b = q
    · subst hb; rw [va_up_self, he]
    · rw [va_up_ne _ _ hb, mF_sN_ne hb])
  rw [hF] at hP1 hD1
  refine ⟨L ++ [q], fun a => ?_, hP1, hD1⟩
  rw [List.mem_append, List.mem_singleton, hL a, mK_sN]
  by_cases ha : a = q
  · simp [ha, hkd]
  · simp [ha]
end MM0
