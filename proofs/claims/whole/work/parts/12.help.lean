
abbrev lShl (x : Int64) (y : Int32) : Int64 := x <<< (y.toInt64 &&& 63)
abbrev lShr (x : Int64) (y : Int32) : Int64 := x >>> (y.toInt64 &&& 63)
abbrev lUsh (x : Int64) (y : Int32) : Int64 := (x.toUInt64 >>> (y.toInt64.toUInt64 &&& Int64.toUInt64 63)).toInt64
theorem mB_of {D : va_G} {cs : CS} {A : Nat → Prop} {σ : MM} {t : State} {H : Heap} (ht : t.heap = H) (hM : PH D cs A σ H) : mB D cs A σ t := by
  show PH D cs A σ t.heap
  rw [ht]; exact hM
theorem cat_sum : ∀ l : List Value, (l.map fun v => v.category).sum ≤ 2 * l.length
  | [] => Nat.le_refl 0
  | v :: l => by
    have h1 := cat_sum l
    have h2 := lv_cat v
    simp only [List.map_cons, List.sum_cons, List.length_cons]
    omega
theorem cat_le {l : List Value} (h : 2 * l.length ≤ 8) : (l.map fun v => v.category).sum ≤ 8 := Nat.le_trans (cat_sum l) h
theorem cat_le13 {l : List Value} {n : Nat} (h : 2 * l.length + 13 ≤ n) : (l.map fun v => v.category).sum + 13 ≤ n := by have := cat_sum l; omega
theorem bz_narrow {x : Int32} (h : bz x) : narrow .boolean (.int x) = .int x := by rcases h with h | h <;> subst h <;> rfl
theorem bz_nar {x : Int32} (h : bz x) : vp_nar .boolean x = x := by rcases h with h | h <;> subst h <;> decide +kernel
theorem nl_ret (r : Option Nat) : va_rf r = .null ∨ ∃ a, va_rf r = .ref a := by
  cases r with
  | none => exact Or.inl rfl
  | some a => exact Or.inr ⟨a, rfl⟩
theorem mK_keep {σ : MM} {a q k kd n : Nat} (h : mK σ a = k) (hk : k ≠ 0) (hq : mK σ q = 0) : mK (sN σ q kd n) a = k := by
  rw [mK_sN]
  have hne : a ≠ q := fun e => hk (by rw [← h, e, hq])
  rw [if_neg hne, h]
theorem mK_new {σ : MM} {a kd n : Nat} (_ : mK σ a = 0) : mK (sN σ a kd n) a = kd := by rw [mK_sN, if_pos rfl]
theorem sw_c (x : Int32) (n : Nat) (hn : n < 2 ^ 30) : (x.toInt < 0 ∨ (n : Int) < x.toInt) ∨ ∃ j : Nat, j ≤ n ∧ x = nI j := by
  by_cases h : x.toInt < 0 ∨ (n : Int) < x.toInt
  · exact Or.inl h
  · refine Or.inr ⟨x.toInt.toNat, by omega, ?_⟩
    apply Int32.toInt_inj.mp
    rw [nI_toInt (by omega)]
    omega
theorem sw_5 (x : Int32) : (x.toInt < 0 ∨ 5 < x.toInt) ∨ x = 0 ∨ x = 1 ∨ x = 2 ∨ x = 3 ∨ x = 4 ∨ x = 5 := by
  rcases sw_c x 5 (by decide) with h | ⟨j, hj, rfl⟩
  · exact Or.inl h
  · rcases (show j = 0 ∨ j = 1 ∨ j = 2 ∨ j = 3 ∨ j = 4 ∨ j = 5 by omega) with rfl | rfl | rfl | rfl | rfl | rfl <;> simp [nI]
theorem sw_9 (x : Int32) : (x.toInt < 0 ∨ 9 < x.toInt) ∨ x = 0 ∨ x = 1 ∨ x = 2 ∨ x = 3 ∨ x = 4 ∨ x = 5 ∨ x = 6 ∨ x = 7 ∨ x = 8 ∨ x = 9 := by
  rcases sw_c x 9 (by decide) with h | ⟨j, hj, rfl⟩
  · exact Or.inl h
  · rcases (show j = 0 ∨ j = 1 ∨ j = 2 ∨ j = 3 ∨ j = 4 ∨ j = 5 ∨ j = 6 ∨ j = 7 ∨ j = 8 ∨ j = 9 by omega) with rfl | rfl | rfl | rfl | rfl | rfl | rfl | rfl | rfl | rfl <;> simp [nI]
theorem sw_28 (x : Int32) : (x.toInt < 0 ∨ 28 < x.toInt) ∨ x = 0 ∨ x = 1 ∨ x = 2 ∨ x = 3 ∨ x = 4 ∨ x = 5 ∨ x = 6 ∨ x = 7 ∨ x = 8 ∨ x = 9 ∨ x = 10 ∨ x = 11 ∨ x = 12 ∨ x = 13 ∨ x = 14 ∨ x = 15 ∨ x = 16 ∨ x = 17 ∨ x = 18 ∨ x = 19 ∨ x = 20 ∨ x = 21 ∨ x = 22 ∨ x = 23 ∨ x = 24 ∨ x = 25 ∨ x = 26 ∨ x = 27 ∨ x = 28 := by
  rcases sw_c x 28 (by decide) with h | ⟨j, hj, rfl⟩
  · exact Or.inl h
  · rcases (show j = 0 ∨ j = 1 ∨ j = 2 ∨ j = 3 ∨ j = 4 ∨ j = 5 ∨ j = 6 ∨ j = 7 ∨ j = 8 ∨ j = 9 ∨ j = 10 ∨ j = 11 ∨ j = 12 ∨ j = 13 ∨ j = 14 ∨ j = 15 ∨ j = 16 ∨ j = 17 ∨ j = 18 ∨ j = 19 ∨ j = 20 ∨ j = 21 ∨ j = 22 ∨ j = 23 ∨ j = 24 ∨ j = 25 ∨ j = 26 ∨ j = 27 ∨ j = 28 by omega) with rfl | rfl | rfl | rfl | rfl | rfl | rfl | rfl | rfl | rfl | rfl | rfl | rfl | rfl | rfl | rfl | rfl | rfl | rfl | rfl | rfl | rfl | rfl | rfl | rfl | rfl | rfl | rfl | rfl <;> simp [nI]
theorem rc0 {D : va_G} {cs : CS} {A : Nat → Prop} {σ : MM} {H : Heap} {s : State} {b : Nat} (hM : PH D cs A σ H) (hK : va_K D vwCl (csT cs) s) (hk : mK σ b = 1) : ∃ cell : Cell, H[b]? = some cell ∧ cell.vm.isStatics = false ∧ s.vm.findClass RX0 = some cell.cls := hM.recv hK (by rw [hk]; decide) (mF_1 hk) (q := (RX0, TX0, 12)) rfl
theorem rc1 {D : va_G} {cs : CS} {A : Nat → Prop} {σ : MM} {H : Heap} {s : State} {b : Nat} (hM : PH D cs A σ H) (hK : va_K D vwCl (csT cs) s) (hk : mK σ b = 2) : ∃ cell : Cell, H[b]? = some cell ∧ cell.vm.isStatics = false ∧ s.vm.findClass RX1 = some cell.cls := hM.recv hK (by rw [hk]; decide) (mF_2 hk) (q := (RX1, TX1, 6)) rfl
theorem rc2 {D : va_G} {cs : CS} {A : Nat → Prop} {σ : MM} {H : Heap} {s : State} {b : Nat} (hM : PH D cs A σ H) (hK : va_K D vwCl (csT cs) s) (hk : mK σ b = 3) : ∃ cell : Cell, H[b]? = some cell ∧ cell.vm.isStatics = false ∧ s.vm.findClass RX2 = some cell.cls := hM.recv hK (by rw [hk]; decide) (mF_3 hk) (q := (RX2, TX2, 3)) rfl
theorem rc3 {D : va_G} {cs : CS} {A : Nat → Prop} {σ : MM} {H : Heap} {s : State} {b : Nat} (hM : PH D cs A σ H) (hK : va_K D vwCl (csT cs) s) (hk : mK σ b = 4) : ∃ cell : Cell, H[b]? = some cell ∧ cell.vm.isStatics = false ∧ s.vm.findClass RX3 = some cell.cls := hM.recv hK (by rw [hk]; decide) (mF_4 hk) (q := (RX3, TX3, 12)) rfl
theorem rc4 {D : va_G} {cs : CS} {A : Nat → Prop} {σ : MM} {H : Heap} {s : State} {b : Nat} (hM : PH D cs A σ H) (hK : va_K D vwCl (csT cs) s) (hk : mK σ b = 5) : ∃ cell : Cell, H[b]? = some cell ∧ cell.vm.isStatics = false ∧ s.vm.findClass RX4 = some cell.cls := hM.recv hK (by rw [hk]; decide) (mF_5 hk) (q := (RX4, TX4, 34)) rfl
