def fCarry (S : MM) (x y z : Int32) : Int32 × MM := match vI (mN S 0) x, vI (mN S 1) y, vI 2 z with
  | some c, some o, some b => (b2i (bT (mL S 4 c) o), sL S 4 c (wB (mL S 4 c) o b))
  | _, _, _ => (-1, S)
theorem sm_of {x : Int64} (hx : ∀ k, 30 ≤ k → bT x k = false) : ∃ n, n < 2 ^ 30 ∧ x = lN n := by
  refine ⟨nn x, ?_, (lN_nn x).symm⟩
  exact Nat.lt_pow_two_of_testBit _ (fun i hi => hx i hi)
theorem lN_i32 (n : Nat) : (lN n).toInt32 = nI n := Int64.toInt32_ofNat' ..
theorem sm_bit {x : Int64} (hx : ∀ k, 30 ≤ k → bT x k = false) {o : Nat} (ho : o < 30) : (x.toInt32 >>> (nI o &&& 31)) &&& 1 = b2i (bT x o) := by
  obtain ⟨n, hn, rfl⟩ := sm_of hx
  have hs : ∀ n, n < 30 → ((nI n &&& 31).toBitVec.smod 32).toNat = n := by decide +kernel
  rw [lN_i32, pk_shrN (by omega) (nI o &&& 31) o (hs o ho), show (1 : Int32) = nI 1 from rfl]
  have h1 : nI (n / 2 ^ o) &&& nI 1 = nI (n / 2 ^ o % 2) := pk_andN (n := n / 2 ^ o) (Nat.lt_of_le_of_lt (Nat.div_le_self _ _) (by omega)) (m := nI 1) 1 (by decide)
  rw [h1]
  unfold bT
  rw [nn_lN (by omega), Nat.testBit_eq_decide_div_mod_eq]
  rcases Nat.mod_two_eq_zero_or_one (n / 2 ^ o) with e | e
  · rw [e]; rfl
  · rw [e]; rfl
theorem sm_zero {x : Int64} (hx : ∀ k, 30 ≤ k → bT x k = false) : x.toInt32 = 0 ↔ x = 0 := by
  obtain ⟨n, hn, rfl⟩ := sm_of hx
  rw [lN_i32, nI_z (by omega)]
  refine ⟨fun e => by rw [e]; rfl, fun e => ?_⟩
  have := congrArg nn e
  rw [nn_lN (by omega)] at this
  exact this
theorem sm_shl : ∀ o, o < 30 → (lShl 1 (nI o)).toInt32 = (1 : Int32) <<< (nI o &&& 31) := by decide +kernel
theorem sm_shx : ∀ o, o < 30 → (lShl 1 (nI o) ^^^ (-1)).toInt32 = ((1 : Int32) <<< (nI o &&& 31)) ^^^ (-1) := by decide +kernel
theorem sm_wB1 (x : Int64) {o : Nat} (ho : o < 30) : (wB x o 1).toInt32 = x.toInt32 ||| ((1 : Int32) <<< (nI o &&& 31)) := by
  unfold wB
  rw [if_pos rfl, Int64.toInt32_or, sm_shl o ho]
theorem sm_wB0 (x : Int64) {o b : Nat} (ho : o < 30) (hb : ¬ b = 1) : (wB x o b).toInt32 = x.toInt32 &&& (((1 : Int32) <<< (nI o &&& 31)) ^^^ (-1)) := by
  unfold wB
  rw [if_neg hb, Int64.toInt32_and, sm_shx o ho]
theorem ca30 {S : MM} (hI : Inv S) (c : Nat) : ∀ k, 30 ≤ k → bT (mL S 4 c) k = false := fun k hk => Inv_ca hI c k (by have := Inv_O hI; omega)
section PM
variable {t : Nat} {q : Nat → Nat} {S σ : MM}
theorem M_carry (h : RepM t q S σ) (hI : Inv S) (x y z : Int32) (k : Int32 → MM → Prop) (hk : ∀ σ1, RepM t q (fCarry S x y z).2 σ1 → FrM q σ σ1 → k (fCarry S x y z).1 σ1) : wX4_carry t x y z σ k := by
  have hC := Inv_C hI
  have hO := Inv_O hI
  unfold wX4_carry
  unfold fCarry at hk
  simp only [eM_isCode h hI, eM_isOther h hI, eM_in0 (n := 2) (h := 1) rfl, RepM_K h, true_and, and_true, forall_eq, forall_eq', Option.some.injEq, exists_eq_left', false_implies, true_implies, forall_const, not_false_eq_true, not_true_eq_false, implies_true, b2iT, b2iF, i1n0, i0n1, Option.isSome_some, Option.isSome_none, Option.map_some, Option.map_none, reduceCtorEq, b2i_bz]
  cases hx : vI (mN S 0) x with
  | none => rw [hx] at hk; simp only [true_and, and_true, forall_eq, forall_eq', Option.some.injEq, exists_eq_left', false_implies, true_implies, forall_const, not_false_eq_true, not_true_eq_false, implies_true, b2iT, b2iF, i1n0, i0n1, Option.isSome_some, Option.isSome_none, Option.map_some, Option.map_none, reduceCtorEq, b2i_bz]; exact hk σ h (FrM_refl q σ)
  | some c =>
    cases hy : vI (mN S 1) y with
    | none => rw [hx, hy] at hk; simp only [true_and, and_true, forall_eq, forall_eq', Option.some.injEq, exists_eq_left', false_implies, true_implies, forall_const, not_false_eq_true, not_true_eq_false, implies_true, b2iT, b2iF, i1n0, i0n1, Option.isSome_some, Option.isSome_none, Option.map_some, Option.map_none, reduceCtorEq, b2i_bz]; exact hk σ h (FrM_refl q σ)
    | some o =>
      cases hz : vI 2 z with
      | none => rw [hx, hy, hz] at hk; simp only [true_and, and_true, forall_eq, forall_eq', Option.some.injEq, exists_eq_left', false_implies, true_implies, forall_const, not_false_eq_true, not_true_eq_false, implies_true, b2iT, b2iF, i1n0, i0n1, Option.isSome_some, Option.isSome_none, Option.map_some, Option.map_none, reduceCtorEq, b2i_bz]; exact hk σ h (FrM_refl q σ)
      | some b =>
        rw [hx, hy, hz] at hk
        obtain ⟨hc, rfl⟩ := vI_some hx
        obtain ⟨ho, rfl⟩ := vI_some hy
        obtain ⟨hb, rfl⟩ := vI_some hz
        simp only at hk
        simp only [RepM_r7 h, RepM_k7 h, RepM_n7 h, RepM_i7 h, ix_nI (show c < 2 ^ 31 by omega), vp_in_nI (show c < 40 by omega) (by decide), nI_lit1 (show b < 2 ^ 31 by omega), sm_bit (ca30 hI c) (show o < 30 by omega), true_and, and_true, forall_eq, forall_eq', Option.some.injEq, exists_eq_left', false_implies, true_implies, forall_const, not_false_eq_true, not_true_eq_false, implies_true, b2iT, b2iF, i1n0, i0n1, Option.isSome_some, Option.isSome_none, Option.map_some, Option.map_none, reduceCtorEq, b2i_bz]
        have hw := RepM_w7 h c (wB (mL S 4 c) o b)
        refine ⟨fun e => ?_, fun e => ?_⟩
        · rw [sm_wB0 _ (show o < 30 by omega) e] at hw
          exact hk _ hw (FrM_I (by decide))
        · subst e
          rw [sm_wB1 _ (show o < 30 by omega)] at hw
          exact hk _ hw (FrM_I (by decide))
end PM
section PC
variable {u : Nat} {q ia ra : Nat → Nat} {S σ : MM} {sf : Nat → Int64}
theorem C_carry (h : RepC u q ia ra S sf σ) (hI : Inv S) (x y z : Int32) (k : Int32 → MM → Prop) (hk : ∀ σ1, RepC u q ia ra (fCarry S x y z).2 sf σ1 → FrC q σ σ1 → k (fCarry S x y z).1 σ1) : wX3_carry u x y z σ k := by
  have hC := Inv_C hI
  have hO := Inv_O hI
  unfold wX3_carry
  unfold fCarry at hk
  simp only [eC_isCode h hI, RepC_r1 h, RepC_k1 h, eC_hasO h hI, eC_isIn0 (n := 2) (h := 1) rfl, RepC_K h, true_and, and_true, forall_eq, forall_eq', Option.some.injEq, exists_eq_left', false_implies, true_implies, forall_const, not_false_eq_true, not_true_eq_false, implies_true, b2iT, b2iF, i1n0, i0n1, Option.isSome_some, Option.isSome_none, Option.map_some, Option.map_none, reduceCtorEq, b2i_bz]
  cases hx : vI (mN S 0) x with
  | none => rw [hx] at hk; simp only [true_and, and_true, forall_eq, forall_eq', Option.some.injEq, exists_eq_left', false_implies, true_implies, forall_const, not_false_eq_true, not_true_eq_false, implies_true, b2iT, b2iF, i1n0, i0n1, Option.isSome_some, Option.isSome_none, Option.map_some, Option.map_none, reduceCtorEq, b2i_bz]; exact hk σ h (FrC_refl q σ)
  | some c =>
    cases hy : vI (mN S 1) y with
    | none => rw [hx, hy] at hk; simp only [true_and, and_true, forall_eq, forall_eq', Option.some.injEq, exists_eq_left', false_implies, true_implies, forall_const, not_false_eq_true, not_true_eq_false, implies_true, b2iT, b2iF, i1n0, i0n1, Option.isSome_some, Option.isSome_none, Option.map_some, Option.map_none, reduceCtorEq, b2i_bz]; exact hk σ h (FrC_refl q σ)
    | some o =>
      cases hz : vI 2 z with
      | none => rw [hx, hy, hz] at hk; simp only [true_and, and_true, forall_eq, forall_eq', Option.some.injEq, exists_eq_left', false_implies, true_implies, forall_const, not_false_eq_true, not_true_eq_false, implies_true, b2iT, b2iF, i1n0, i0n1, Option.isSome_some, Option.isSome_none, Option.map_some, Option.map_none, reduceCtorEq, b2i_bz]; exact hk σ h (FrC_refl q σ)
      | some b =>
        rw [hx, hy, hz] at hk
        obtain ⟨hc, rfl⟩ := vI_some hx
        obtain ⟨ho, rfl⟩ := vI_some hy
        obtain ⟨hb, rfl⟩ := vI_some hz
        simp only at hk
        simp only [RepC_r3 h, RepC_k3 h, RepC_n3 h, RepC_i3 h, ix_nI (show c < 2 ^ 31 by omega), vp_in_nI (show c < 40 by omega) (by decide), eC_bit _ (show o < 64 by omega), eC_withBit _ _ hb, RepC_K h, true_and, and_true, forall_eq, forall_eq', Option.some.injEq, exists_eq_left', false_implies, true_implies, forall_const, not_false_eq_true, not_true_eq_false, implies_true, b2iT, b2iF, i1n0, i0n1, Option.isSome_some, Option.isSome_none, Option.map_some, Option.map_none, reduceCtorEq, b2i_bz]
        exact hk _ (RepC_q3w h c _) (FrC_L (by decide))
end PC
