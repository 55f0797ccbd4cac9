theorem b2iT : b2i true = 1 := rfl
theorem b2iF : b2i false = 0 := rfl
theorem i1n0 : ¬ ((1 : Int32) = 0) := by decide
theorem i0n1 : ¬ ((0 : Int32) = 1) := by decide
theorem im1n0 : ¬ ((-1 : Int32) = 0) := by decide
/-- a word's bit set or not -/
def wB (y : Int64) (w b : Nat) : Int64 := if b = 1 then y ||| lShl 1 (nI w) else y &&& (lShl 1 (nI w) ^^^ (-1))
theorem vI_neg {n : Nat} {x : Int32} (h : x < 0) : vI n x = none := by
  unfold vI
  rw [if_neg]
  intro hc
  rw [Int32.lt_iff_toInt_lt] at h
  have : (0 : Int32).toInt = 0 := rfl
  omega
theorem vI_big {n : Nat} {x : Int32} (hn : n < 2 ^ 31) (h : nI n ≤ x) : vI n x = none := by
  unfold vI
  rw [if_neg]
  intro hc
  rw [Int32.le_iff_toInt_le, nI_toInt hn] at h
  omega
/-- the three ways of a number against a bound -/
theorem vI_three {n : Nat} (hn : n < 2 ^ 31) (x : Int32) : (x < 0 ∧ vI n x = none) ∨ (¬ x < 0 ∧ nI n ≤ x ∧ vI n x = none) ∨ ∃ j, j < n ∧ x = nI j ∧ vI n x = some j ∧ ¬ x < 0 ∧ ¬ nI n ≤ x := by
  by_cases h1 : x < 0
  · exact Or.inl ⟨h1, vI_neg h1⟩
  · by_cases h2 : nI n ≤ x
    · exact Or.inr (Or.inl ⟨h1, h2, vI_big hn h2⟩)
    · refine Or.inr (Or.inr ?_)
      cases hv : vI n x with
      | none => rcases vI_none hn hv with h | h <;> contradiction
      | some j =>
        obtain ⟨h3, h4⟩ := vI_some hv
        exact ⟨j, h3, h4, rfl, h1, h2⟩
theorem eC_isIn (x a b : Int32) (σ : MM) (k : Int32 → MM → Prop) : wX3_isIn x a b σ k ↔ k (b2i (decide (a ≤ x ∧ x ≤ b))) σ := eM_in x a b σ k
theorem eC_isIn0 {n : Nat} {x h : Int32} (hh : h.toInt = (n : Int) - 1) (σ : MM) (k : Int32 → MM → Prop) : wX3_isIn x 0 h σ k ↔ k (b2i (vI n x).isSome) σ := eM_in0 hh σ k
theorem eC_isDigit (x : Int32) (σ : MM) (k : Int32 → MM → Prop) : wX3_isDigit x σ k ↔ k (b2i (vI 10 x).isSome) σ := by
  unfold wX3_isDigit
  rw [eC_isIn0 (n := 10) rfl]
  simp [b2i_bz]
theorem eC_bit (y : Int64) {w : Nat} (hw : w < 64) (σ : MM) (k : Int32 → MM → Prop) : wX3_bit y (nI w) σ k ↔ k (b2i (bT y w)) σ := by
  unfold wX3_bit
  rw [ush1 y hw, i32_01]
theorem eC_withBit (y : Int64) (w : Nat) {b : Nat} (hb : b < 2) (σ : MM) (k : Int64 → MM → Prop) : wX3_withBit y (nI w) (nI b) σ k ↔ k (wB y w b) σ := by
  unfold wX3_withBit wB
  rcases (show b = 0 ∨ b = 1 by omega) with rfl | rfl
  · simp [nI]
  · simp [nI]
theorem eC_has {a b n : Nat} {σ : MM} (h1 : mK σ a = 3) (h2 : mI σ a 2 = nI n) (h3 : mR σ a 0 = some b) (h4 : mK σ b = 6) (h5 : mN σ b = 40) (hn : n ≤ 40) (x : Int32) (k : Int32 → MM → Prop) : wX2_has a x σ k ↔ k (b2i (vI n x).isSome) σ := by
  unfold wX2_has
  rcases vI_three (n := n) (by omega) x with ⟨e1, e2⟩ | ⟨e1, e2, e3⟩ | ⟨j, e1, rfl, e3, e4, e5⟩
  · simp [e1, e2, b2iF]
  · simp [e1, e2, e3, h1, h2, b2iF]
  · have e6 : ¬ nI 40 ≤ nI j := nI_ge (by omega) (by decide)
    simp only [e3, e4, e5, e6, h1, h2, h3, h4, h5, true_and, and_true, forall_eq, forall_eq', Option.some.injEq, exists_eq_left', false_implies, true_implies, forall_const, not_false_eq_true, not_true_eq_false, implies_true, b2iT, b2iF, i1n0, i0n1, Option.isSome_some, Option.isSome_none, Option.map_some, Option.map_none, reduceCtorEq, b2i_bz]
section PC
variable {u : Nat} {q ia ra : Nat → Nat} {S σ : MM} {sf : Nat → Int64}
theorem eC_isWord (h : RepC u q ia ra S sf σ) (x : Int32) (k : Int32 → MM → Prop) : wX3_isWord u x σ k ↔ k (b2i (vI 60 x).isSome) σ := by
  unfold wX3_isWord
  rcases vI_three (n := 60) (by decide) x with ⟨e1, e2⟩ | ⟨e1, e2, e3⟩ | ⟨j, e1, rfl, e3, e4, e5⟩
  · simp [e1, e2, b2iF]
  · simp only [e1, e2, e3, RepC_K h, RepC_r4 h, RepC_k4 h, RepC_n4 h, true_and, and_true, forall_eq, forall_eq', Option.some.injEq, exists_eq_left', false_implies, true_implies, forall_const, not_false_eq_true, not_true_eq_false, implies_true, b2iT, b2iF, i1n0, i0n1, Option.isSome_some, Option.isSome_none, Option.map_some, Option.map_none, reduceCtorEq, b2i_bz]
  · simp only [e3, e4, e5, RepC_K h, RepC_r4 h, RepC_k4 h, RepC_n4 h, true_and, and_true, forall_eq, forall_eq', Option.some.injEq, exists_eq_left', false_implies, true_implies, forall_const, not_false_eq_true, not_true_eq_false, implies_true, b2iT, b2iF, i1n0, i0n1, Option.isSome_some, Option.isSome_none, Option.map_some, Option.map_none, reduceCtorEq, b2i_bz]
theorem eC_hasC (h : RepC u q ia ra S sf σ) (hI : Inv S) (x : Int32) (k : Int32 → MM → Prop) : wX2_has (q 0) x σ k ↔ k (b2i (vI (mN S 0) x).isSome) σ := eC_has (RepC_k0 h) (RepC_s0 h) (RepC_a0 h) (RepC_k20 h) (RepC_n20 h) (Inv_C hI) x k
theorem eC_hasO (h : RepC u q ia ra S sf σ) (hI : Inv S) (x : Int32) (k : Int32 → MM → Prop) : wX2_has (q 1) x σ k ↔ k (b2i (vI (mN S 1) x).isSome) σ := eC_has (RepC_k1 h) (RepC_s1 h) (RepC_a1 h) (RepC_k21 h) (RepC_n21 h) (by have := Inv_O hI; omega) x k
theorem eC_isCode (h : RepC u q ia ra S sf σ) (hI : Inv S) (x : Int32) (k : Int32 → MM → Prop) : wX3_isCode u x σ k ↔ k (b2i (vI (mN S 0) x).isSome) σ := by
  unfold wX3_isCode
  simp [RepC_K h, RepC_r0 h, RepC_k0 h, eC_hasC h hI, b2i_bz]
theorem eC_itemAt (h : RepC u q ia ra S sf σ) (x : Int32) (k : Option Nat → MM → Prop) : wX3_itemAt u x σ k ↔ k ((vT S x).map ia) σ := by
  unfold wX3_itemAt
  rcases vI_three (n := 160) (by decide) x with ⟨e1, e2⟩ | ⟨e1, e2, e3⟩ | ⟨j, e1, rfl, e3, e4, e5⟩
  · simp [e1, e2, vT]
  · simp only [e1, e2, e3, RepC_K h, RepC_r5 h, RepC_k5 h, RepC_n5 h, vT, Option.filter_none, true_and, and_true, forall_eq, forall_eq', Option.some.injEq, exists_eq_left', false_implies, true_implies, forall_const, not_false_eq_true, not_true_eq_false, implies_true, b2iT, b2iF, i1n0, i0n1, Option.isSome_some, Option.isSome_none, Option.map_some, Option.map_none, reduceCtorEq, b2i_bz]
  · simp only [e4, e5, RepC_K h, RepC_r5 h, RepC_k5 h, RepC_n5 h, RepC_i5 h, ix_nI (show j < 2 ^ 31 by omega), vp_in_nI e1 (by decide), true_and, forall_eq, Option.some.injEq, exists_eq_left', false_implies, not_false_eq_true, true_implies]
    by_cases hp : prs S j = true
    · rw [vT_nI e1 hp, if_pos hp]; rfl
    · rw [vT_nI_no e1 (by simpa using hp), if_neg hp]; rfl
theorem eC_ruleAt (h : RepC u q ia ra S sf σ) (hI : Inv S) (x : Int32) (k : Option Nat → MM → Prop) : wX3_ruleAt u x σ k ↔ k ((vI (mN S 3) x).map ra) σ := by
  unfold wX3_ruleAt
  have hR := Inv_R hI
  have out : ∀ {x : Int32}, vI 40 x = none → vI (mN S 3) x = none := by
    intro x hx
    cases hv : vI (mN S 3) x with
    | none => rfl
    | some j => rw [vI_mono (by decide) hR hv] at hx; cases hx
  rcases vI_three (n := 40) (by decide) x with ⟨e1, e2⟩ | ⟨e1, e2, e3⟩ | ⟨j, e1, rfl, e3, e4, e5⟩
  · simp [e1, out e2]
  · simp only [e1, e2, out e3, RepC_K h, RepC_r7 h, RepC_k7 h, RepC_n7 h, true_and, and_true, forall_eq, forall_eq', Option.some.injEq, exists_eq_left', false_implies, true_implies, forall_const, not_false_eq_true, not_true_eq_false, implies_true, b2iT, b2iF, i1n0, i0n1, Option.isSome_some, Option.isSome_none, Option.map_some, Option.map_none, reduceCtorEq, b2i_bz]
  · simp only [e4, e5, RepC_K h, RepC_r7 h, RepC_k7 h, RepC_n7 h, RepC_i7 h, ix_nI (show j < 2 ^ 31 by omega), vp_in_nI e1 (by decide), true_and, forall_eq, Option.some.injEq, exists_eq_left', false_implies, not_false_eq_true, true_implies]
    by_cases hp : j < mN S 3
    · rw [vI_nI hp (by omega), if_pos hp]; rfl
    · rw [vI_big (by omega) (nI_le (by omega) (by omega)), if_neg hp]; rfl
end PC
