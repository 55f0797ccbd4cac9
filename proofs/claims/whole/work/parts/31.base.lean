theorem in_vI {n : Nat} {x h : Int32} (hh : h.toInt = (n : Int) - 1) : decide (0 ≤ x ∧ x ≤ h) = (vI n x).isSome := by
  have h0 : (0 : Int32).toInt = 0 := rfl
  unfold vI
  by_cases hc : 0 ≤ x.toInt ∧ x.toInt < (n : Int)
  · rw [if_pos hc]
    have : 0 ≤ x ∧ x ≤ h := by
      rw [Int32.le_iff_toInt_le, Int32.le_iff_toInt_le, h0, hh]
      omega
    simp [this]
  · rw [if_neg hc]
    have : ¬ (0 ≤ x ∧ x ≤ h) := by
      rw [Int32.le_iff_toInt_le, Int32.le_iff_toInt_le, h0, hh]
      omega
    simp [this]
theorem nI_m1 {n : Nat} (hn : n < 2 ^ 30) : (nI n - 1).toInt = (n : Int) - 1 := pk_sub_toInt (a := n) (b := 1) hn (by decide)
theorem nI_2m1 {n : Nat} (hn : n < 2 ^ 20) : ((2 : Int32) * nI n - 1).toInt = ((2 * n : Nat) : Int) - 1 := by
  have : (2 : Int32) * nI n = nI (2 * n) := pk_mul 2 n
  rw [this]
  exact nI_m1 (by omega)
/-- an item's number -/
def vT (S : MM) (x : Int32) : Option Nat := (vI 160 x).filter (prs S)
theorem prs_lt {S : MM} {j : Nat} (h : prs S j = true) : j < 2 * mN S 2 := by
  simp only [prs, Bool.and_eq_true, decide_eq_true_eq] at h
  exact h.1
theorem prs_160 {S : MM} (hI : Inv S) {j : Nat} (h : prs S j = true) : j < 160 := by
  have := prs_lt h
  have := Inv_A hI
  omega
theorem vT_some {S : MM} {x : Int32} {j : Nat} (h : vT S x = some j) : prs S j = true ∧ j < 160 ∧ x = nI j := by
  unfold vT at h
  cases hv : vI 160 x with
  | none => rw [hv] at h; cases h
  | some i =>
    rw [hv] at h
    obtain ⟨h1, h2⟩ := vI_some hv
    rw [Option.filter_some] at h
    by_cases hp : prs S i = true
    · rw [if_pos hp] at h
      cases h
      exact ⟨hp, h1, h2⟩
    · rw [if_neg hp] at h
      cases h
theorem vT_nI {S : MM} {j : Nat} (hj : j < 160) (hp : prs S j = true) : vT S (nI j) = some j := by
  unfold vT
  rw [vI_nI hj (by decide), Option.filter_some, if_pos hp]
theorem vT_nI_no {S : MM} {j : Nat} (hj : j < 160) (hp : prs S j = false) : vT S (nI j) = none := by
  unfold vT
  rw [vI_nI hj (by decide), Option.filter_some, if_neg (by rw [hp]; decide)]
theorem vI_mono {m n : Nat} {x : Int32} {j : Nat} (hn : n < 2 ^ 31) (hmn : m ≤ n) (h : vI m x = some j) : vI n x = some j := by
  obtain ⟨h1, rfl⟩ := vI_some h
  exact vI_nI (by omega) hn
theorem vT_out {S : MM} (hI : Inv S) {x : Int32} (h : vI (2 * mN S 2) x = none) : vT S x = none := by
  cases hv : vT S x with
  | none => rfl
  | some j =>
    obtain ⟨h1, h2, rfl⟩ := vT_some hv
    have := Inv_A hI
    rw [vI_nI (prs_lt h1) (by omega)] at h
    cases h
/-! the reference's tests -/
theorem eM_in (x a b : Int32) (σ : MM) (k : Int32 → MM → Prop) : wX4_in x a b σ k ↔ k (b2i (decide (a ≤ x ∧ x ≤ b))) σ := by
  unfold wX4_in
  by_cases h1 : x < a
  · have h2 : ¬ a ≤ x := Int32.not_le.mpr h1
    simp [h1, h2, b2i]
  · have h2 : a ≤ x := Int32.not_lt.mp h1
    by_cases h3 : b < x
    · have h4 : ¬ x ≤ b := Int32.not_le.mpr h3
      simp [h1, h3, h4, b2i]
    · have h4 : x ≤ b := Int32.not_lt.mp h3
      simp [h1, h2, h3, h4, b2i]
theorem eM_in0 {n : Nat} {x h : Int32} (hh : h.toInt = (n : Int) - 1) (σ : MM) (k : Int32 → MM → Prop) : wX4_in x 0 h σ k ↔ k (b2i (vI n x).isSome) σ := by
  rw [eM_in, in_vI hh]
theorem eM_isWord (x : Int32) (σ : MM) (k : Int32 → MM → Prop) : wX4_isWord x σ k ↔ k (b2i (vI 60 x).isSome) σ := by
  unfold wX4_isWord
  rw [eM_in0 (n := 60) rfl]
  simp [b2i_bz]
section PM
variable {t : Nat} {q : Nat → Nat} {S σ : MM}
theorem eM_isCode (h : RepM t q S σ) (hI : Inv S) (x : Int32) (k : Int32 → MM → Prop) : wX4_isCode t x σ k ↔ k (b2i (vI (mN S 0) x).isSome) σ := by
  unfold wX4_isCode
  have := Inv_C hI
  rw [RepM_nC h, eM_in0 (nI_m1 (n := mN S 0) (by omega))]
  simp [RepM_K h, b2i_bz]
theorem eM_isOther (h : RepM t q S σ) (hI : Inv S) (x : Int32) (k : Int32 → MM → Prop) : wX4_isOther t x σ k ↔ k (b2i (vI (mN S 1) x).isSome) σ := by
  unfold wX4_isOther
  have := Inv_O hI
  rw [RepM_nO h, eM_in0 (nI_m1 (n := mN S 1) (by omega))]
  simp [RepM_K h, b2i_bz]
theorem eM_isRule (h : RepM t q S σ) (hI : Inv S) (x : Int32) (k : Int32 → MM → Prop) : wX4_isRule t x σ k ↔ k (b2i (vI (mN S 3) x).isSome) σ := by
  unfold wX4_isRule
  have := Inv_R hI
  rw [RepM_nR h, eM_in0 (nI_m1 (n := mN S 3) (by omega))]
  simp [RepM_K h, b2i_bz]
theorem half_nI {j : Nat} (h : j < 160) : nI j / 2 = nI (j / 2) := pk_div (a := j) (d := 2) (by omega) (by decide) (by decide)
theorem odd_nI {j : Nat} (h : j < 160) : nI j - nI j / 2 * 2 = nI (j % 2) := pk_rem (a := j) (d := 2) (by omega) (by decide) (by decide)
theorem nI_z {n : Nat} (h : n < 2 ^ 31) : nI n = 0 ↔ n = 0 := nI_eq (b := 0) h (by decide)
theorem eM_isItem (h : RepM t q S σ) (hI : Inv S) (x : Int32) (k : Int32 → MM → Prop) : wX4_isItem t x σ k ↔ k (b2i (vT S x).isSome) σ := by
  unfold wX4_isItem
  have hA := Inv_A hI
  rw [RepM_nA h, eM_in0 (nI_2m1 (n := mN S 2) (by omega))]
  cases hv : vI (2 * mN S 2) x with
  | none => simp [RepM_K h, vT_out hI hv, b2i]
  | some j =>
    obtain ⟨hj, rfl⟩ := vI_some hv
    have hj2 : j < 160 := by omega
    rw [odd_nI hj2, half_nI hj2]
    simp only [RepM_K h, RepM_r9 h, RepM_k9 h, RepM_n9 h, RepM_i9 h, Option.isSome_some, nI_z (show j % 2 < 2 ^ 31 by omega), ix_nI (show j / 2 < 2 ^ 31 by omega), vp_in_nI (show j / 2 < 80 by omega) (by decide), true_and, forall_eq, Option.some.injEq, exists_eq_left', b2i, if_true]
    by_cases ho : j % 2 = 0
    · have hp : prs S j = true := by simp [prs, hj, ho]
      simp [ho, vT_nI hj2 hp]
    · by_cases hs : mI S 3 (j / 2) = 1
      · have hp : prs S j = true := by simp [prs, hj, hs]
        simp [ho, hs, vT_nI hj2 hp]
      · have hp : prs S j = false := by simp [prs, ho, hs]
        simp [ho, hs, vT_nI_no hj2 hp]
end PM
