/-! BY LIKENESS: best, most, next, and by which item -/
def bF (S : MM) (j : Nat) : Nat → Int32 × Int32 × Int32 × Int32
  | 0 => (-2, 0, 0, -1)
  | n + 1 => if nearS S n j ≤ (bF S j n).2.1 then (if nearS S n j ≤ (bF S j n).2.2.1 then bF S j n else ((bF S j n).1, (bF S j n).2.1, nearS S n j, (bF S j n).2.2.2)) else (nI n, nearS S n j, (bF S j n).2.1, nearB S n j)
def bE (S : MM) (b : Int32 × Int32 × Int32 × Int32) : Int32 := if b.1 < 0 then -2 else if b.2.1 < mI S 15 0 then -2 else if b.2.1 - b.2.2.1 < mI S 15 1 then -2 else b.1
def kS (S : MM) (j : Nat) : Int32 := bE S (bF S j (mN S 0))
def kB (S : MM) (j : Nat) : Int32 := (bF S j (mN S 0)).2.2.2
theorem bF_1 {S : MM} {j n : Nat} (h1 : nearS S n j ≤ (bF S j n).2.1) (h2 : nearS S n j ≤ (bF S j n).2.2.1) : bF S j (n + 1) = bF S j n := by
  show (if _ then (if _ then _ else _) else _) = _
  rw [if_pos h1, if_pos h2]
theorem bF_2 {S : MM} {j n : Nat} (h1 : nearS S n j ≤ (bF S j n).2.1) (h2 : ¬ nearS S n j ≤ (bF S j n).2.2.1) : bF S j (n + 1) = ((bF S j n).1, (bF S j n).2.1, nearS S n j, (bF S j n).2.2.2) := by
  show (if _ then (if _ then _ else _) else _) = _
  rw [if_pos h1, if_neg h2]
theorem bF_3 {S : MM} {j n : Nat} (h1 : ¬ nearS S n j ≤ (bF S j n).2.1) : bF S j (n + 1) = (nI n, nearS S n j, (bF S j n).2.1, nearB S n j) := by
  show (if _ then (if _ then _ else _) else _) = _
  rw [if_neg h1]
/-- the scratch places of the reference while it looks for likeness -/
def sc (t : Nat) (σ : MM) (a b : Int32) : MM := sI (sI σ t 29 a) t 28 b
def fNear (S : MM) (x y : Int32) : Int32 := match vI (mN S 0) x, vT S y with
  | some c, some j => nearS S c j
  | _, _ => -1
def fLiked (S : MM) (x : Int32) : Int32 := match vT S x with
  | some j => kS S j
  | none => -1
section PM
variable {t : Nat} {q : Nat → Nat} {S σ : MM}
theorem M_near (h : RepM t q S σ) (hI : Inv S) (x y : Int32) (k : Int32 → MM → Prop) (hk : ∀ σ1, RepM t q S σ1 → FrM q σ σ1 → k (fNear S x y) σ1) : wX4_near t x y σ k := by
  unfold wX4_near
  unfold fNear at hk
  simp only [eM_isCode h hI, eM_isItem h hI, RepM_K h, true_and, and_true, forall_eq, forall_eq', Option.some.injEq, exists_eq_left', false_implies, true_implies, forall_const, not_false_eq_true, not_true_eq_false, implies_true, b2iT, b2iF, i1n0, i0n1, Option.isSome_some, Option.isSome_none, Option.map_some, Option.map_none, reduceCtorEq, b2i_bz]
  cases hx : vI (mN S 0) x with
  | none => rw [hx] at hk; simp only [true_and, and_true, forall_eq, forall_eq', Option.some.injEq, exists_eq_left', false_implies, true_implies, forall_const, not_false_eq_true, not_true_eq_false, implies_true, b2iT, b2iF, i1n0, i0n1, Option.isSome_some, Option.isSome_none, Option.map_some, Option.map_none, reduceCtorEq, b2i_bz]; exact hk σ h (FrM_refl q σ)
  | some c =>
    cases hy : vT S y with
    | none => rw [hx, hy] at hk; simp only [true_and, and_true, forall_eq, forall_eq', Option.some.injEq, exists_eq_left', false_implies, true_implies, forall_const, not_false_eq_true, not_true_eq_false, implies_true, b2iT, b2iF, i1n0, i0n1, Option.isSome_some, Option.isSome_none, Option.map_some, Option.map_none, reduceCtorEq, b2i_bz]; exact hk σ h (FrM_refl q σ)
    | some j =>
      rw [hx, hy] at hk
      obtain ⟨hc, rfl⟩ := vI_some hx
      obtain ⟨hp, hj, rfl⟩ := vT_some hy
      simp only [true_and, and_true, forall_eq, forall_eq', Option.some.injEq, exists_eq_left', false_implies, true_implies, forall_const, not_false_eq_true, not_true_eq_false, implies_true, b2iT, b2iF, i1n0, i0n1, Option.isSome_some, Option.isSome_none, Option.map_some, Option.map_none, reduceCtorEq, b2i_bz]
      exact M_nearOf h hI hc hj _ (hk _ (RepM_v28 h _) (FrM_t (RepM_K h)))
/-- any values in the two scratch places -/
def anyS (t : Nat) (q : Nat → Nat) (S σ0 σ : MM) (b : Int32) : Prop := RepM t q S σ ∧ Fr1 t σ0 σ ∧ mI σ t 29 = b
theorem M_byLik_l (hI : Inv S) {j : Nat} (hj : j < 160) (k : Int32 → MM → Prop) (σ0 : MM) (hk : ∀ σ1, anyS t q S σ0 σ1 (kB S j) → k (kS S j) σ1) : ∀ d c (σ : MM), c + d = mN S 0 → anyS t q S σ0 σ (bF S j c).2.2.2 → wX4_byLikeness_16 k t (d + 1) (nI j) (bF S j c).1 (bF S j c).2.1 (bF S j c).2.2.1 (nI c) σ := by
  have hC := Inv_C hI
  intro d
  induction d with
  | zero =>
    intro c σ hc ha
    have : c = mN S 0 := by omega
    subst this
    have h := ha.1
    unfold wX4_byLikeness_16
    have hk1 := hk σ ha
    unfold kS bE at hk1
    simp only [RepM_K h, RepM_nC h, RepM_le h, RepM_ga h, show nI (mN S 0) ≤ nI (mN S 0) from nI_le (Nat.le_refl _) (by omega), true_and, and_true, forall_eq, forall_eq', Option.some.injEq, exists_eq_left', false_implies, true_implies, forall_const, not_false_eq_true, not_true_eq_false, implies_true, b2iT, b2iF, i1n0, i0n1, Option.isSome_some, Option.isSome_none, Option.map_some, Option.map_none, reduceCtorEq, b2i_bz]
    refine ⟨fun e => ?_, fun e => ⟨fun e2 => ?_, fun e2 => ⟨fun e3 => ?_, fun e3 => ?_⟩⟩⟩
    · rw [if_pos e] at hk1; exact hk1
    · rw [if_neg e, if_pos e2] at hk1; exact hk1
    · rw [if_neg e, if_neg e2, if_pos e3] at hk1; exact hk1
    · rw [if_neg e, if_neg e2, if_neg e3] at hk1; exact hk1
  | succ d ih =>
    intro c σ hc ha
    have h := ha.1
    have e1 : ¬ nI (mN S 0) ≤ nI c := nI_ge (by omega) (by omega)
    unfold wX4_byLikeness_16
    simp only [RepM_K h, RepM_nC h, e1, nI_1, true_and, and_true, forall_eq, forall_eq', Option.some.injEq, exists_eq_left', false_implies, true_implies, forall_const, not_false_eq_true, not_true_eq_false, implies_true, b2iT, b2iF, i1n0, i0n1, Option.isSome_some, Option.isSome_none, Option.map_some, Option.map_none, reduceCtorEq, b2i_bz]
    refine M_nearOf h hI (show c < mN S 0 by omega) hj _ ?_
    have h1 := RepM_v28 h (nearB S c j)
    have f1 : Fr1 t σ0 (sI σ t 28 (nearB S c j)) := Fr1_tr ha.2.1 Fr1_I
    have b1 : mI (sI σ t 28 (nearB S c j)) t 29 = mI σ t 29 := by rw [mI_sI, if_neg (fun z => absurd z.2 (by decide))]
    refine ⟨fun el => ⟨fun el2 => ?_, fun el2 => ?_⟩, fun el => ⟨RepM_K h1, ?_⟩⟩
    · have gg := ih (c + 1) (sI σ t 28 (nearB S c j)) (by omega)
      rw [bF_1 el el2] at gg
      exact gg ⟨h1, f1, b1.trans ha.2.2⟩
    · have gg := ih (c + 1) (sI σ t 28 (nearB S c j)) (by omega)
      rw [bF_2 el el2] at gg
      simp only at gg
      exact gg ⟨h1, f1, b1.trans ha.2.2⟩
    · have b2 : mI (sI σ t 28 (nearB S c j)) t 28 = nearB S c j := by rw [mI_sI, if_pos ⟨rfl, rfl⟩]
      rw [b2]
      have gg := ih (c + 1) (sI (sI σ t 28 (nearB S c j)) t 29 (nearB S c j)) (by omega)
      rw [bF_3 el] at gg
      simp only at gg
      exact gg ⟨RepM_v29 h1 _, Fr1_tr f1 Fr1_I, by rw [mI_sI, if_pos ⟨rfl, rfl⟩]⟩
theorem M_byLikeness (h : RepM t q S σ) (hI : Inv S) {j : Nat} (hj : j < 160) (k : Int32 → MM → Prop) (hk : ∀ σ1, anyS t q S σ σ1 (kB S j) → k (kS S j) σ1) : wX4_byLikeness t (nI j) σ k := by
  unfold wX4_byLikeness
  simp only [RepM_K h, true_and, and_true, forall_eq, forall_eq', Option.some.injEq, exists_eq_left', false_implies, true_implies, forall_const, not_false_eq_true, not_true_eq_false, implies_true, b2iT, b2iF, i1n0, i0n1, Option.isSome_some, Option.isSome_none, Option.map_some, Option.map_none, reduceCtorEq, b2i_bz]
  exact ⟨mN S 0 + 1, M_byLik_l hI hj k σ hk (mN S 0) 0 (sI σ t 29 (-1)) (by omega) ⟨RepM_v29 h (-1), Fr1_I, by rw [mI_sI, if_pos ⟨rfl, rfl⟩]; rfl⟩⟩
theorem M_liked (h : RepM t q S σ) (hI : Inv S) (x : Int32) (k : Int32 → MM → Prop) (hk : ∀ σ1, RepM t q S σ1 → FrM q σ σ1 → k (fLiked S x) σ1) : wX4_liked t x σ k := by
  unfold wX4_liked
  unfold fLiked at hk
  simp only [eM_isItem h hI, RepM_K h, true_and, and_true, forall_eq, forall_eq', Option.some.injEq, exists_eq_left', false_implies, true_implies, forall_const, not_false_eq_true, not_true_eq_false, implies_true, b2iT, b2iF, i1n0, i0n1, Option.isSome_some, Option.isSome_none, Option.map_some, Option.map_none, reduceCtorEq, b2i_bz]
  cases hx : vT S x with
  | none => rw [hx] at hk; simp only [true_and, and_true, forall_eq, forall_eq', Option.some.injEq, exists_eq_left', false_implies, true_implies, forall_const, not_false_eq_true, not_true_eq_false, implies_true, b2iT, b2iF, i1n0, i0n1, Option.isSome_some, Option.isSome_none, Option.map_some, Option.map_none, reduceCtorEq, b2i_bz]; exact hk σ h (FrM_refl q σ)
  | some j =>
    rw [hx] at hk
    obtain ⟨hp, hj, rfl⟩ := vT_some hx
    simp only [true_and, and_true, forall_eq, forall_eq', Option.some.injEq, exists_eq_left', false_implies, true_implies, forall_const, not_false_eq_true, not_true_eq_false, implies_true, b2iT, b2iF, i1n0, i0n1, Option.isSome_some, Option.isSome_none, Option.map_some, Option.map_none, reduceCtorEq, b2i_bz]
    exact M_byLikeness h hI hj _ (fun σ1 ha => hk σ1 ha.1 (FrM_1 (RepM_K h) ha.2.1))
end PM
section PC
variable {u : Nat} {q ia ra : Nat → Nat} {S σ : MM}
theorem C_near (h : RepC u q ia ra S (setS S) σ) (hI : Inv S) (x y : Int32) (k : Int32 → MM → Prop) (hk : ∀ σ1, RepC u q ia ra S (setS S) σ1 → FrC q σ σ1 → k (fNear S x y) σ1) : wX3_near u x y σ k := by
  have hC := Inv_C hI
  unfold wX3_near
  unfold fNear at hk
  simp only [eC_isCode h hI, eC_itemAt h, RepC_K h, true_and, and_true, forall_eq, forall_eq', Option.some.injEq, exists_eq_left', false_implies, true_implies, forall_const, not_false_eq_true, not_true_eq_false, implies_true, b2iT, b2iF, i1n0, i0n1, Option.isSome_some, Option.isSome_none, Option.map_some, Option.map_none, reduceCtorEq, b2i_bz]
  cases hx : vI (mN S 0) x with
  | none => rw [hx] at hk; simp only [true_and, and_true, forall_eq, forall_eq', Option.some.injEq, exists_eq_left', false_implies, true_implies, forall_const, not_false_eq_true, not_true_eq_false, implies_true, b2iT, b2iF, i1n0, i0n1, Option.isSome_some, Option.isSome_none, Option.map_some, Option.map_none, reduceCtorEq, b2i_bz]; exact hk σ h (FrC_refl q σ)
  | some c =>
    cases hy : vT S y with
    | none => rw [hx, hy] at hk; simp only [true_and, and_true, forall_eq, forall_eq', Option.some.injEq, exists_eq_left', false_implies, true_implies, forall_const, not_false_eq_true, not_true_eq_false, implies_true, b2iT, b2iF, i1n0, i0n1, Option.isSome_some, Option.isSome_none, Option.map_some, Option.map_none, reduceCtorEq, b2i_bz]; exact hk σ h (FrC_refl q σ)
    | some j =>
      rw [hx, hy] at hk
      obtain ⟨hc, rfl⟩ := vI_some hx
      obtain ⟨hp, hj, rfl⟩ := vT_some hy
      simp only [true_and, and_true, forall_eq, forall_eq', Option.some.injEq, exists_eq_left', false_implies, true_implies, forall_const, not_false_eq_true, not_true_eq_false, implies_true, b2iT, b2iF, i1n0, i0n1, Option.isSome_some, Option.isSome_none, Option.map_some, Option.map_none, reduceCtorEq, b2i_bz]
      refine C_fillNears h hI hp _ (fun σ1 g f hm => ?_)
      simp only [RepC_K g, RepC_r11 g, RepC_k11 g, RepC_n11 g, ix_nI (show c < 2 ^ 31 by omega), vp_in_nI (show c < 40 by omega) (by decide), true_and, and_true, forall_eq, forall_eq', Option.some.injEq, exists_eq_left', false_implies, true_implies, forall_const, not_false_eq_true, not_true_eq_false, implies_true, b2iT, b2iF, i1n0, i0n1, Option.isSome_some, Option.isSome_none, Option.map_some, Option.map_none, reduceCtorEq, b2i_bz]
      rw [hm c (by omega)]
      have : nA2 S j 160 c = nearS S c j := by unfold nA2 nearS; rw [if_pos hc]
      rw [this]
      exact hk σ1 g (FrC_1 f)
end PC
