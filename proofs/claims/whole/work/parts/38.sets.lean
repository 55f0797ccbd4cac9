theorem setF_t {st : Nat → Int32} {x : Int64} {n : Nat} (h : bT x n = true) : setF st x (n + 1) = setF st x n ||| lShl 1 (st n) := by
  show (if bT x n = true then _ else _) = _
  rw [if_pos h]
theorem setF_f {st : Nat → Int32} {x : Int64} {n : Nat} (h : bT x n = false) : setF st x (n + 1) = setF st x n := by
  show (if bT x n = true then _ else _) = _
  rw [if_neg (by rw [h]; decide)]
def alk (S : MM) (a b : Nat) : Bool := decide (mI S 4 (a / 2) = mI S 4 (b / 2)) && (decide (mI S 5 (a / 2) = mI S 5 (b / 2)) && decide (setS S a = setS S b))
theorem alk_comm (S : MM) (a b : Nat) : alk S a b = alk S b a := by
  unfold alk
  rw [Bool.eq_iff_iff]
  simp only [Bool.and_eq_true, decide_eq_true_eq]
  constructor <;> exact fun ⟨a, b, c⟩ => ⟨a.symm, b.symm, c.symm⟩
theorem m1lt : decide ((-1 : Int32) < 0) = true := by decide
theorem le160 : nI 160 ≤ nI 160 := nI_le (Nat.le_refl _) (by decide)
section PM
variable {t : Nat} {q : Nat → Nat} {S σ : MM}
theorem M_setOf_l (h : RepM t q S σ) {j : Nat} (hj : j < 160) (k : Int64 → MM → Prop) : ∀ d i, i + d = 60 → k (setS S j) σ → wX4_setOf_5 k t (d + 1) (nI j) (setF (mI S 2) (mL S 1 j) i) (nI i) σ := by
  intro d
  induction d with
  | zero =>
    intro i hi hk
    have : i = 60 := by omega
    subst this
    unfold wX4_setOf_5
    simp only [show (60 : Int32) ≤ nI 60 from nI_le (a := 60) (Nat.le_refl _) (by decide), true_and, and_true, forall_eq, forall_eq', Option.some.injEq, exists_eq_left', false_implies, true_implies, forall_const, not_false_eq_true, not_true_eq_false, implies_true, b2iT, b2iF, i1n0, i0n1, Option.isSome_some, Option.isSome_none, Option.map_some, Option.map_none, reduceCtorEq, b2i_bz]
    exact hk
  | succ d ih =>
    intro i hi hk
    unfold wX4_setOf_5
    have e1 : ¬ (60 : Int32) ≤ nI i := nI_ge (a := i) (b := 60) (by omega) (by decide)
    simp only [e1, RepM_K h, RepM_r12 h, RepM_k12 h, RepM_n12 h, RepM_i12 h, RepM_r1 h, RepM_k1 h, RepM_n1 h, RepM_i1 h, ix_nI (show j < 2 ^ 31 by omega), ix_nI (show i < 2 ^ 31 by omega), vp_in_nI hj (by decide), vp_in_nI (show i < 60 by omega) (by decide), shr1 (mL S 1 j) (show i < 64 by omega), i64_01, nI_1, true_and, and_true, forall_eq, forall_eq', Option.some.injEq, exists_eq_left', false_implies, true_implies, forall_const, not_false_eq_true, not_true_eq_false, implies_true, b2iT, b2iF, i1n0, i0n1, Option.isSome_some, Option.isSome_none, Option.map_some, Option.map_none, reduceCtorEq, b2i_bz]
    have g := ih (i + 1) (by omega) hk
    cases hb : bT (mL S 1 j) i with
    | true =>
      rw [setF_t hb] at g
      simp only [true_and, and_true, forall_eq, forall_eq', Option.some.injEq, exists_eq_left', false_implies, true_implies, forall_const, not_false_eq_true, not_true_eq_false, implies_true, b2iT, b2iF, i1n0, i0n1, Option.isSome_some, Option.isSome_none, Option.map_some, Option.map_none, reduceCtorEq, b2i_bz]
      exact g
    | false =>
      rw [setF_f hb] at g
      simp only [Bool.false_eq_true, true_and, and_true, forall_eq, forall_eq', Option.some.injEq, exists_eq_left', false_implies, true_implies, forall_const, not_false_eq_true, not_true_eq_false, implies_true, b2iT, b2iF, i1n0, i0n1, Option.isSome_some, Option.isSome_none, Option.map_some, Option.map_none, reduceCtorEq, b2i_bz]
      exact g
theorem M_setOf (h : RepM t q S σ) {j : Nat} (hj : j < 160) (k : Int64 → MM → Prop) (hk : k (setS S j) σ) : wX4_setOf t (nI j) σ k := ⟨61, M_setOf_l h hj k 60 0 rfl hk⟩
theorem M_areAlike (h : RepM t q S σ) {a b : Nat} (ha : a < 160) (hb : b < 160) (k : Int32 → MM → Prop) (hk : k (b2i (alk S a b)) σ) : wX4_areAlike t (nI a) (nI b) σ k := by
  unfold wX4_areAlike
  unfold alk at hk
  simp only [half_nI ha, half_nI hb, RepM_K h, RepM_r10 h, RepM_k10 h, RepM_n10 h, RepM_i10 h, RepM_r11 h, RepM_k11 h, RepM_n11 h, RepM_i11 h, ix_nI (show a / 2 < 2 ^ 31 by omega), ix_nI (show b / 2 < 2 ^ 31 by omega), vp_in_nI (show a / 2 < 80 by omega) (by decide), vp_in_nI (show b / 2 < 80 by omega) (by decide), true_and, and_true, forall_eq, forall_eq', Option.some.injEq, exists_eq_left', false_implies, true_implies, forall_const, not_false_eq_true, not_true_eq_false, implies_true, b2iT, b2iF, i1n0, i0n1, Option.isSome_some, Option.isSome_none, Option.map_some, Option.map_none, reduceCtorEq, b2i_bz]
  by_cases e1 : mI S 4 (a / 2) = mI S 4 (b / 2)
  · by_cases e2 : mI S 5 (a / 2) = mI S 5 (b / 2)
    · simp only [e1, e2, decide_true, Bool.true_and, true_and, and_true, forall_eq, forall_eq', Option.some.injEq, exists_eq_left', false_implies, true_implies, forall_const, not_false_eq_true, not_true_eq_false, implies_true, b2iT, b2iF, i1n0, i0n1, Option.isSome_some, Option.isSome_none, Option.map_some, Option.map_none, reduceCtorEq, b2i_bz] at hk ⊢
      refine M_setOf h ha _ ⟨RepM_K h, M_setOf h hb _ ?_⟩
      by_cases e3 : setS S a = setS S b
      · simp only [e3, decide_true, true_and, and_true, forall_eq, forall_eq', Option.some.injEq, exists_eq_left', false_implies, true_implies, forall_const, not_false_eq_true, not_true_eq_false, implies_true, b2iT, b2iF, i1n0, i0n1, Option.isSome_some, Option.isSome_none, Option.map_some, Option.map_none, reduceCtorEq, b2i_bz] at hk ⊢
        exact hk
      · simp only [e3, decide_false, true_and, and_true, forall_eq, forall_eq', Option.some.injEq, exists_eq_left', false_implies, true_implies, forall_const, not_false_eq_true, not_true_eq_false, implies_true, b2iT, b2iF, i1n0, i0n1, Option.isSome_some, Option.isSome_none, Option.map_some, Option.map_none, reduceCtorEq, b2i_bz] at hk ⊢
        exact hk
    · simp only [e1, e2, decide_true, decide_false, Bool.true_and, Bool.false_and, true_and, and_true, forall_eq, forall_eq', Option.some.injEq, exists_eq_left', false_implies, true_implies, forall_const, not_false_eq_true, not_true_eq_false, implies_true, b2iT, b2iF, i1n0, i0n1, Option.isSome_some, Option.isSome_none, Option.map_some, Option.map_none, reduceCtorEq, b2i_bz] at hk ⊢
      exact hk
  · simp only [e1, decide_false, Bool.false_and, true_and, and_true, forall_eq, forall_eq', Option.some.injEq, exists_eq_left', false_implies, true_implies, forall_const, not_false_eq_true, not_true_eq_false, implies_true, b2iT, b2iF, i1n0, i0n1, Option.isSome_some, Option.isSome_none, Option.map_some, Option.map_none, reduceCtorEq, b2i_bz] at hk ⊢
    exact hk
/-- those alike to an item, of a state (below 0: of any) -/
def lkP (S : MM) (j : Nat) (v : Int32) (i : Nat) : Bool := prs S i && ((decide (v < 0) || decide (mI S 6 i = v)) && alk S i j)
theorem two_nA (hI : Inv S) : (2 : Int32) * nI (mN S 2) = nI (2 * mN S 2) := pk_mul 2 (mN S 2)
theorem vT_is {S : MM} {i : Nat} (hi : i < 160) : (vT S (nI i)).isSome = prs S i := by
  by_cases hp : prs S i = true
  · rw [vT_nI hi hp, hp]; rfl
  · rw [vT_nI_no hi (by simpa using hp)]; simp at hp; rw [hp]; rfl
theorem nI_p0 (n : Nat) : nI n + 0 = nI n := by
  have := nI_add n 0
  exact this
theorem M_likesOf_l (h : RepM t q S σ) (hI : Inv S) {j : Nat} (hj : j < 160) (v : Int32) (k : Int32 → MM → Prop) : ∀ d i, i + d = 2 * mN S 2 → k (nI (cnt (lkP S j v) (2 * mN S 2))) σ → wX4_likesOf_5 k t (d + 1) (nI j) v (nI (cnt (lkP S j v) i)) (nI i) σ := by
  have hA := Inv_A hI
  intro d
  induction d with
  | zero =>
    intro i hi hk
    have : i = 2 * mN S 2 := by omega
    subst this
    unfold wX4_likesOf_5
    simp only [RepM_K h, RepM_nA h, two_nA hI, show nI (2 * mN S 2) ≤ nI (2 * mN S 2) from nI_le (Nat.le_refl _) (by omega), true_and, and_true, forall_eq, forall_eq', Option.some.injEq, exists_eq_left', false_implies, true_implies, forall_const, not_false_eq_true, not_true_eq_false, implies_true, b2iT, b2iF, i1n0, i0n1, Option.isSome_some, Option.isSome_none, Option.map_some, Option.map_none, reduceCtorEq, b2i_bz]
    exact hk
  | succ d ih =>
    intro i hi hk
    have hi2 : i < 160 := by omega
    have g := ih (i + 1) (by omega) hk
    have e1 : ¬ nI (2 * mN S 2) ≤ nI i := nI_ge (by omega) (by omega)
    have alike : (prs S i = true) → (v < 0 ∨ mI S 6 i = v) → wX4_likesOf_41 k t (wX4_likesOf_5 k t (d + 1)) (nI j) v (nI i) (nI (cnt (lkP S j v) i)) σ := by
      intro hp hv
      unfold wX4_likesOf_41
      refine ⟨RepM_K h, M_areAlike h hi2 hj _ ?_⟩
      have hv2 : (decide (v < 0) || decide (mI S 6 i = v)) = true := by simpa using hv
      cases ha : alk S i j with
      | true =>
        rw [cnt_t (by unfold lkP; rw [hp, hv2, ha]; rfl)] at g
        simp only [nI_1, true_and, and_true, forall_eq, forall_eq', Option.some.injEq, exists_eq_left', false_implies, true_implies, forall_const, not_false_eq_true, not_true_eq_false, implies_true, b2iT, b2iF, i1n0, i0n1, Option.isSome_some, Option.isSome_none, Option.map_some, Option.map_none, reduceCtorEq, b2i_bz]
        exact g
      | false =>
        rw [cnt_f (by unfold lkP; rw [ha]; simp)] at g
        simp only [nI_1, nI_p0, true_and, and_true, forall_eq, forall_eq', Option.some.injEq, exists_eq_left', false_implies, true_implies, forall_const, not_false_eq_true, not_true_eq_false, implies_true, b2iT, b2iF, i1n0, i0n1, Option.isSome_some, Option.isSome_none, Option.map_some, Option.map_none, reduceCtorEq, b2i_bz]
        exact g
    unfold wX4_likesOf_5
    simp only [RepM_K h, RepM_nA h, two_nA hI, e1, eM_isItem h hI, vT_is hi2, RepM_r13 h, RepM_k13 h, RepM_n13 h, RepM_i13 h, ix_nI (show i < 2 ^ 31 by omega), vp_in_nI hi2 (by decide), true_and, and_true, forall_eq, forall_eq', Option.some.injEq, exists_eq_left', false_implies, true_implies, forall_const, not_false_eq_true, not_true_eq_false, implies_true, b2iT, b2iF, i1n0, i0n1, Option.isSome_some, Option.isSome_none, Option.map_some, Option.map_none, reduceCtorEq, b2i_bz]
    by_cases hp : prs S i = true
    · simp only [hp, true_and, and_true, forall_eq, forall_eq', Option.some.injEq, exists_eq_left', false_implies, true_implies, forall_const, not_false_eq_true, not_true_eq_false, implies_true, b2iT, b2iF, i1n0, i0n1, Option.isSome_some, Option.isSome_none, Option.map_some, Option.map_none, reduceCtorEq, b2i_bz]
      refine ⟨fun hv => alike hp (Or.inl hv), fun hv => ⟨fun hs => ?_, fun hs => alike hp (Or.inr hs)⟩⟩
      rw [cnt_f (by unfold lkP; simp [hv, hs])] at g
      rw [nI_p0, nI_1]
      exact g
    · have hp2 : prs S i = false := by simpa using hp
      rw [cnt_f (by unfold lkP; rw [hp2]; rfl)] at g
      simp only [hp2, nI_1, nI_p0, true_and, and_true, forall_eq, forall_eq', Option.some.injEq, exists_eq_left', false_implies, true_implies, forall_const, not_false_eq_true, not_true_eq_false, implies_true, b2iT, b2iF, i1n0, i0n1, Option.isSome_some, Option.isSome_none, Option.map_some, Option.map_none, reduceCtorEq, b2i_bz]
      exact g
theorem M_likesOf (h : RepM t q S σ) (hI : Inv S) {j : Nat} (hj : j < 160) (v : Int32) (k : Int32 → MM → Prop) (hk : k (nI (cnt (lkP S j v) 160)) σ) : wX4_likesOf t (nI j) v σ k := by
  have hA := Inv_A hI
  refine ⟨2 * mN S 2 + 1, M_likesOf_l h hI hj v k (2 * mN S 2) 0 (by omega) ?_⟩
  rw [← cnt_to (n := 160) (by omega) (fun i h1 _ => ?_)]
  · exact hk
  · unfold lkP
    have : prs S i = false := by
      simp only [prs, Bool.and_eq_false_iff, decide_eq_false_iff_not]
      exact Or.inl (by omega)
    rw [this]; rfl
end PM
section PC
variable {u : Nat} {q ia ra : Nat → Nat} {S σ : MM} {sf : Nat → Int64}
theorem C_setOf_l (h : RepC u q ia ra S sf σ) (y : Int64) (k : Int64 → MM → Prop) : ∀ d i, i + d = 60 → k (setF (mI S 2) y 60) σ → wX3_setOf_5 k u (d + 1) y (setF (mI S 2) y i) (nI i) σ := by
  intro d
  induction d with
  | zero =>
    intro i hi hk
    have : i = 60 := by omega
    subst this
    unfold wX3_setOf_5
    simp only [RepC_K h, RepC_r4 h, RepC_k4 h, RepC_n4 h, show nI 60 ≤ nI 60 from nI_le (Nat.le_refl _) (by decide), true_and, and_true, forall_eq, forall_eq', Option.some.injEq, exists_eq_left', false_implies, true_implies, forall_const, not_false_eq_true, not_true_eq_false, implies_true, b2iT, b2iF, i1n0, i0n1, Option.isSome_some, Option.isSome_none, Option.map_some, Option.map_none, reduceCtorEq, b2i_bz]
    exact hk
  | succ d ih =>
    intro i hi hk
    unfold wX3_setOf_5
    have e1 : ¬ nI 60 ≤ nI i := nI_ge (by omega) (by decide)
    simp only [e1, RepC_K h, RepC_r4 h, RepC_k4 h, RepC_n4 h, RepC_i4 h, ix_nI (show i < 2 ^ 31 by omega), vp_in_nI (show i < 60 by omega) (by decide), eC_bit y (show i < 64 by omega), b2i_1, nI_1, true_and, and_true, forall_eq, forall_eq', Option.some.injEq, exists_eq_left', false_implies, true_implies, forall_const, not_false_eq_true, not_true_eq_false, implies_true, b2iT, b2iF, i1n0, i0n1, Option.isSome_some, Option.isSome_none, Option.map_some, Option.map_none, reduceCtorEq, b2i_bz]
    have g := ih (i + 1) (by omega) hk
    cases hb : bT y i with
    | true =>
      rw [setF_t hb] at g
      simp only [true_and, and_true, forall_eq, forall_eq', Option.some.injEq, exists_eq_left', false_implies, true_implies, forall_const, not_false_eq_true, not_true_eq_false, implies_true, b2iT, b2iF, i1n0, i0n1, Option.isSome_some, Option.isSome_none, Option.map_some, Option.map_none, reduceCtorEq, b2i_bz]
      exact g
    | false =>
      rw [setF_f hb] at g
      simp only [Bool.false_eq_true, true_and, and_true, forall_eq, forall_eq', Option.some.injEq, exists_eq_left', false_implies, true_implies, forall_const, not_false_eq_true, not_true_eq_false, implies_true, b2iT, b2iF, i1n0, i0n1, Option.isSome_some, Option.isSome_none, Option.map_some, Option.map_none, reduceCtorEq, b2i_bz]
      exact g
theorem C_setOf (h : RepC u q ia ra S sf σ) (y : Int64) (k : Int64 → MM → Prop) (hk : k (setF (mI S 2) y 60) σ) : wX3_setOf u y σ k := ⟨61, C_setOf_l h y k 60 0 rfl hk⟩
theorem C_isAlike (h : RepC u q ia ra S (setS S) σ) {a b : Nat} (ha : prs S a = true) (hb : prs S b = true) (k : Int32 → MM → Prop) (hk : k (b2i (alk S a b)) σ) : wX0_isAlike (ia a) (some (ia b)) σ k := by
  unfold wX0_isAlike
  unfold alk at hk
  simp only [RepC_tK h a ha, RepC_tK h b hb, RepC_t0 h a ha, RepC_t0 h b hb, RepC_t1 h a ha, RepC_t1 h b hb, RepC_t3 h a ha, RepC_t3 h b hb, true_and, and_true, forall_eq, forall_eq', Option.some.injEq, exists_eq_left', false_implies, true_implies, forall_const, not_false_eq_true, not_true_eq_false, implies_true, b2iT, b2iF, i1n0, i0n1, Option.isSome_some, Option.isSome_none, Option.map_some, Option.map_none, reduceCtorEq, b2i_bz]
  by_cases e3 : setS S a = setS S b
  · by_cases e1 : mI S 4 (a / 2) = mI S 4 (b / 2)
    · by_cases e2 : mI S 5 (a / 2) = mI S 5 (b / 2)
      · simp only [e1, e2, e3, decide_true, Bool.true_and, true_and, and_true, forall_eq, forall_eq', Option.some.injEq, exists_eq_left', false_implies, true_implies, forall_const, not_false_eq_true, not_true_eq_false, implies_true, b2iT, b2iF, i1n0, i0n1, Option.isSome_some, Option.isSome_none, Option.map_some, Option.map_none, reduceCtorEq, b2i_bz] at hk ⊢
        exact hk
      · simp only [e1, e2, e3, decide_true, decide_false, Bool.true_and, Bool.false_and, true_and, and_true, forall_eq, forall_eq', Option.some.injEq, exists_eq_left', false_implies, true_implies, forall_const, not_false_eq_true, not_true_eq_false, implies_true, b2iT, b2iF, i1n0, i0n1, Option.isSome_some, Option.isSome_none, Option.map_some, Option.map_none, reduceCtorEq, b2i_bz] at hk ⊢
        exact hk
    · simp only [e1, e3, decide_true, decide_false, Bool.true_and, Bool.false_and, true_and, and_true, forall_eq, forall_eq', Option.some.injEq, exists_eq_left', false_implies, true_implies, forall_const, not_false_eq_true, not_true_eq_false, implies_true, b2iT, b2iF, i1n0, i0n1, Option.isSome_some, Option.isSome_none, Option.map_some, Option.map_none, reduceCtorEq, b2i_bz] at hk ⊢
      exact hk
  · simp only [e3, decide_false, Bool.and_false, true_and, and_true, forall_eq, forall_eq', Option.some.injEq, exists_eq_left', false_implies, true_implies, forall_const, not_false_eq_true, not_true_eq_false, implies_true, b2iT, b2iF, i1n0, i0n1, Option.isSome_some, Option.isSome_none, Option.map_some, Option.map_none, reduceCtorEq, b2i_bz] at hk ⊢
    exact hk
theorem C_countAlike_l (h : RepC u q ia ra S (setS S) σ) {j : Nat} (hj : prs S j = true) (k : Int32 → MM → Prop) : ∀ d i, i + d = 160 → k (nI (cnt (lkP S j (-1)) 160)) σ → wX3_countAlike_4 k u (d + 1) (some (ia j)) (nI (cnt (lkP S j (-1)) i)) (nI i) σ := by
  intro d
  induction d with
  | zero =>
    intro i hi hk
    have : i = 160 := by omega
    subst this
    unfold wX3_countAlike_4
    simp only [RepC_K h, RepC_r5 h, RepC_k5 h, RepC_n5 h, RepC_i5 h, le160, true_and, and_true, forall_eq, forall_eq', Option.some.injEq, exists_eq_left', false_implies, true_implies, forall_const, not_false_eq_true, not_true_eq_false, implies_true, b2iT, b2iF, i1n0, i0n1, Option.isSome_some, Option.isSome_none, Option.map_some, Option.map_none, reduceCtorEq, b2i_bz]
    exact hk
  | succ d ih =>
    intro i hi hk
    unfold wX3_countAlike_4
    have g := ih (i + 1) (by omega) hk
    have e1 : ¬ nI 160 ≤ nI i := nI_ge (by omega) (by decide)
    simp only [e1, RepC_K h, RepC_r5 h, RepC_k5 h, RepC_n5 h, RepC_i5 h, ix_nI (show i < 2 ^ 31 by omega), vp_in_nI (show i < 160 by omega) (by decide), nI_1, true_and, and_true, forall_eq, forall_eq', Option.some.injEq, exists_eq_left', false_implies, true_implies, forall_const, not_false_eq_true, not_true_eq_false, implies_true, b2iT, b2iF, i1n0, i0n1, Option.isSome_some, Option.isSome_none, Option.map_some, Option.map_none, reduceCtorEq, b2i_bz]
    by_cases hp : prs S i = true
    · simp only [hp, if_true, RepC_tK h j hj, true_and, and_true, forall_eq, forall_eq', Option.some.injEq, exists_eq_left', false_implies, true_implies, forall_const, not_false_eq_true, not_true_eq_false, implies_true, b2iT, b2iF, i1n0, i0n1, Option.isSome_some, Option.isSome_none, Option.map_some, Option.map_none, reduceCtorEq, b2i_bz]
      refine C_isAlike h hj hp _ ?_
      cases ha : alk S j i with
      | true =>
        rw [cnt_t (by unfold lkP; rw [hp, alk_comm, ha, m1lt]; rfl)] at g
        simp only [true_and, and_true, forall_eq, forall_eq', Option.some.injEq, exists_eq_left', false_implies, true_implies, forall_const, not_false_eq_true, not_true_eq_false, implies_true, b2iT, b2iF, i1n0, i0n1, Option.isSome_some, Option.isSome_none, Option.map_some, Option.map_none, reduceCtorEq, b2i_bz]
        exact g
      | false =>
        rw [cnt_f (by unfold lkP; rw [alk_comm, ha]; simp)] at g
        simp only [true_and, and_true, forall_eq, forall_eq', Option.some.injEq, exists_eq_left', false_implies, true_implies, forall_const, not_false_eq_true, not_true_eq_false, implies_true, b2iT, b2iF, i1n0, i0n1, Option.isSome_some, Option.isSome_none, Option.map_some, Option.map_none, reduceCtorEq, b2i_bz]
        exact g
    · have hp2 : prs S i = false := by simpa using hp
      rw [cnt_f (by unfold lkP; rw [hp2]; rfl)] at g
      simp only [hp2, Bool.false_eq_true, if_false, true_and, and_true, forall_eq, forall_eq', Option.some.injEq, exists_eq_left', false_implies, true_implies, forall_const, not_false_eq_true, not_true_eq_false, implies_true, b2iT, b2iF, i1n0, i0n1, Option.isSome_some, Option.isSome_none, Option.map_some, Option.map_none, reduceCtorEq, b2i_bz]
      exact g
theorem C_countAlike (h : RepC u q ia ra S (setS S) σ) {j : Nat} (hj : prs S j = true) (k : Int32 → MM → Prop) (hk : k (nI (cnt (lkP S j (-1)) 160)) σ) : wX3_countAlike u (some (ia j)) σ k := ⟨161, C_countAlike_l h hj k 160 0 rfl hk⟩
end PC
