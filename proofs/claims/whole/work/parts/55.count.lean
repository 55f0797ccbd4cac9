/-- a sum below n -/
def sm (f : Nat → Nat) : Nat → Nat
  | 0 => 0
  | n + 1 => sm f n + f n
theorem sm_cong {f g : Nat → Nat} : ∀ n, (∀ k, k < n → f k = g k) → sm f n = sm g n
  | 0, _ => rfl
  | n + 1, h => by
    show sm f n + f n = sm g n + g n
    rw [sm_cong n (fun k hk => h k (by omega)), h n (by omega)]
theorem sm_out {f : Nat → Nat} {m : Nat} (h : ∀ k, m ≤ k → f k = 0) : ∀ d, sm f (m + d) = sm f m
  | 0 => rfl
  | d + 1 => by
    show sm f (m + d) + f (m + d) = _
    rw [sm_out h d, h (m + d) (by omega)]; rfl
theorem cnt_zero {p : Nat → Bool} : ∀ n, (∀ k, k < n → p k = false) → cnt p n = 0
  | 0, _ => rfl
  | n + 1, h => by rw [cnt_f (h n (by omega))]; exact cnt_zero n (fun k hk => h k (by omega))
def csP (S : MM) (v : Int32) (i : Nat) : Bool := prs S i && decide (mI S 6 i = v)
def slP (S : MM) (i : Nat) : Bool := prs S i && sta S i
def qB (S : MM) (a b : Nat) : Bool := decide (a < b) && qr S a b
def qRow (S : MM) (a : Nat) : Nat := cnt (qB S a) 40
def fCount (S : MM) (x : Int32) : Int32 := if x = 0 then nI (mN S 0) else if x = 1 then nI (mN S 2) else if x = 2 then nI (cnt (prs S) 160) else if x = 3 then nI (mN S 3) else if x = 4 then nI (cnt (csP S 0) 160) else if x = 5 then nI (cnt (csP S 1) 160) else if x = 6 then nI (cnt (csP S 2) 160) else if x = 7 then nI (sm (qRow S) 40) else if x = 8 then nI (cnt (slP S) 160) else if x = 9 then nI (mN S 1) else -1
theorem out9 {y : Int32} (h : y.toInt < 0 ∨ 9 < y.toInt) : ¬ y = 0 ∧ ¬ y = 1 ∧ ¬ y = 2 ∧ ¬ y = 3 ∧ ¬ y = 4 ∧ ¬ y = 5 ∧ ¬ y = 6 ∧ ¬ y = 7 ∧ ¬ y = 8 ∧ ¬ y = 9 := by
  refine ⟨?_, ?_, ?_, ?_, ?_, ?_, ?_, ?_, ?_, ?_⟩ <;> intro e <;> subst e <;> revert h <;> decide
theorem csP_out {S : MM} {v : Int32} {i : Nat} (h : 2 * mN S 2 ≤ i) : csP S v i = false := by unfold csP; rw [prs_out h]; rfl
theorem slP_out {S : MM} {i : Nat} (h : 2 * mN S 2 ≤ i) : slP S i = false := by unfold slP; rw [prs_out h]; rfl
theorem qB_out {S : MM} {a b : Nat} (h : mN S 3 ≤ a ∨ mN S 3 ≤ b) : qB S a b = false := by unfold qB; rw [qr_out h]; simp
theorem cnt_three {S : MM} (hI : Inv S) : ∀ n, cnt (csP S 0) n + cnt (csP S 1) n + cnt (csP S 2) n = cnt (prs S) n
  | 0 => rfl
  | n + 1 => by
    have ih := cnt_three hI n
    cases hp : prs S n with
    | false =>
      rw [cnt_f hp, cnt_f (by unfold csP; rw [hp]; rfl), cnt_f (by unfold csP; rw [hp]; rfl), cnt_f (by unfold csP; rw [hp]; rfl)]
      exact ih
    | true =>
      rw [cnt_t hp]
      have three : mI S 6 n = 1 ∨ mI S 6 n = 0 ∨ mI S 6 n = 2 := by
        rcases Inv_it hI n hp with z | z
        · exact Or.inl z.1
        · exact Or.inr z.1
      rcases three with z | z | z
      · rw [cnt_f (by unfold csP; rw [z]; simp), cnt_t (by unfold csP; rw [z, hp]; rfl), cnt_f (by unfold csP; rw [z]; simp)]
        omega
      · rw [cnt_t (by unfold csP; rw [z, hp]; rfl), cnt_f (by unfold csP; rw [z]; simp), cnt_f (by unfold csP; rw [z]; simp)]
        omega
      · rw [cnt_f (by unfold csP; rw [z]; simp), cnt_f (by unfold csP; rw [z]; simp), cnt_t (by unfold csP; rw [z, hp]; rfl)]
        omega
section PM
variable {t : Nat} {q : Nat → Nat} {S σ : MM}
theorem M_cnt68 (h : RepM t q S σ) (hI : Inv S) (k : Int32 → MM → Prop) (hk : k (nI (cnt (prs S) (2 * mN S 2))) σ) : ∀ d i, i + d = 2 * mN S 2 → wX4_count_68 k t (d + 1) (nI (cnt (prs S) i)) (nI i) σ := by
  have hA := Inv_A hI
  intro d
  induction d with
  | zero =>
    intro i hi
    have : i = 2 * mN S 2 := by omega
    subst this
    unfold wX4_count_68
    simp only [RepM_K h, RepM_nA h, two_nA hI, show nI (2 * mN S 2) ≤ nI (2 * mN S 2) from nI_le (Nat.le_refl _) (by omega), true_and, and_true, forall_eq, forall_eq', Option.some.injEq, exists_eq_left', false_implies, true_implies, forall_const, not_false_eq_true, not_true_eq_false, implies_true, b2iT, b2iF, i1n0, i0n1, Option.isSome_some, Option.isSome_none, Option.map_some, Option.map_none, reduceCtorEq, b2i_bz]
    exact hk
  | succ d ih =>
    intro i hi
    have hi2 : i < 160 := by omega
    have e1 : ¬ nI (2 * mN S 2) ≤ nI i := nI_ge (by omega) (by omega)
    have gg := ih (i + 1) (by omega)
    unfold wX4_count_68
    simp only [RepM_K h, RepM_nA h, two_nA hI, e1, eM_isItem h hI, vT_is hi2, nI_1, nI_p0, true_and, and_true, forall_eq, forall_eq', Option.some.injEq, exists_eq_left', false_implies, true_implies, forall_const, not_false_eq_true, not_true_eq_false, implies_true, b2iT, b2iF, i1n0, i0n1, Option.isSome_some, Option.isSome_none, Option.map_some, Option.map_none, reduceCtorEq, b2i_bz]
    cases hp : prs S i with
    | true => rw [cnt_t hp] at gg; simp only [true_and, and_true, forall_eq, forall_eq', Option.some.injEq, exists_eq_left', false_implies, true_implies, forall_const, not_false_eq_true, not_true_eq_false, implies_true, b2iT, b2iF, i1n0, i0n1, Option.isSome_some, Option.isSome_none, Option.map_some, Option.map_none, reduceCtorEq, b2i_bz]; exact gg
    | false => rw [cnt_f hp] at gg; simp only [true_and, and_true, forall_eq, forall_eq', Option.some.injEq, exists_eq_left', false_implies, true_implies, forall_const, not_false_eq_true, not_true_eq_false, implies_true, b2iT, b2iF, i1n0, i0n1, Option.isSome_some, Option.isSome_none, Option.map_some, Option.map_none, reduceCtorEq, b2i_bz]; exact gg
theorem M_cnt109 (h : RepM t q S σ) (hI : Inv S) (x v : Int32) (hv : x - 4 = v) (k : Int32 → MM → Prop) (hk : k (nI (cnt (csP S v) (2 * mN S 2))) σ) : ∀ d i, i + d = 2 * mN S 2 → wX4_count_109 k t (d + 1) x (nI (cnt (csP S v) i)) (nI i) σ := by
  have hA := Inv_A hI
  intro d
  induction d with
  | zero =>
    intro i hi
    have : i = 2 * mN S 2 := by omega
    subst this
    unfold wX4_count_109
    simp only [RepM_K h, RepM_nA h, two_nA hI, show nI (2 * mN S 2) ≤ nI (2 * mN S 2) from nI_le (Nat.le_refl _) (by omega), true_and, and_true, forall_eq, forall_eq', Option.some.injEq, exists_eq_left', false_implies, true_implies, forall_const, not_false_eq_true, not_true_eq_false, implies_true, b2iT, b2iF, i1n0, i0n1, Option.isSome_some, Option.isSome_none, Option.map_some, Option.map_none, reduceCtorEq, b2i_bz]
    exact hk
  | succ d ih =>
    intro i hi
    have hi2 : i < 160 := by omega
    have e1 : ¬ nI (2 * mN S 2) ≤ nI i := nI_ge (by omega) (by omega)
    have gg := ih (i + 1) (by omega)
    unfold wX4_count_109
    simp only [RepM_K h, RepM_nA h, two_nA hI, e1, eM_isItem h hI, vT_is hi2, nI_1, nI_p0, hv, true_and, and_true, forall_eq, forall_eq', Option.some.injEq, exists_eq_left', false_implies, true_implies, forall_const, not_false_eq_true, not_true_eq_false, implies_true, b2iT, b2iF, i1n0, i0n1, Option.isSome_some, Option.isSome_none, Option.map_some, Option.map_none, reduceCtorEq, b2i_bz]
    cases hp : prs S i with
    | true =>
      simp only [RepM_r13 h, RepM_k13 h, RepM_n13 h, RepM_i13 h, ix_nI (show i < 2 ^ 31 by omega), vp_in_nI hi2 (by decide), true_and, and_true, forall_eq, forall_eq', Option.some.injEq, exists_eq_left', false_implies, true_implies, forall_const, not_false_eq_true, not_true_eq_false, implies_true, b2iT, b2iF, i1n0, i0n1, Option.isSome_some, Option.isSome_none, Option.map_some, Option.map_none, reduceCtorEq, b2i_bz]
      refine ⟨fun e => ?_, fun e => ?_⟩
      · rw [cnt_f (by unfold csP; simp [e])] at gg; exact gg
      · rw [cnt_t (by unfold csP; simp [e, hp])] at gg; exact gg
    | false => rw [cnt_f (by unfold csP; simp [hp])] at gg; simp only [true_and, and_true, forall_eq, forall_eq', Option.some.injEq, exists_eq_left', false_implies, true_implies, forall_const, not_false_eq_true, not_true_eq_false, implies_true, b2iT, b2iF, i1n0, i0n1, Option.isSome_some, Option.isSome_none, Option.map_some, Option.map_none, reduceCtorEq, b2i_bz]; exact gg
theorem M_cnt213 (hI : Inv S) (k : Int32 → MM → Prop) (σ0 : MM) (hk : ∀ σ1, RepM t q S σ1 → FrM q σ0 σ1 → k (nI (cnt (slP S) (2 * mN S 2))) σ1) : ∀ d i (σ : MM), i + d = 2 * mN S 2 → RepM t q S σ → FrM q σ0 σ → wX4_count_213 k t (d + 1) (nI (cnt (slP S) i)) (nI i) σ := by
  have hA := Inv_A hI
  intro d
  induction d with
  | zero =>
    intro i σ hi h hf
    have : i = 2 * mN S 2 := by omega
    subst this
    unfold wX4_count_213
    simp only [RepM_K h, RepM_nA h, two_nA hI, show nI (2 * mN S 2) ≤ nI (2 * mN S 2) from nI_le (Nat.le_refl _) (by omega), true_and, and_true, forall_eq, forall_eq', Option.some.injEq, exists_eq_left', false_implies, true_implies, forall_const, not_false_eq_true, not_true_eq_false, implies_true, b2iT, b2iF, i1n0, i0n1, Option.isSome_some, Option.isSome_none, Option.map_some, Option.map_none, reduceCtorEq, b2i_bz]
    exact hk σ h hf
  | succ d ih =>
    intro i σ hi h hf
    have hi2 : i < 160 := by omega
    have e1 : ¬ nI (2 * mN S 2) ≤ nI i := nI_ge (by omega) (by omega)
    unfold wX4_count_213
    simp only [RepM_K h, RepM_nA h, two_nA hI, e1, eM_isItem h hI, vT_is hi2, nI_1, nI_p0, true_and, and_true, forall_eq, forall_eq', Option.some.injEq, exists_eq_left', false_implies, true_implies, forall_const, not_false_eq_true, not_true_eq_false, implies_true, b2iT, b2iF, i1n0, i0n1, Option.isSome_some, Option.isSome_none, Option.map_some, Option.map_none, reduceCtorEq, b2i_bz]
    cases hp : prs S i with
    | true =>
      simp only [true_and, and_true, forall_eq, forall_eq', Option.some.injEq, exists_eq_left', false_implies, true_implies, forall_const, not_false_eq_true, not_true_eq_false, implies_true, b2iT, b2iF, i1n0, i0n1, Option.isSome_some, Option.isSome_none, Option.map_some, Option.map_none, reduceCtorEq, b2i_bz]
      refine M_isStale h hI hi2 _ (fun σ1 g f => ?_)
      have gg := ih (i + 1) σ1 (by omega) g (FrM_tr hf f)
      cases hs : sta S i with
      | true => rw [cnt_t (by unfold slP; rw [hp, hs]; rfl)] at gg; simp only [true_and, and_true, forall_eq, forall_eq', Option.some.injEq, exists_eq_left', false_implies, true_implies, forall_const, not_false_eq_true, not_true_eq_false, implies_true, b2iT, b2iF, i1n0, i0n1, Option.isSome_some, Option.isSome_none, Option.map_some, Option.map_none, reduceCtorEq, b2i_bz]; exact gg
      | false => rw [cnt_f (by unfold slP; rw [hp, hs]; rfl)] at gg; simp only [true_and, and_true, forall_eq, forall_eq', Option.some.injEq, exists_eq_left', false_implies, true_implies, forall_const, not_false_eq_true, not_true_eq_false, implies_true, b2iT, b2iF, i1n0, i0n1, Option.isSome_some, Option.isSome_none, Option.map_some, Option.map_none, reduceCtorEq, b2i_bz]; exact gg
    | false =>
      have gg := ih (i + 1) σ (by omega) h hf
      rw [cnt_f (by unfold slP; simp [hp])] at gg; simp only [true_and, and_true, forall_eq, forall_eq', Option.some.injEq, exists_eq_left', false_implies, true_implies, forall_const, not_false_eq_true, not_true_eq_false, implies_true, b2iT, b2iF, i1n0, i0n1, Option.isSome_some, Option.isSome_none, Option.map_some, Option.map_none, reduceCtorEq, b2i_bz]; exact gg
theorem M_cnt170 (h : RepM t q S σ) (hI : Inv S) (k : Int32 → MM → Prop) (g : Int32 → Int32 → MM → Prop) {a n : Nat} (ha : a < mN S 3) (hg : g (nI (n + cnt (qB S a) (mN S 3))) (nI (a + 1)) σ) : ∀ d b, b + d = mN S 3 → a < b → wX4_count_170 k t g (d + 1) (nI (n + cnt (qB S a) b)) (nI a) (nI b) σ := by
  have hR := Inv_R hI
  intro d
  induction d with
  | zero =>
    intro b hb hab
    have : b = mN S 3 := by omega
    subst this
    unfold wX4_count_170
    simp only [RepM_K h, RepM_nR h, show nI (mN S 3) ≤ nI (mN S 3) from nI_le (Nat.le_refl _) (by omega), nI_1, true_and, and_true, forall_eq, forall_eq', Option.some.injEq, exists_eq_left', false_implies, true_implies, forall_const, not_false_eq_true, not_true_eq_false, implies_true, b2iT, b2iF, i1n0, i0n1, Option.isSome_some, Option.isSome_none, Option.map_some, Option.map_none, reduceCtorEq, b2i_bz]
    exact hg
  | succ d ih =>
    intro b hb hab
    have gg := ih (b + 1) (by omega) (by omega)
    unfold wX4_count_170
    simp only [RepM_K h, RepM_nR h, show ¬ nI (mN S 3) ≤ nI b from nI_ge (by omega) (by omega), nI_1, nI_p0, true_and, and_true, forall_eq, forall_eq', Option.some.injEq, exists_eq_left', false_implies, true_implies, forall_const, not_false_eq_true, not_true_eq_false, implies_true, b2iT, b2iF, i1n0, i0n1, Option.isSome_some, Option.isSome_none, Option.map_some, Option.map_none, reduceCtorEq, b2i_bz]
    refine M_quarrels h hI ha (by omega) _ ?_
    have eb : qB S a b = qr S a b := by unfold qB; simp [hab]
    cases hq : qr S a b with
    | true => rw [cnt_t (by rw [eb, hq])] at gg; simp only [true_and, and_true, forall_eq, forall_eq', Option.some.injEq, exists_eq_left', false_implies, true_implies, forall_const, not_false_eq_true, not_true_eq_false, implies_true, b2iT, b2iF, i1n0, i0n1, Option.isSome_some, Option.isSome_none, Option.map_some, Option.map_none, reduceCtorEq, b2i_bz]; exact gg
    | false => rw [cnt_f (by rw [eb, hq])] at gg; simp only [true_and, and_true, forall_eq, forall_eq', Option.some.injEq, exists_eq_left', false_implies, true_implies, forall_const, not_false_eq_true, not_true_eq_false, implies_true, b2iT, b2iF, i1n0, i0n1, Option.isSome_some, Option.isSome_none, Option.map_some, Option.map_none, reduceCtorEq, b2i_bz]; exact gg
theorem M_cnt157 (h : RepM t q S σ) (hI : Inv S) (k : Int32 → MM → Prop) (hk : k (nI (sm (fun a => cnt (qB S a) (mN S 3)) (mN S 3))) σ) : ∀ d a, a + d = mN S 3 → wX4_count_157 k t (d + 1) (nI (sm (fun a => cnt (qB S a) (mN S 3)) a)) (nI a) σ := by
  have hR := Inv_R hI
  intro d
  induction d with
  | zero =>
    intro a ha
    have : a = mN S 3 := by omega
    subst this
    unfold wX4_count_157
    simp only [RepM_K h, RepM_nR h, show nI (mN S 3) ≤ nI (mN S 3) from nI_le (Nat.le_refl _) (by omega), true_and, and_true, forall_eq, forall_eq', Option.some.injEq, exists_eq_left', false_implies, true_implies, forall_const, not_false_eq_true, not_true_eq_false, implies_true, b2iT, b2iF, i1n0, i0n1, Option.isSome_some, Option.isSome_none, Option.map_some, Option.map_none, reduceCtorEq, b2i_bz]
    exact hk
  | succ d ih =>
    intro a ha
    have gg := ih (a + 1) (by omega)
    unfold wX4_count_157
    simp only [RepM_K h, RepM_nR h, show ¬ nI (mN S 3) ≤ nI a from nI_ge (by omega) (by omega), nI_1, true_and, and_true, forall_eq, forall_eq', Option.some.injEq, exists_eq_left', false_implies, true_implies, forall_const, not_false_eq_true, not_true_eq_false, implies_true, b2iT, b2iF, i1n0, i0n1, Option.isSome_some, Option.isSome_none, Option.map_some, Option.map_none, reduceCtorEq, b2i_bz]
    have z : cnt (qB S a) (a + 1) = 0 := cnt_zero _ (fun b hb => by unfold qB; rw [decide_eq_false (by omega)]; rfl)
    have g2 := M_cnt170 h hI k (wX4_count_157 k t (d + 1)) (a := a) (n := sm (fun a => cnt (qB S a) (mN S 3)) a) (by omega) gg (mN S 3 - (a + 1)) (a + 1) (by omega) (by omega)
    rw [z] at g2
    exact ⟨_, g2⟩
theorem qRow_sm (hI : Inv S) : sm (fun a => cnt (qB S a) (mN S 3)) (mN S 3) = sm (qRow S) 40 := by
  have hR := Inv_R hI
  have e : ∀ a, cnt (qB S a) (mN S 3) = qRow S a := fun a => (cnt_to (n := 40) (by omega) (fun b hb _ => qB_out (Or.inr hb))).symm
  rw [sm_cong _ (fun a _ => e a)]
  have := sm_out (f := qRow S) (m := mN S 3) (fun a ha => cnt_zero 40 (fun b _ => qB_out (Or.inl ha))) (40 - mN S 3)
  rw [show mN S 3 + (40 - mN S 3) = 40 by omega] at this
  exact this.symm
theorem M_count (h : RepM t q S σ) (hI : Inv S) (x : Int32) (k : Int32 → MM → Prop) (hk : ∀ σ1, RepM t q S σ1 → FrM q σ σ1 → k (fCount S x) σ1) : wX4_count t x σ k := by
  have hk0 := hk σ h (FrM_refl q σ)
  unfold wX4_count
  refine ⟨fun e => ?_, fun e => ?_, fun e => ?_, fun e => ?_, fun e => ?_, fun e => ?_, fun e => ?_, fun e => ?_, fun e => ?_, fun e => ?_, fun e => ?_⟩
  · obtain ⟨a0, a1, a2, a3, a4, a5, a6, a7, a8, a9⟩ := out9 e
    unfold fCount at hk0
    rw [if_neg a0, if_neg a1, if_neg a2, if_neg a3, if_neg a4, if_neg a5, if_neg a6, if_neg a7, if_neg a8, if_neg a9] at hk0
    exact hk0
  · subst e; rw [RepM_nC h]; exact ⟨RepM_K h, hk0⟩
  · subst e; rw [RepM_nA h]; exact ⟨RepM_K h, hk0⟩
  · subst e
    have e2 : fCount S 2 = nI (cnt (prs S) (2 * mN S 2)) := by
      show nI (cnt (prs S) 160) = _
      rw [cnt_160 hI (fun i hi => prs_out hi)]
    rw [e2] at hk0
    exact ⟨2 * mN S 2 + 1, M_cnt68 h hI k hk0 (2 * mN S 2) 0 (by omega)⟩
  · subst e; rw [RepM_nR h]; exact ⟨RepM_K h, hk0⟩
  · subst e
    have e2 : fCount S 4 = nI (cnt (csP S 0) (2 * mN S 2)) := by
      show nI (cnt (csP S 0) 160) = _
      rw [cnt_160 hI (fun i hi => csP_out hi)]
    rw [e2] at hk0
    exact ⟨2 * mN S 2 + 1, M_cnt109 h hI 4 0 rfl k hk0 (2 * mN S 2) 0 (by omega)⟩
  · subst e
    have e2 : fCount S 5 = nI (cnt (csP S 1) (2 * mN S 2)) := by
      show nI (cnt (csP S 1) 160) = _
      rw [cnt_160 hI (fun i hi => csP_out hi)]
    rw [e2] at hk0
    exact ⟨2 * mN S 2 + 1, M_cnt109 h hI 5 1 rfl k hk0 (2 * mN S 2) 0 (by omega)⟩
  · subst e
    have e2 : fCount S 6 = nI (cnt (csP S 2) (2 * mN S 2)) := by
      show nI (cnt (csP S 2) 160) = _
      rw [cnt_160 hI (fun i hi => csP_out hi)]
    rw [e2] at hk0
    exact ⟨2 * mN S 2 + 1, M_cnt109 h hI 6 2 rfl k hk0 (2 * mN S 2) 0 (by omega)⟩
  · subst e
    have e2 : fCount S 7 = nI (sm (fun a => cnt (qB S a) (mN S 3)) (mN S 3)) := by
      show nI (sm (qRow S) 40) = _
      rw [qRow_sm hI]
    rw [e2] at hk0
    exact ⟨mN S 3 + 1, M_cnt157 h hI k hk0 (mN S 3) 0 (by omega)⟩
  · subst e
    have e2 : fCount S 8 = nI (cnt (slP S) (2 * mN S 2)) := by
      show nI (cnt (slP S) 160) = _
      rw [cnt_160 hI (fun i hi => slP_out hi)]
    rw [e2] at hk
    exact ⟨2 * mN S 2 + 1, M_cnt213 hI k σ hk (2 * mN S 2) 0 σ (by omega) h (FrM_refl q σ)⟩
  · subst e; rw [RepM_nO h]; exact ⟨RepM_K h, hk0⟩
end PM
section PC
variable {u : Nat} {q ia ra : Nat → Nat} {S σ : MM} {sf : Nat → Int64}
theorem C_state_l (h : RepC u q ia ra S sf σ) (v : Int32) (k : Int32 → MM → Prop) (hk : k (nI (cnt (csP S v) 160)) σ) : ∀ d i, i + d = 160 → wX3_countState_4 k u (d + 1) v (nI (cnt (csP S v) i)) (nI i) σ := by
  intro d
  induction d with
  | zero =>
    intro i hi
    have : i = 160 := by omega
    subst this
    unfold wX3_countState_4
    simp only [RepC_K h, RepC_r5 h, RepC_k5 h, RepC_n5 h, RepC_i5 h, le160, true_and, and_true, forall_eq, forall_eq', Option.some.injEq, exists_eq_left', false_implies, true_implies, forall_const, not_false_eq_true, not_true_eq_false, implies_true, b2iT, b2iF, i1n0, i0n1, Option.isSome_some, Option.isSome_none, Option.map_some, Option.map_none, reduceCtorEq, b2i_bz]
    exact hk
  | succ d ih =>
    intro i hi
    have e1 : ¬ nI 160 ≤ nI i := nI_ge (by omega) (by decide)
    have gg := ih (i + 1) (by omega)
    unfold wX3_countState_4
    simp only [e1, RepC_K h, RepC_r5 h, RepC_k5 h, RepC_n5 h, RepC_i5 h, ix_nI (show i < 2 ^ 31 by omega), vp_in_nI (show i < 160 by omega) (by decide), nI_1, true_and, and_true, forall_eq, forall_eq', Option.some.injEq, exists_eq_left', false_implies, true_implies, forall_const, not_false_eq_true, not_true_eq_false, implies_true, b2iT, b2iF, i1n0, i0n1, Option.isSome_some, Option.isSome_none, Option.map_some, Option.map_none, reduceCtorEq, b2i_bz]
    by_cases hp : prs S i = true
    · simp only [hp, if_true, RepC_tK h i hp, RepC_t4 h i hp, true_and, and_true, forall_eq, forall_eq', Option.some.injEq, exists_eq_left', false_implies, true_implies, forall_const, not_false_eq_true, not_true_eq_false, implies_true, b2iT, b2iF, i1n0, i0n1, Option.isSome_some, Option.isSome_none, Option.map_some, Option.map_none, reduceCtorEq, b2i_bz]
      refine ⟨fun e => ?_, fun e => ?_⟩
      · rw [cnt_f (by unfold csP; simp [e])] at gg; exact gg
      · rw [cnt_t (by unfold csP; simp [e, hp])] at gg; exact gg
    · have hp2 : prs S i = false := by simpa using hp
      simp only [hp2, Bool.false_eq_true, if_false, true_and, and_true, forall_eq, forall_eq', Option.some.injEq, exists_eq_left', false_implies, true_implies, forall_const, not_false_eq_true, not_true_eq_false, implies_true, b2iT, b2iF, i1n0, i0n1, Option.isSome_some, Option.isSome_none, Option.map_some, Option.map_none, reduceCtorEq, b2i_bz]
      rw [cnt_f (by unfold csP; simp [hp2])] at gg; exact gg
theorem C_countState (h : RepC u q ia ra S sf σ) (v : Int32) (k : Int32 → MM → Prop) (hk : k (nI (cnt (csP S v) 160)) σ) : wX3_countState u v σ k := by
  refine ⟨160 + 1, ?_⟩
  exact C_state_l h v k hk 160 0 (by omega)
theorem C_stale_l (h : RepC u q ia ra S (setS S) σ) (hI : Inv S) (k : Int32 → MM → Prop) (hk : k (nI (cnt (slP S) 160)) σ) : ∀ d i, i + d = 160 → wX3_countStale_4 k u (d + 1) (nI (cnt (slP S) i)) (nI i) σ := by
  intro d
  induction d with
  | zero =>
    intro i hi
    have : i = 160 := by omega
    subst this
    unfold wX3_countStale_4
    simp only [RepC_K h, RepC_r5 h, RepC_k5 h, RepC_n5 h, RepC_i5 h, le160, true_and, and_true, forall_eq, forall_eq', Option.some.injEq, exists_eq_left', false_implies, true_implies, forall_const, not_false_eq_true, not_true_eq_false, implies_true, b2iT, b2iF, i1n0, i0n1, Option.isSome_some, Option.isSome_none, Option.map_some, Option.map_none, reduceCtorEq, b2i_bz]
    exact hk
  | succ d ih =>
    intro i hi
    have e1 : ¬ nI 160 ≤ nI i := nI_ge (by omega) (by decide)
    have gg := ih (i + 1) (by omega)
    unfold wX3_countStale_4
    simp only [e1, RepC_K h, RepC_r5 h, RepC_k5 h, RepC_n5 h, RepC_i5 h, ix_nI (show i < 2 ^ 31 by omega), vp_in_nI (show i < 160 by omega) (by decide), nI_1, true_and, and_true, forall_eq, forall_eq', Option.some.injEq, exists_eq_left', false_implies, true_implies, forall_const, not_false_eq_true, not_true_eq_false, implies_true, b2iT, b2iF, i1n0, i0n1, Option.isSome_some, Option.isSome_none, Option.map_some, Option.map_none, reduceCtorEq, b2i_bz]
    by_cases hp : prs S i = true
    · simp only [hp, if_true, true_and, and_true, forall_eq, forall_eq', Option.some.injEq, exists_eq_left', false_implies, true_implies, forall_const, not_false_eq_true, not_true_eq_false, implies_true, b2iT, b2iF, i1n0, i0n1, Option.isSome_some, Option.isSome_none, Option.map_some, Option.map_none, reduceCtorEq, b2i_bz]
      refine C_isStale h hI hp _ ?_
      cases hs : sta S i with
      | true => rw [cnt_t (by unfold slP; rw [hp, hs]; rfl)] at gg; simp only [true_and, and_true, forall_eq, forall_eq', Option.some.injEq, exists_eq_left', false_implies, true_implies, forall_const, not_false_eq_true, not_true_eq_false, implies_true, b2iT, b2iF, i1n0, i0n1, Option.isSome_some, Option.isSome_none, Option.map_some, Option.map_none, reduceCtorEq, b2i_bz]; exact gg
      | false => rw [cnt_f (by unfold slP; rw [hp, hs]; rfl)] at gg; simp only [true_and, and_true, forall_eq, forall_eq', Option.some.injEq, exists_eq_left', false_implies, true_implies, forall_const, not_false_eq_true, not_true_eq_false, implies_true, b2iT, b2iF, i1n0, i0n1, Option.isSome_some, Option.isSome_none, Option.map_some, Option.map_none, reduceCtorEq, b2i_bz]; exact gg
    · have hp2 : prs S i = false := by simpa using hp
      simp only [hp2, Bool.false_eq_true, if_false, true_and, and_true, forall_eq, forall_eq', Option.some.injEq, exists_eq_left', false_implies, true_implies, forall_const, not_false_eq_true, not_true_eq_false, implies_true, b2iT, b2iF, i1n0, i0n1, Option.isSome_some, Option.isSome_none, Option.map_some, Option.map_none, reduceCtorEq, b2i_bz]
      unfold wX3_isStale
      simp only [true_and, and_true, forall_eq, forall_eq', Option.some.injEq, exists_eq_left', false_implies, true_implies, forall_const, not_false_eq_true, not_true_eq_false, implies_true, b2iT, b2iF, i1n0, i0n1, Option.isSome_some, Option.isSome_none, Option.map_some, Option.map_none, reduceCtorEq, b2i_bz]
      rw [cnt_f (by unfold slP; simp [hp2])] at gg; exact gg
theorem C_cq17 (h : RepC u q ia ra S sf σ) (hI : Inv S) (k : Int32 → MM → Prop) (g : Int32 → Int32 → MM → Prop) {a n : Nat} (ha : a < 40) (hg : g (nI (n + cnt (qB S a) 40)) (nI (a + 1)) σ) : ∀ d b, b + d = 40 → a < b → wX3_countQuarrels_17 k u g (d + 1) (nI (n + cnt (qB S a) b)) (nI a) (nI b) σ := by
  intro d
  induction d with
  | zero =>
    intro b hb hab
    have : b = 40 := by omega
    subst this
    unfold wX3_countQuarrels_17
    simp only [RepC_K h, RepC_r7 h, RepC_k7 h, RepC_n7 h, le40, nI_1, true_and, and_true, forall_eq, forall_eq', Option.some.injEq, exists_eq_left', false_implies, true_implies, forall_const, not_false_eq_true, not_true_eq_false, implies_true, b2iT, b2iF, i1n0, i0n1, Option.isSome_some, Option.isSome_none, Option.map_some, Option.map_none, reduceCtorEq, b2i_bz]
    exact hg
  | succ d ih =>
    intro b hb hab
    have gg := ih (b + 1) (by omega) (by omega)
    unfold wX3_countQuarrels_17
    simp only [RepC_K h, RepC_r7 h, RepC_k7 h, RepC_n7 h, show ¬ nI 40 ≤ nI b from nI_ge (by omega) (by decide), nI_1, true_and, and_true, forall_eq, forall_eq', Option.some.injEq, exists_eq_left', false_implies, true_implies, forall_const, not_false_eq_true, not_true_eq_false, implies_true, b2iT, b2iF, i1n0, i0n1, Option.isSome_some, Option.isSome_none, Option.map_some, Option.map_none, reduceCtorEq, b2i_bz]
    refine C_doQuarrel h hI ha (by omega) _ ?_
    have eb : qB S a b = qr S a b := by unfold qB; simp [hab]
    cases hq : qr S a b with
    | true => rw [cnt_t (by rw [eb, hq])] at gg; simp only [true_and, and_true, forall_eq, forall_eq', Option.some.injEq, exists_eq_left', false_implies, true_implies, forall_const, not_false_eq_true, not_true_eq_false, implies_true, b2iT, b2iF, i1n0, i0n1, Option.isSome_some, Option.isSome_none, Option.map_some, Option.map_none, reduceCtorEq, b2i_bz]; exact gg
    | false => rw [cnt_f (by rw [eb, hq])] at gg; simp only [true_and, and_true, forall_eq, forall_eq', Option.some.injEq, exists_eq_left', false_implies, true_implies, forall_const, not_false_eq_true, not_true_eq_false, implies_true, b2iT, b2iF, i1n0, i0n1, Option.isSome_some, Option.isSome_none, Option.map_some, Option.map_none, reduceCtorEq, b2i_bz]; exact gg
theorem C_cq4 (h : RepC u q ia ra S sf σ) (hI : Inv S) (k : Int32 → MM → Prop) (hk : k (nI (sm (qRow S) 40)) σ) : ∀ d a, a + d = 40 → wX3_countQuarrels_4 k u (d + 1) (nI (sm (qRow S) a)) (nI a) σ := by
  intro d
  induction d with
  | zero =>
    intro a ha
    have : a = 40 := by omega
    subst this
    unfold wX3_countQuarrels_4
    simp only [RepC_K h, RepC_r7 h, RepC_k7 h, RepC_n7 h, le40, true_and, and_true, forall_eq, forall_eq', Option.some.injEq, exists_eq_left', false_implies, true_implies, forall_const, not_false_eq_true, not_true_eq_false, implies_true, b2iT, b2iF, i1n0, i0n1, Option.isSome_some, Option.isSome_none, Option.map_some, Option.map_none, reduceCtorEq, b2i_bz]
    exact hk
  | succ d ih =>
    intro a ha
    have gg := ih (a + 1) (by omega)
    unfold wX3_countQuarrels_4
    simp only [RepC_K h, RepC_r7 h, RepC_k7 h, RepC_n7 h, show ¬ nI 40 ≤ nI a from nI_ge (by omega) (by decide), nI_1, true_and, and_true, forall_eq, forall_eq', Option.some.injEq, exists_eq_left', false_implies, true_implies, forall_const, not_false_eq_true, not_true_eq_false, implies_true, b2iT, b2iF, i1n0, i0n1, Option.isSome_some, Option.isSome_none, Option.map_some, Option.map_none, reduceCtorEq, b2i_bz]
    have z : cnt (qB S a) (a + 1) = 0 := cnt_zero _ (fun b hb => by unfold qB; rw [decide_eq_false (by omega)]; rfl)
    have g2 := C_cq17 h hI k (wX3_countQuarrels_4 k u (d + 1)) (a := a) (n := sm (qRow S) a) (by omega) gg (40 - (a + 1)) (a + 1) (by omega) (by omega)
    rw [z] at g2
    exact ⟨_, g2⟩
theorem C_count (h : RepC u q ia ra S (setS S) σ) (hI : Inv S) (x : Int32) (k : Int32 → MM → Prop) (hk : k (fCount S x) σ) : wX3_count u x σ k := by
  unfold wX3_count
  refine ⟨fun e => ?_, fun e => ?_, fun e => ?_, fun e => ?_, fun e => ?_, fun e => ?_, fun e => ?_, fun e => ?_, fun e => ?_, fun e => ?_, fun e => ?_⟩
  · obtain ⟨a0, a1, a2, a3, a4, a5, a6, a7, a8, a9⟩ := out9 e
    unfold fCount at hk
    rw [if_neg a0, if_neg a1, if_neg a2, if_neg a3, if_neg a4, if_neg a5, if_neg a6, if_neg a7, if_neg a8, if_neg a9] at hk
    exact hk
  · subst e; simp only [RepC_K h, RepC_r0 h, RepC_k0 h, RepC_s0 h, true_and, and_true, forall_eq, forall_eq', Option.some.injEq, exists_eq_left', false_implies, true_implies, forall_const, not_false_eq_true, not_true_eq_false, implies_true, b2iT, b2iF, i1n0, i0n1, Option.isSome_some, Option.isSome_none, Option.map_some, Option.map_none, reduceCtorEq, b2i_bz]; exact hk
  · subst e; rw [RepC_nA h]; exact ⟨RepC_K h, hk⟩
  · subst e
    have e2 : fCount S 2 = nI (cnt (csP S 0) 160) + nI (cnt (csP S 1) 160) + nI (cnt (csP S 2) 160) := by
      show nI (cnt (prs S) 160) = _
      rw [← cnt_three hI 160, nI_add, nI_add]
    rw [e2] at hk
    exact ⟨RepC_K h, C_countState h 0 _ ⟨RepC_K h, C_countState h 1 _ ⟨RepC_K h, C_countState h 2 _ hk⟩⟩⟩
  · subst e; rw [RepC_nR h]; exact ⟨RepC_K h, hk⟩
  · subst e; exact ⟨RepC_K h, C_countState h 0 _ hk⟩
  · subst e; exact ⟨RepC_K h, C_countState h 1 _ hk⟩
  · subst e; exact ⟨RepC_K h, C_countState h 2 _ hk⟩
  · subst e; exact ⟨RepC_K h, ⟨40 + 1, C_cq4 h hI _ hk 40 0 (by omega)⟩⟩
  · subst e; exact ⟨RepC_K h, ⟨160 + 1, C_stale_l h hI _ hk 160 0 (by omega)⟩⟩
  · subst e; simp only [RepC_K h, RepC_r1 h, RepC_k1 h, RepC_s1 h, true_and, and_true, forall_eq, forall_eq', Option.some.injEq, exists_eq_left', false_implies, true_implies, forall_const, not_false_eq_true, not_true_eq_false, implies_true, b2iT, b2iF, i1n0, i0n1, Option.isSome_some, Option.isSome_none, Option.map_some, Option.map_none, reduceCtorEq, b2i_bz]; exact hk
end PC
