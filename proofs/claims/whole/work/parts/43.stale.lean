def sta (S : MM) (j : Nat) : Bool := decide (mI S 6 j = 1) && (decide (mI S 8 j = 0) && !decide (rS S j (-1) = mI S 7 j))
def fTold (S : MM) (x y : Int32) : Int32 := match vT S x with
  | some j => if y = 0 then mI S 6 j else if y = 1 then mI S 7 j else if y = 2 then mI S 8 j else if y = 3 then mI S 9 j else if y = 4 then mI S 10 j else if y = 5 then b2i (sta S j) else -1
  | none => -1
def fSecond (S : MM) (x y z : Int32) : Int32 × MM := match vT S x, vI 10 y, vI (mN S 0) z with
  | some j, some _, some _ => if mI S 6 j = 1 ∧ ¬ (mI S 8 j = 2 ∧ mI S 9 j = y) then (1, sI S 10 j z) else (-2, S)
  | _, _, _ => (-1, S)
def rP (S : MM) (x : Int32) (j : Nat) : Bool := prs S j && !decide (rS S j (-1) = rS S j x)
def fReach (S : MM) (x : Int32) : Int32 := match vI (mN S 3) x with
  | some r => if mI S 14 r = 0 then nI (cnt (rP S x) 160) else -1
  | none => -1
theorem out5 {y : Int32} (h : y.toInt < 0 ∨ 5 < y.toInt) : ¬ y = 0 ∧ ¬ y = 1 ∧ ¬ y = 2 ∧ ¬ y = 3 ∧ ¬ y = 4 ∧ ¬ y = 5 := by
  refine ⟨?_, ?_, ?_, ?_, ?_, ?_⟩ <;> intro e <;> subst e <;> revert h <;> decide
theorem prs_out {S : MM} {i : Nat} (h : 2 * mN S 2 ≤ i) : prs S i = false := by
  simp only [prs, Bool.and_eq_false_iff, decide_eq_false_iff_not]
  exact Or.inl (by omega)
section PM
variable {t : Nat} {q : Nat → Nat} {S σ : MM}
theorem M_isStale (h : RepM t q S σ) (hI : Inv S) {j : Nat} (hj : j < 160) (k : Int32 → MM → Prop) (hk : ∀ σ1, RepM t q S σ1 → FrM q σ σ1 → k (b2i (sta S j)) σ1) : wX4_isStale t (nI j) σ k := by
  unfold wX4_isStale
  unfold sta at hk
  simp only [RepM_K h, RepM_r13 h, RepM_k13 h, RepM_n13 h, RepM_i13 h, RepM_r15 h, RepM_k15 h, RepM_n15 h, RepM_i15 h, ix_nI (show j < 2 ^ 31 by omega), vp_in_nI hj (by decide), true_and, and_true, forall_eq, forall_eq', Option.some.injEq, exists_eq_left', false_implies, true_implies, forall_const, not_false_eq_true, not_true_eq_false, implies_true, b2iT, b2iF, i1n0, i0n1, Option.isSome_some, Option.isSome_none, Option.map_some, Option.map_none, reduceCtorEq, b2i_bz]
  by_cases e1 : mI S 6 j = 1
  · by_cases e2 : mI S 8 j = 0
    · simp only [e1, e2, decide_true, Bool.true_and, true_and, and_true, forall_eq, forall_eq', Option.some.injEq, exists_eq_left', false_implies, true_implies, forall_const, not_false_eq_true, not_true_eq_false, implies_true, b2iT, b2iF, i1n0, i0n1, Option.isSome_some, Option.isSome_none, Option.map_some, Option.map_none, reduceCtorEq, b2i_bz] at hk ⊢
      have g := RepM_gm h (lS S j (-1))
      refine M_byRules h hI hj (-1) _ ?_
      simp only [RepM_K g, RepM_r14 g, RepM_k14 g, RepM_n14 g, RepM_i14 g, ix_nI (show j < 2 ^ 31 by omega), vp_in_nI hj (by decide), true_and, and_true, forall_eq, forall_eq', Option.some.injEq, exists_eq_left', false_implies, true_implies, forall_const, not_false_eq_true, not_true_eq_false, implies_true, b2iT, b2iF, i1n0, i0n1, Option.isSome_some, Option.isSome_none, Option.map_some, Option.map_none, reduceCtorEq, b2i_bz]
      have hh := hk _ g (FrM_gm h _)
      by_cases e3 : rS S j (-1) = mI S 7 j
      · simp only [e3, decide_true, Bool.not_true, true_and, and_true, forall_eq, forall_eq', Option.some.injEq, exists_eq_left', false_implies, true_implies, forall_const, not_false_eq_true, not_true_eq_false, implies_true, b2iT, b2iF, i1n0, i0n1, Option.isSome_some, Option.isSome_none, Option.map_some, Option.map_none, reduceCtorEq, b2i_bz] at hh ⊢; exact hh
      · simp only [e3, decide_false, Bool.not_false, true_and, and_true, forall_eq, forall_eq', Option.some.injEq, exists_eq_left', false_implies, true_implies, forall_const, not_false_eq_true, not_true_eq_false, implies_true, b2iT, b2iF, i1n0, i0n1, Option.isSome_some, Option.isSome_none, Option.map_some, Option.map_none, reduceCtorEq, b2i_bz] at hh ⊢; exact hh
    · simp only [e1, e2, decide_true, decide_false, Bool.true_and, Bool.false_and, true_and, and_true, forall_eq, forall_eq', Option.some.injEq, exists_eq_left', false_implies, true_implies, forall_const, not_false_eq_true, not_true_eq_false, implies_true, b2iT, b2iF, i1n0, i0n1, Option.isSome_some, Option.isSome_none, Option.map_some, Option.map_none, reduceCtorEq, b2i_bz] at hk ⊢
      exact hk σ h (FrM_refl q σ)
  · simp only [e1, decide_false, Bool.false_and, true_and, and_true, forall_eq, forall_eq', Option.some.injEq, exists_eq_left', false_implies, true_implies, forall_const, not_false_eq_true, not_true_eq_false, implies_true, b2iT, b2iF, i1n0, i0n1, Option.isSome_some, Option.isSome_none, Option.map_some, Option.map_none, reduceCtorEq, b2i_bz] at hk ⊢
    exact hk σ h (FrM_refl q σ)
theorem M_told (h : RepM t q S σ) (hI : Inv S) (x y : Int32) (k : Int32 → MM → Prop) (hk : ∀ σ1, RepM t q S σ1 → FrM q σ σ1 → k (fTold S x y) σ1) : wX4_told t x y σ k := by
  unfold wX4_told
  unfold fTold at hk
  simp only [eM_isItem h hI, RepM_K h, true_and, and_true, forall_eq, forall_eq', Option.some.injEq, exists_eq_left', false_implies, true_implies, forall_const, not_false_eq_true, not_true_eq_false, implies_true, b2iT, b2iF, i1n0, i0n1, Option.isSome_some, Option.isSome_none, Option.map_some, Option.map_none, reduceCtorEq, b2i_bz]
  cases hx : vT S x with
  | none => rw [hx] at hk; simp only [true_and, and_true, forall_eq, forall_eq', Option.some.injEq, exists_eq_left', false_implies, true_implies, forall_const, not_false_eq_true, not_true_eq_false, implies_true, b2iT, b2iF, i1n0, i0n1, Option.isSome_some, Option.isSome_none, Option.map_some, Option.map_none, reduceCtorEq, b2i_bz]; exact hk σ h (FrM_refl q σ)
  | some j =>
    rw [hx] at hk
    obtain ⟨hp, hj, rfl⟩ := vT_some hx
    have hk0 := hk σ h (FrM_refl q σ)
    simp only [RepM_r13 h, RepM_k13 h, RepM_n13 h, RepM_i13 h, RepM_r14 h, RepM_k14 h, RepM_n14 h, RepM_i14 h, RepM_r15 h, RepM_k15 h, RepM_n15 h, RepM_i15 h, RepM_r16 h, RepM_k16 h, RepM_n16 h, RepM_i16 h, RepM_r17 h, RepM_k17 h, RepM_n17 h, RepM_i17 h, ix_nI (show j < 2 ^ 31 by omega), vp_in_nI hj (by decide), true_and, and_true, forall_eq, forall_eq', Option.some.injEq, exists_eq_left', false_implies, true_implies, forall_const, not_false_eq_true, not_true_eq_false, implies_true, b2iT, b2iF, i1n0, i0n1, Option.isSome_some, Option.isSome_none, Option.map_some, Option.map_none, reduceCtorEq, b2i_bz]
    refine ⟨fun e => ?_, fun e => ?_, fun e => ?_, fun e => ?_, fun e => ?_, fun e => ?_, fun e => ?_⟩
    · obtain ⟨a0, a1, a2, a3, a4, a5⟩ := out5 e
      simp only [a0, a1, a2, a3, a4, a5, if_false] at hk0
      exact hk0
    · subst e; exact hk0
    · subst e; exact hk0
    · subst e; exact hk0
    · subst e; exact hk0
    · subst e; exact hk0
    · subst e
      refine M_isStale h hI hj _ (fun σ1 g f => ?_)
      have hh : k (b2i (sta S j)) σ1 := hk σ1 g f
      cases hs : sta S j with
      | true => rw [hs] at hh; simp only [true_and, and_true, forall_eq, forall_eq', Option.some.injEq, exists_eq_left', false_implies, true_implies, forall_const, not_false_eq_true, not_true_eq_false, implies_true, b2iT, b2iF, i1n0, i0n1, Option.isSome_some, Option.isSome_none, Option.map_some, Option.map_none, reduceCtorEq, b2i_bz]; exact hh
      | false => rw [hs] at hh; simp only [true_and, and_true, forall_eq, forall_eq', Option.some.injEq, exists_eq_left', false_implies, true_implies, forall_const, not_false_eq_true, not_true_eq_false, implies_true, b2iT, b2iF, i1n0, i0n1, Option.isSome_some, Option.isSome_none, Option.map_some, Option.map_none, reduceCtorEq, b2i_bz]; exact hh
theorem M_second (h : RepM t q S σ) (hI : Inv S) (x y z : Int32) (k : Int32 → MM → Prop) (hk : ∀ σ1, RepM t q (fSecond S x y z).2 σ1 → FrM q σ σ1 → k (fSecond S x y z).1 σ1) : wX4_second t x y z σ k := by
  unfold wX4_second
  unfold fSecond at hk
  simp only [eM_isItem h hI, eM_isCode h hI, eM_in0 (show (9 : Int32).toInt = ((10 : Nat) : Int) - 1 from rfl), RepM_K h, true_and, and_true, forall_eq, forall_eq', Option.some.injEq, exists_eq_left', false_implies, true_implies, forall_const, not_false_eq_true, not_true_eq_false, implies_true, b2iT, b2iF, i1n0, i0n1, Option.isSome_some, Option.isSome_none, Option.map_some, Option.map_none, reduceCtorEq, b2i_bz]
  cases hx : vT S x with
  | none => rw [hx] at hk; simp only [true_and, and_true, forall_eq, forall_eq', Option.some.injEq, exists_eq_left', false_implies, true_implies, forall_const, not_false_eq_true, not_true_eq_false, implies_true, b2iT, b2iF, i1n0, i0n1, Option.isSome_some, Option.isSome_none, Option.map_some, Option.map_none, reduceCtorEq, b2i_bz]; exact hk σ h (FrM_refl q σ)
  | some j =>
    cases hy : vI 10 y with
    | none => rw [hx, hy] at hk; simp only [true_and, and_true, forall_eq, forall_eq', Option.some.injEq, exists_eq_left', false_implies, true_implies, forall_const, not_false_eq_true, not_true_eq_false, implies_true, b2iT, b2iF, i1n0, i0n1, Option.isSome_some, Option.isSome_none, Option.map_some, Option.map_none, reduceCtorEq, b2i_bz]; exact hk σ h (FrM_refl q σ)
    | some b =>
      cases hz : vI (mN S 0) z with
      | none => rw [hx, hy, hz] at hk; simp only [true_and, and_true, forall_eq, forall_eq', Option.some.injEq, exists_eq_left', false_implies, true_implies, forall_const, not_false_eq_true, not_true_eq_false, implies_true, b2iT, b2iF, i1n0, i0n1, Option.isSome_some, Option.isSome_none, Option.map_some, Option.map_none, reduceCtorEq, b2i_bz]; exact hk σ h (FrM_refl q σ)
      | some c =>
        rw [hx, hy, hz] at hk
        obtain ⟨hp, hj, rfl⟩ := vT_some hx
        simp only [RepM_r13 h, RepM_k13 h, RepM_n13 h, RepM_i13 h, RepM_r15 h, RepM_k15 h, RepM_n15 h, RepM_i15 h, RepM_r16 h, RepM_k16 h, RepM_n16 h, RepM_i16 h, RepM_r17 h, RepM_k17 h, RepM_n17 h, RepM_i17 h, ix_nI (show j < 2 ^ 31 by omega), vp_in_nI hj (by decide), true_and, and_true, forall_eq, forall_eq', Option.some.injEq, exists_eq_left', false_implies, true_implies, forall_const, not_false_eq_true, not_true_eq_false, implies_true, b2iT, b2iF, i1n0, i0n1, Option.isSome_some, Option.isSome_none, Option.map_some, Option.map_none, reduceCtorEq, b2i_bz]
        have g := RepM_w17 h j z
        have f : FrM q σ (sI σ (q 17) j z) := FrM_I (by decide)
        by_cases e1 : mI S 6 j = 1
        · by_cases e2 : mI S 8 j = 2
          · by_cases e3 : mI S 9 j = y
            · simp only [e1, e2, e3, and_self, not_true_eq_false, and_false, if_false, true_and, and_true, forall_eq, forall_eq', Option.some.injEq, exists_eq_left', false_implies, true_implies, forall_const, not_false_eq_true, not_true_eq_false, implies_true, b2iT, b2iF, i1n0, i0n1, Option.isSome_some, Option.isSome_none, Option.map_some, Option.map_none, reduceCtorEq, b2i_bz] at hk ⊢
              exact hk σ h (FrM_refl q σ)
            · simp only [e1, e2, e3, and_false, not_false_eq_true, and_self, if_true, true_and, and_true, forall_eq, forall_eq', Option.some.injEq, exists_eq_left', false_implies, true_implies, forall_const, not_false_eq_true, not_true_eq_false, implies_true, b2iT, b2iF, i1n0, i0n1, Option.isSome_some, Option.isSome_none, Option.map_some, Option.map_none, reduceCtorEq, b2i_bz] at hk ⊢
              exact hk _ g f
          · simp only [e1, e2, false_and, not_false_eq_true, and_self, if_true, true_and, and_true, forall_eq, forall_eq', Option.some.injEq, exists_eq_left', false_implies, true_implies, forall_const, not_false_eq_true, not_true_eq_false, implies_true, b2iT, b2iF, i1n0, i0n1, Option.isSome_some, Option.isSome_none, Option.map_some, Option.map_none, reduceCtorEq, b2i_bz] at hk ⊢
            exact hk _ g f
        · simp only [e1, false_and, if_false, true_and, and_true, forall_eq, forall_eq', Option.some.injEq, exists_eq_left', false_implies, true_implies, forall_const, not_false_eq_true, not_true_eq_false, implies_true, b2iT, b2iF, i1n0, i0n1, Option.isSome_some, Option.isSome_none, Option.map_some, Option.map_none, reduceCtorEq, b2i_bz] at hk ⊢
          exact hk σ h (FrM_refl q σ)
theorem M_reach_l (hI : Inv S) (x : Int32) (k : Int32 → MM → Prop) (σ0 : MM) (hk : ∀ σ1, RepM t q S σ1 → FrM q σ0 σ1 → k (nI (cnt (rP S x) (2 * mN S 2))) σ1) : ∀ d i (σ : MM), i + d = 2 * mN S 2 → RepM t q S σ → FrM q σ0 σ → wX4_reach_23 k t (d + 1) x (nI (cnt (rP S x) i)) (nI i) σ := by
  have hA := Inv_A hI
  intro d
  induction d with
  | zero =>
    intro i σ hi h hf
    have : i = 2 * mN S 2 := by omega
    subst this
    unfold wX4_reach_23
    simp only [RepM_K h, RepM_nA h, two_nA hI, show nI (2 * mN S 2) ≤ nI (2 * mN S 2) from nI_le (Nat.le_refl _) (by omega), true_and, and_true, forall_eq, forall_eq', Option.some.injEq, exists_eq_left', false_implies, true_implies, forall_const, not_false_eq_true, not_true_eq_false, implies_true, b2iT, b2iF, i1n0, i0n1, Option.isSome_some, Option.isSome_none, Option.map_some, Option.map_none, reduceCtorEq, b2i_bz]
    exact hk σ h hf
  | succ d ih =>
    intro i σ hi h hf
    have hi2 : i < 160 := by omega
    have e1 : ¬ nI (2 * mN S 2) ≤ nI i := nI_ge (by omega) (by omega)
    unfold wX4_reach_23
    simp only [RepM_K h, RepM_nA h, two_nA hI, e1, eM_isItem h hI, vT_is hi2, true_and, and_true, forall_eq, forall_eq', Option.some.injEq, exists_eq_left', false_implies, true_implies, forall_const, not_false_eq_true, not_true_eq_false, implies_true, b2iT, b2iF, i1n0, i0n1, Option.isSome_some, Option.isSome_none, Option.map_some, Option.map_none, reduceCtorEq, b2i_bz]
    by_cases hp : prs S i = true
    · simp only [hp, true_and, and_true, forall_eq, forall_eq', Option.some.injEq, exists_eq_left', false_implies, true_implies, forall_const, not_false_eq_true, not_true_eq_false, implies_true, b2iT, b2iF, i1n0, i0n1, Option.isSome_some, Option.isSome_none, Option.map_some, Option.map_none, reduceCtorEq, b2i_bz]
      have g := RepM_gm h (lS S i (-1))
      have g2 := RepM_gm g (lS S i x)
      have gg := ih (i + 1) _ (by omega) g2 (FrM_tr hf (FrM_tr (FrM_gm h _) (FrM_gm g _)))
      refine M_byRules h hI hi2 (-1) _ ⟨RepM_K g, M_byRules g hI hi2 x _ ?_⟩
      by_cases e : rS S i (-1) = rS S i x
      · rw [cnt_f (by unfold rP; simp [e])] at gg
        simp only [e, nI_p0, nI_1, true_and, and_true, forall_eq, forall_eq', Option.some.injEq, exists_eq_left', false_implies, true_implies, forall_const, not_false_eq_true, not_true_eq_false, implies_true, b2iT, b2iF, i1n0, i0n1, Option.isSome_some, Option.isSome_none, Option.map_some, Option.map_none, reduceCtorEq, b2i_bz]
        exact gg
      · rw [cnt_t (by unfold rP; simp [e, hp])] at gg
        simp only [e, nI_1, true_and, and_true, forall_eq, forall_eq', Option.some.injEq, exists_eq_left', false_implies, true_implies, forall_const, not_false_eq_true, not_true_eq_false, implies_true, b2iT, b2iF, i1n0, i0n1, Option.isSome_some, Option.isSome_none, Option.map_some, Option.map_none, reduceCtorEq, b2i_bz]
        exact gg
    · have hp2 : prs S i = false := by simpa using hp
      have gg := ih (i + 1) _ (by omega) h hf
      rw [cnt_f (by unfold rP; rw [hp2]; rfl)] at gg
      simp only [hp2, nI_p0, nI_1, true_and, and_true, forall_eq, forall_eq', Option.some.injEq, exists_eq_left', false_implies, true_implies, forall_const, not_false_eq_true, not_true_eq_false, implies_true, b2iT, b2iF, i1n0, i0n1, Option.isSome_some, Option.isSome_none, Option.map_some, Option.map_none, reduceCtorEq, b2i_bz]
      exact gg
theorem M_reach (h : RepM t q S σ) (hI : Inv S) (x : Int32) (k : Int32 → MM → Prop) (hk : ∀ σ1, RepM t q S σ1 → FrM q σ σ1 → k (fReach S x) σ1) : wX4_reach t x σ k := by
  have hR := Inv_R hI
  have hA := Inv_A hI
  unfold wX4_reach
  unfold fReach at hk
  simp only [eM_isRule h hI, RepM_K h, true_and, and_true, forall_eq, forall_eq', Option.some.injEq, exists_eq_left', false_implies, true_implies, forall_const, not_false_eq_true, not_true_eq_false, implies_true, b2iT, b2iF, i1n0, i0n1, Option.isSome_some, Option.isSome_none, Option.map_some, Option.map_none, reduceCtorEq, b2i_bz]
  cases hx : vI (mN S 3) x with
  | none => rw [hx] at hk; simp only [true_and, and_true, forall_eq, forall_eq', Option.some.injEq, exists_eq_left', false_implies, true_implies, forall_const, not_false_eq_true, not_true_eq_false, implies_true, b2iT, b2iF, i1n0, i0n1, Option.isSome_some, Option.isSome_none, Option.map_some, Option.map_none, reduceCtorEq, b2i_bz]; exact hk σ h (FrM_refl q σ)
  | some r =>
    rw [hx] at hk
    obtain ⟨hr, rfl⟩ := vI_some hx
    simp only [RepM_r24 h, RepM_k24 h, RepM_n24 h, RepM_i24 h, ix_nI (show r < 2 ^ 31 by omega), vp_in_nI (show r < 40 by omega) (by decide), true_and, and_true, forall_eq, forall_eq', Option.some.injEq, exists_eq_left', false_implies, true_implies, forall_const, not_false_eq_true, not_true_eq_false, implies_true, b2iT, b2iF, i1n0, i0n1, Option.isSome_some, Option.isSome_none, Option.map_some, Option.map_none, reduceCtorEq, b2i_bz]
    by_cases h0 : mI S 14 r = 0
    · simp only [h0, if_true, true_and, and_true, forall_eq, forall_eq', Option.some.injEq, exists_eq_left', false_implies, true_implies, forall_const, not_false_eq_true, not_true_eq_false, implies_true, b2iT, b2iF, i1n0, i0n1, Option.isSome_some, Option.isSome_none, Option.map_some, Option.map_none, reduceCtorEq, b2i_bz] at hk ⊢
      refine ⟨2 * mN S 2 + 1, M_reach_l hI (nI r) k σ ?_ (2 * mN S 2) 0 σ (by omega) h (FrM_refl q σ)⟩
      rw [← cnt_to (n := 160) (by omega) (fun i h1 _ => ?_)]
      · exact hk
      · unfold rP; rw [prs_out h1]; rfl
    · simp only [h0, if_false, true_and, and_true, forall_eq, forall_eq', Option.some.injEq, exists_eq_left', false_implies, true_implies, forall_const, not_false_eq_true, not_true_eq_false, implies_true, b2iT, b2iF, i1n0, i0n1, Option.isSome_some, Option.isSome_none, Option.map_some, Option.map_none, reduceCtorEq, b2i_bz] at hk ⊢
      exact hk σ h (FrM_refl q σ)
end PM
section PC
variable {u : Nat} {q ia ra : Nat → Nat} {S σ : MM}
theorem C_isStale (h : RepC u q ia ra S (setS S) σ) (hI : Inv S) {j : Nat} (hp : prs S j = true) (k : Int32 → MM → Prop) (hk : k (b2i (sta S j)) σ) : wX3_isStale u (some (ia j)) σ k := by
  unfold wX3_isStale
  unfold sta at hk
  simp only [RepC_K h, RepC_tK h j hp, RepC_t6 h j hp, true_and, and_true, forall_eq, forall_eq', Option.some.injEq, exists_eq_left', false_implies, true_implies, forall_const, not_false_eq_true, not_true_eq_false, implies_true, b2iT, b2iF, i1n0, i0n1, Option.isSome_some, Option.isSome_none, Option.map_some, Option.map_none, reduceCtorEq, b2i_bz]
  by_cases e2 : mI S 8 j = 0
  · have e1 : mI S 6 j = 1 := by
      rcases Inv_it hI j hp with z | z
      · exact z.1
      · rw [z.2.2.1] at e2; exact absurd e2 (by decide)
    simp only [e1, e2, decide_true, Bool.true_and, true_and, and_true, forall_eq, forall_eq', Option.some.injEq, exists_eq_left', false_implies, true_implies, forall_const, not_false_eq_true, not_true_eq_false, implies_true, b2iT, b2iF, i1n0, i0n1, Option.isSome_some, Option.isSome_none, Option.map_some, Option.map_none, reduceCtorEq, b2i_bz] at hk ⊢
    refine C_byRules h hI hp (-1) _ ?_
    simp only [RepC_tK h j hp, RepC_t5 h j hp, true_and, and_true, forall_eq, forall_eq', Option.some.injEq, exists_eq_left', false_implies, true_implies, forall_const, not_false_eq_true, not_true_eq_false, implies_true, b2iT, b2iF, i1n0, i0n1, Option.isSome_some, Option.isSome_none, Option.map_some, Option.map_none, reduceCtorEq, b2i_bz]
    by_cases e3 : rS S j (-1) = mI S 7 j
    · simp only [e3, decide_true, Bool.not_true, true_and, and_true, forall_eq, forall_eq', Option.some.injEq, exists_eq_left', false_implies, true_implies, forall_const, not_false_eq_true, not_true_eq_false, implies_true, b2iT, b2iF, i1n0, i0n1, Option.isSome_some, Option.isSome_none, Option.map_some, Option.map_none, reduceCtorEq, b2i_bz] at hk ⊢; exact hk
    · simp only [e3, decide_false, Bool.not_false, true_and, and_true, forall_eq, forall_eq', Option.some.injEq, exists_eq_left', false_implies, true_implies, forall_const, not_false_eq_true, not_true_eq_false, implies_true, b2iT, b2iF, i1n0, i0n1, Option.isSome_some, Option.isSome_none, Option.map_some, Option.map_none, reduceCtorEq, b2i_bz] at hk ⊢; exact hk
  · simp only [e2, decide_false, Bool.false_and, Bool.and_false, true_and, and_true, forall_eq, forall_eq', Option.some.injEq, exists_eq_left', false_implies, true_implies, forall_const, not_false_eq_true, not_true_eq_false, implies_true, b2iT, b2iF, i1n0, i0n1, Option.isSome_some, Option.isSome_none, Option.map_some, Option.map_none, reduceCtorEq, b2i_bz] at hk ⊢
    exact hk
theorem C_told (h : RepC u q ia ra S (setS S) σ) (hI : Inv S) (x y : Int32) (k : Int32 → MM → Prop) (hk : k (fTold S x y) σ) : wX3_told u x y σ k := by
  unfold wX3_told
  unfold fTold at hk
  simp only [eC_itemAt h, RepC_K h, true_and, and_true, forall_eq, forall_eq', Option.some.injEq, exists_eq_left', false_implies, true_implies, forall_const, not_false_eq_true, not_true_eq_false, implies_true, b2iT, b2iF, i1n0, i0n1, Option.isSome_some, Option.isSome_none, Option.map_some, Option.map_none, reduceCtorEq, b2i_bz]
  cases hx : vT S x with
  | none => rw [hx] at hk; simp only [true_and, and_true, forall_eq, forall_eq', Option.some.injEq, exists_eq_left', false_implies, true_implies, forall_const, not_false_eq_true, not_true_eq_false, implies_true, b2iT, b2iF, i1n0, i0n1, Option.isSome_some, Option.isSome_none, Option.map_some, Option.map_none, reduceCtorEq, b2i_bz]; exact hk
  | some j =>
    rw [hx] at hk
    obtain ⟨hp, hj, rfl⟩ := vT_some hx
    have hk0 := hk
    simp only [RepC_tK h j hp, RepC_t4 h j hp, RepC_t5 h j hp, RepC_t6 h j hp, RepC_t7 h j hp, RepC_t8 h j hp, true_and, and_true, forall_eq, forall_eq', Option.some.injEq, exists_eq_left', false_implies, true_implies, forall_const, not_false_eq_true, not_true_eq_false, implies_true, b2iT, b2iF, i1n0, i0n1, Option.isSome_some, Option.isSome_none, Option.map_some, Option.map_none, reduceCtorEq, b2i_bz]
    refine ⟨fun e => ?_, fun e => ?_, fun e => ?_, fun e => ?_, fun e => ?_, fun e => ?_, fun e => ?_⟩
    · obtain ⟨a0, a1, a2, a3, a4, a5⟩ := out5 e
      simp only [a0, a1, a2, a3, a4, a5, if_false] at hk0
      exact hk0
    · subst e; exact hk0
    · subst e; exact hk0
    · subst e; exact hk0
    · subst e; exact hk0
    · subst e; exact hk0
    · subst e
      refine C_isStale h hI hp _ ?_
      have hh : k (b2i (sta S j)) σ := hk
      cases hs : sta S j with
      | true => rw [hs] at hh; simp only [true_and, and_true, forall_eq, forall_eq', Option.some.injEq, exists_eq_left', false_implies, true_implies, forall_const, not_false_eq_true, not_true_eq_false, implies_true, b2iT, b2iF, i1n0, i0n1, Option.isSome_some, Option.isSome_none, Option.map_some, Option.map_none, reduceCtorEq, b2i_bz]; exact hh
      | false => rw [hs] at hh; simp only [true_and, and_true, forall_eq, forall_eq', Option.some.injEq, exists_eq_left', false_implies, true_implies, forall_const, not_false_eq_true, not_true_eq_false, implies_true, b2iT, b2iF, i1n0, i0n1, Option.isSome_some, Option.isSome_none, Option.map_some, Option.map_none, reduceCtorEq, b2i_bz]; exact hh
theorem C_second (h : RepC u q ia ra S (setS S) σ) (hI : Inv S) (x y z : Int32) (k : Int32 → MM → Prop) (hk : ∀ σ1, RepC u q ia ra (fSecond S x y z).2 (setS S) σ1 → FrC q σ σ1 → k (fSecond S x y z).1 σ1) : wX3_second u x y z σ k := by
  unfold wX3_second
  unfold fSecond at hk
  simp only [eC_itemAt h, eC_isDigit, eC_isCode h hI, RepC_K h, true_and, and_true, forall_eq, forall_eq', Option.some.injEq, exists_eq_left', false_implies, true_implies, forall_const, not_false_eq_true, not_true_eq_false, implies_true, b2iT, b2iF, i1n0, i0n1, Option.isSome_some, Option.isSome_none, Option.map_some, Option.map_none, reduceCtorEq, b2i_bz]
  cases hx : vT S x with
  | none => rw [hx] at hk; simp only [true_and, and_true, forall_eq, forall_eq', Option.some.injEq, exists_eq_left', false_implies, true_implies, forall_const, not_false_eq_true, not_true_eq_false, implies_true, b2iT, b2iF, i1n0, i0n1, Option.isSome_some, Option.isSome_none, Option.map_some, Option.map_none, reduceCtorEq, b2i_bz]; exact hk σ h (FrC_refl q σ)
  | some j =>
    cases hy : vI 10 y with
    | none => rw [hx, hy] at hk; simp only [true_and, and_true, forall_eq, forall_eq', Option.some.injEq, exists_eq_left', false_implies, true_implies, forall_const, not_false_eq_true, not_true_eq_false, implies_true, b2iT, b2iF, i1n0, i0n1, Option.isSome_some, Option.isSome_none, Option.map_some, Option.map_none, reduceCtorEq, b2i_bz]; exact hk σ h (FrC_refl q σ)
    | some b =>
      cases hz : vI (mN S 0) z with
      | none => rw [hx, hy, hz] at hk; simp only [true_and, and_true, forall_eq, forall_eq', Option.some.injEq, exists_eq_left', false_implies, true_implies, forall_const, not_false_eq_true, not_true_eq_false, implies_true, b2iT, b2iF, i1n0, i0n1, Option.isSome_some, Option.isSome_none, Option.map_some, Option.map_none, reduceCtorEq, b2i_bz]; exact hk σ h (FrC_refl q σ)
      | some c =>
        rw [hx, hy, hz] at hk
        obtain ⟨hp, hj, rfl⟩ := vT_some hx
        unfold wX3_second_52
        simp only [RepC_tK h j hp, RepC_t4 h j hp, RepC_t6 h j hp, RepC_t7 h j hp, true_and, and_true, forall_eq, forall_eq', Option.some.injEq, exists_eq_left', false_implies, true_implies, forall_const, not_false_eq_true, not_true_eq_false, implies_true, b2iT, b2iF, i1n0, i0n1, Option.isSome_some, Option.isSome_none, Option.map_some, Option.map_none, reduceCtorEq, b2i_bz]
        have g := RepC_t8w h hp z
        have f : FrC q σ (sI σ (ia j) 8 z) := FrC_oI (by rw [RepC_tK h j hp]; decide)
        by_cases e1 : mI S 6 j = 1
        · by_cases e2 : mI S 8 j = 2
          · by_cases e3 : mI S 9 j = y
            · simp only [e1, e2, e3, and_self, not_true_eq_false, and_false, if_false, true_and, and_true, forall_eq, forall_eq', Option.some.injEq, exists_eq_left', false_implies, true_implies, forall_const, not_false_eq_true, not_true_eq_false, implies_true, b2iT, b2iF, i1n0, i0n1, Option.isSome_some, Option.isSome_none, Option.map_some, Option.map_none, reduceCtorEq, b2i_bz] at hk ⊢
              exact hk σ h (FrC_refl q σ)
            · simp only [e1, e2, e3, and_false, not_false_eq_true, and_self, if_true, true_and, and_true, forall_eq, forall_eq', Option.some.injEq, exists_eq_left', false_implies, true_implies, forall_const, not_false_eq_true, not_true_eq_false, implies_true, b2iT, b2iF, i1n0, i0n1, Option.isSome_some, Option.isSome_none, Option.map_some, Option.map_none, reduceCtorEq, b2i_bz] at hk ⊢
              exact hk _ g f
          · simp only [e1, e2, false_and, not_false_eq_true, and_self, if_true, true_and, and_true, forall_eq, forall_eq', Option.some.injEq, exists_eq_left', false_implies, true_implies, forall_const, not_false_eq_true, not_true_eq_false, implies_true, b2iT, b2iF, i1n0, i0n1, Option.isSome_some, Option.isSome_none, Option.map_some, Option.map_none, reduceCtorEq, b2i_bz] at hk ⊢
            exact hk _ g f
        · simp only [e1, false_and, if_false, true_and, and_true, forall_eq, forall_eq', Option.some.injEq, exists_eq_left', false_implies, true_implies, forall_const, not_false_eq_true, not_true_eq_false, implies_true, b2iT, b2iF, i1n0, i0n1, Option.isSome_some, Option.isSome_none, Option.map_some, Option.map_none, reduceCtorEq, b2i_bz] at hk ⊢
          have hk1 := hk σ h (FrC_refl q σ)
          exact ⟨fun _ => hk1, fun _ => ⟨fun _ => hk1, fun _ => hk1⟩⟩
theorem C_reach_l (h : RepC u q ia ra S (setS S) σ) (hI : Inv S) (x : Int32) (k : Int32 → MM → Prop) (hk : k (nI (cnt (rP S x) 160)) σ) : ∀ d i, i + d = 160 → wX3_reach_24 k u (d + 1) x (nI (cnt (rP S x) i)) (nI i) σ := by
  intro d
  induction d with
  | zero =>
    intro i hi
    have : i = 160 := by omega
    subst this
    unfold wX3_reach_24
    simp only [RepC_K h, RepC_r5 h, RepC_k5 h, RepC_n5 h, RepC_i5 h, le160, true_and, and_true, forall_eq, forall_eq', Option.some.injEq, exists_eq_left', false_implies, true_implies, forall_const, not_false_eq_true, not_true_eq_false, implies_true, b2iT, b2iF, i1n0, i0n1, Option.isSome_some, Option.isSome_none, Option.map_some, Option.map_none, reduceCtorEq, b2i_bz]
    exact hk
  | succ d ih =>
    intro i hi
    unfold wX3_reach_24
    have gg := ih (i + 1) (by omega)
    have e1 : ¬ nI 160 ≤ nI i := nI_ge (by omega) (by decide)
    simp only [e1, RepC_K h, RepC_r5 h, RepC_k5 h, RepC_n5 h, RepC_i5 h, ix_nI (show i < 2 ^ 31 by omega), vp_in_nI (show i < 160 by omega) (by decide), nI_1, true_and, and_true, forall_eq, forall_eq', Option.some.injEq, exists_eq_left', false_implies, true_implies, forall_const, not_false_eq_true, not_true_eq_false, implies_true, b2iT, b2iF, i1n0, i0n1, Option.isSome_some, Option.isSome_none, Option.map_some, Option.map_none, reduceCtorEq, b2i_bz]
    by_cases hp : prs S i = true
    · simp only [hp, if_true, true_and, and_true, forall_eq, forall_eq', Option.some.injEq, exists_eq_left', false_implies, true_implies, forall_const, not_false_eq_true, not_true_eq_false, implies_true, b2iT, b2iF, i1n0, i0n1, Option.isSome_some, Option.isSome_none, Option.map_some, Option.map_none, reduceCtorEq, b2i_bz]
      refine C_byRules h hI hp (-1) _ ⟨RepC_K h, C_byRules h hI hp x _ ?_⟩
      by_cases e : rS S i (-1) = rS S i x
      · rw [cnt_f (by unfold rP; simp [e])] at gg
        simp only [e, true_and, and_true, forall_eq, forall_eq', Option.some.injEq, exists_eq_left', false_implies, true_implies, forall_const, not_false_eq_true, not_true_eq_false, implies_true, b2iT, b2iF, i1n0, i0n1, Option.isSome_some, Option.isSome_none, Option.map_some, Option.map_none, reduceCtorEq, b2i_bz]
        exact gg
      · rw [cnt_t (by unfold rP; simp [e, hp])] at gg
        simp only [e, true_and, and_true, forall_eq, forall_eq', Option.some.injEq, exists_eq_left', false_implies, true_implies, forall_const, not_false_eq_true, not_true_eq_false, implies_true, b2iT, b2iF, i1n0, i0n1, Option.isSome_some, Option.isSome_none, Option.map_some, Option.map_none, reduceCtorEq, b2i_bz]
        exact gg
    · have hp2 : prs S i = false := by simpa using hp
      rw [cnt_f (by unfold rP; rw [hp2]; rfl)] at gg
      simp only [hp2, Bool.false_eq_true, if_false, true_and, and_true, forall_eq, forall_eq', Option.some.injEq, exists_eq_left', false_implies, true_implies, forall_const, not_false_eq_true, not_true_eq_false, implies_true, b2iT, b2iF, i1n0, i0n1, Option.isSome_some, Option.isSome_none, Option.map_some, Option.map_none, reduceCtorEq, b2i_bz]
      exact gg
theorem C_reach (h : RepC u q ia ra S (setS S) σ) (hI : Inv S) (x : Int32) (k : Int32 → MM → Prop) (hk : k (fReach S x) σ) : wX3_reach u x σ k := by
  unfold wX3_reach
  unfold fReach at hk
  simp only [eC_ruleAt h hI, RepC_K h, true_and, and_true, forall_eq, forall_eq', Option.some.injEq, exists_eq_left', false_implies, true_implies, forall_const, not_false_eq_true, not_true_eq_false, implies_true, b2iT, b2iF, i1n0, i0n1, Option.isSome_some, Option.isSome_none, Option.map_some, Option.map_none, reduceCtorEq, b2i_bz]
  cases hx : vI (mN S 3) x with
  | none => rw [hx] at hk; simp only [true_and, and_true, forall_eq, forall_eq', Option.some.injEq, exists_eq_left', false_implies, true_implies, forall_const, not_false_eq_true, not_true_eq_false, implies_true, b2iT, b2iF, i1n0, i0n1, Option.isSome_some, Option.isSome_none, Option.map_some, Option.map_none, reduceCtorEq, b2i_bz]; exact hk
  | some r =>
    rw [hx] at hk
    obtain ⟨hr, rfl⟩ := vI_some hx
    simp only [RepC_uK h r hr, RepC_u5 h r hr, true_and, and_true, forall_eq, forall_eq', Option.some.injEq, exists_eq_left', false_implies, true_implies, forall_const, not_false_eq_true, not_true_eq_false, implies_true, b2iT, b2iF, i1n0, i0n1, Option.isSome_some, Option.isSome_none, Option.map_some, Option.map_none, reduceCtorEq, b2i_bz]
    by_cases h0 : mI S 14 r = 0
    · simp only [h0, if_true, true_and, and_true, forall_eq, forall_eq', Option.some.injEq, exists_eq_left', false_implies, true_implies, forall_const, not_false_eq_true, not_true_eq_false, implies_true, b2iT, b2iF, i1n0, i0n1, Option.isSome_some, Option.isSome_none, Option.map_some, Option.map_none, reduceCtorEq, b2i_bz] at hk ⊢
      exact ⟨161, C_reach_l h hI (nI r) k hk 160 0 rfl⟩
    · simp only [h0, if_false, true_and, and_true, forall_eq, forall_eq', Option.some.injEq, exists_eq_left', false_implies, true_implies, forall_const, not_false_eq_true, not_true_eq_false, implies_true, b2iT, b2iF, i1n0, i0n1, Option.isSome_some, Option.isSome_none, Option.map_some, Option.map_none, reduceCtorEq, b2i_bz] at hk ⊢
      exact hk
end PC
