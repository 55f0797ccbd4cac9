theorem le40 : nI 40 ≤ nI 40 := nI_le (Nat.le_refl _) (by decide)
section PC
variable {u : Nat} {q ia ra : Nat → Nat} {S σ : MM} {sf : Nat → Int64}
theorem C_fits (h : RepC u q ia ra S (setS S) σ) (hI : Inv S) {r j : Nat} (hr : r < mN S 3) (hp : prs S j = true) (k : Int32 → MM → Prop) (hk : k (b2i (hold S r j)) σ) : wX1_fits (ra r) (some (ia j)) σ k := by
  obtain ⟨a, ha, ea⟩ := Inv_rt hI r hr
  obtain ⟨b, hb, eb⟩ := Inv_tr hI (j / 2) (by have := prs_lt hp; omega)
  unfold wX1_fits
  unfold hold at hk
  simp only [RepC_uK h r hr, RepC_u5 h r hr, RepC_u2 h r hr, RepC_u3 h r hr, RepC_u4 h r hr, RepC_tK h j hp, RepC_t0 h j hp, RepC_t3 h j hp, true_and, and_true, forall_eq, forall_eq', Option.some.injEq, exists_eq_left', false_implies, true_implies, forall_const, not_false_eq_true, not_true_eq_false, implies_true, b2iT, b2iF, i1n0, i0n1, Option.isSome_some, Option.isSome_none, Option.map_some, Option.map_none, reduceCtorEq, b2i_bz]
  rw [ea, eb] at hk ⊢
  simp only [eC_bit _ (show b < 64 by omega), bT_trades ha hb, b2i_1, RepC_uK h r hr, RepC_u3 h r hr, RepC_u4 h r hr, RepC_tK h j hp, RepC_t3 h j hp, true_and, and_true, forall_eq, forall_eq', Option.some.injEq, exists_eq_left', false_implies, true_implies, forall_const, not_false_eq_true, not_true_eq_false, implies_true, b2iT, b2iF, i1n0, i0n1, Option.isSome_some, Option.isSome_none, Option.map_some, Option.map_none, reduceCtorEq, b2i_bz]
  by_cases e1 : mI S 14 r = 0
  · cases e2 : tB (nI a) (nI b) with
    | true =>
      by_cases e3 : mL S 2 r &&& (setS S j ^^^ (-1)) = 0
      · by_cases e4 : mL S 3 r &&& setS S j = 0
        · simp only [e1, e2, e3, e4, decide_true, Bool.true_and, true_and, and_true, forall_eq, forall_eq', Option.some.injEq, exists_eq_left', false_implies, true_implies, forall_const, not_false_eq_true, not_true_eq_false, implies_true, b2iT, b2iF, i1n0, i0n1, Option.isSome_some, Option.isSome_none, Option.map_some, Option.map_none, reduceCtorEq, b2i_bz] at hk ⊢; exact hk
        · simp only [e1, e2, e3, e4, decide_true, decide_false, Bool.true_and, true_and, and_true, forall_eq, forall_eq', Option.some.injEq, exists_eq_left', false_implies, true_implies, forall_const, not_false_eq_true, not_true_eq_false, implies_true, b2iT, b2iF, i1n0, i0n1, Option.isSome_some, Option.isSome_none, Option.map_some, Option.map_none, reduceCtorEq, b2i_bz] at hk ⊢; exact hk
      · simp only [e1, e2, e3, decide_true, decide_false, Bool.true_and, Bool.false_and, true_and, and_true, forall_eq, forall_eq', Option.some.injEq, exists_eq_left', false_implies, true_implies, forall_const, not_false_eq_true, not_true_eq_false, implies_true, b2iT, b2iF, i1n0, i0n1, Option.isSome_some, Option.isSome_none, Option.map_some, Option.map_none, reduceCtorEq, b2i_bz] at hk ⊢; exact hk
    | false => simp only [e1, e2, decide_true, Bool.true_and, Bool.false_and, Bool.false_eq_true, true_and, and_true, forall_eq, forall_eq', Option.some.injEq, exists_eq_left', false_implies, true_implies, forall_const, not_false_eq_true, not_true_eq_false, implies_true, b2iT, b2iF, i1n0, i0n1, Option.isSome_some, Option.isSome_none, Option.map_some, Option.map_none, reduceCtorEq, b2i_bz] at hk ⊢; exact hk
  · simp only [e1, decide_false, Bool.false_and, true_and, and_true, forall_eq, forall_eq', Option.some.injEq, exists_eq_left', false_implies, true_implies, forall_const, not_false_eq_true, not_true_eq_false, implies_true, b2iT, b2iF, i1n0, i0n1, Option.isSome_some, Option.isSome_none, Option.map_some, Option.map_none, reduceCtorEq, b2i_bz] at hk ⊢; exact hk
theorem hA_in {j : Nat} {w : Int32} {i : Nat} (hi : i < mN S 3) (ea : ¬ nI i = w) : hA S j w i = hold S i j := by
  unfold hA
  rw [show decide (i < mN S 3) = true from by simpa using hi]
  simp [ea]
theorem C_leaderFor_l (h : RepC u q ia ra S (setS S) σ) (hI : Inv S) {j : Nat} (hp : prs S j = true) (w : Int32) (k : Int32 → MM → Prop) : ∀ d i, i + d = 40 → k (lS S j w) σ → wX3_leaderFor_9 k u (d + 1) (some (ia j)) w (lF S j w i).1 (lF S j w i).2 (nI i) σ := by
  have hR := Inv_R hI
  intro d
  induction d with
  | zero =>
    intro i hi hk
    have : i = 40 := by omega
    subst this
    unfold wX3_leaderFor_9
    have e : lF S j w 40 = lF S j w (mN S 3) := by
      have := lF_out (S := S) (j := j) (w := w) (40 - mN S 3)
      rw [show mN S 3 + (40 - mN S 3) = 40 by omega] at this
      exact this
    simp only [RepC_K h, RepC_r7 h, RepC_k7 h, RepC_n7 h, le40, true_and, and_true, forall_eq, forall_eq', Option.some.injEq, exists_eq_left', false_implies, true_implies, forall_const, not_false_eq_true, not_true_eq_false, implies_true, b2iT, b2iF, i1n0, i0n1, Option.isSome_some, Option.isSome_none, Option.map_some, Option.map_none, reduceCtorEq, b2i_bz]
    rw [e]
    exact hk
  | succ d ih =>
    intro i hi hk
    have gg := ih (i + 1) (by omega) hk
    have e1 : ¬ nI 40 ≤ nI i := nI_ge (by omega) (by decide)
    unfold wX3_leaderFor_9
    simp only [RepC_K h, RepC_r7 h, RepC_k7 h, RepC_n7 h, RepC_i7 h, e1, ix_nI (show i < 2 ^ 31 by omega), vp_in_nI (show i < 40 by omega) (by decide), nI_1, true_and, and_true, forall_eq, forall_eq', Option.some.injEq, exists_eq_left', false_implies, true_implies, forall_const, not_false_eq_true, not_true_eq_false, implies_true, b2iT, b2iF, i1n0, i0n1, Option.isSome_some, Option.isSome_none, Option.map_some, Option.map_none, reduceCtorEq, b2i_bz]
    refine ⟨fun ea => ?_, fun ea => ?_⟩
    · have hf : hA S j w i = false := by unfold hA; simp [ea]
      rw [lF_f hf] at gg
      exact gg
    · by_cases hr : i < mN S 3
      · simp only [hr, if_true, RepC_uK h i hr, RepC_u0 h i hr, true_and, and_true, forall_eq, forall_eq', Option.some.injEq, exists_eq_left', false_implies, true_implies, forall_const, not_false_eq_true, not_true_eq_false, implies_true, b2iT, b2iF, i1n0, i0n1, Option.isSome_some, Option.isSome_none, Option.map_some, Option.map_none, reduceCtorEq, b2i_bz]
        refine ⟨fun eb => ?_, fun eb => ?_⟩
        · rw [lF_g (Int32.not_lt.mpr eb)] at gg
          exact gg
        · refine C_fits h hI hr hp _ ?_
          have hAe := hA_in (S := S) (j := j) hr ea
          cases hh : hold S i j with
          | false =>
            rw [hh] at hAe
            rw [lF_f hAe] at gg
            simp only [true_and, and_true, forall_eq, forall_eq', Option.some.injEq, exists_eq_left', false_implies, true_implies, forall_const, not_false_eq_true, not_true_eq_false, implies_true, b2iT, b2iF, i1n0, i0n1, Option.isSome_some, Option.isSome_none, Option.map_some, Option.map_none, reduceCtorEq, b2i_bz]
            exact gg
          | true =>
            rw [hh] at hAe
            rw [lF_t hAe (Int32.not_le.mp eb)] at gg
            simp only [RepC_uK h i hr, RepC_u0 h i hr, true_and, and_true, forall_eq, forall_eq', Option.some.injEq, exists_eq_left', false_implies, true_implies, forall_const, not_false_eq_true, not_true_eq_false, implies_true, b2iT, b2iF, i1n0, i0n1, Option.isSome_some, Option.isSome_none, Option.map_some, Option.map_none, reduceCtorEq, b2i_bz]
            exact gg
      · rw [lF_f (hA_out (by omega))] at gg
        simp only [hr, if_false, true_and, and_true, forall_eq, forall_eq', Option.some.injEq, exists_eq_left', false_implies, true_implies, forall_const, not_false_eq_true, not_true_eq_false, implies_true, b2iT, b2iF, i1n0, i0n1, Option.isSome_some, Option.isSome_none, Option.map_some, Option.map_none, reduceCtorEq, b2i_bz]
        exact gg
theorem C_leaderFor (h : RepC u q ia ra S (setS S) σ) (hI : Inv S) {j : Nat} (hp : prs S j = true) (w : Int32) (k : Int32 → MM → Prop) (hk : k (lS S j w) σ) : wX3_leaderFor u (some (ia j)) w σ k := ⟨41, C_leaderFor_l h hI hp w k 40 0 rfl hk⟩
theorem C_byRules_l (h : RepC u q ia ra S (setS S) σ) (hI : Inv S) {j : Nat} (hp : prs S j = true) (w : Int32) {l : Nat} (hl : l < mN S 3) (k : Int32 → MM → Prop) (hk : k (if cX S j w l 40 then -5 else mI S 12 l) σ) : ∀ d i, i + d = 40 → cX S j w l i = false → wX3_byRules_21 k u (d + 1) (some (ia j)) w (some (ra l)) (nI i) σ := by
  have hR := Inv_R hI
  intro d
  induction d with
  | zero =>
    intro i hi hc
    have : i = 40 := by omega
    subst this
    unfold wX3_byRules_21
    rw [hc] at hk
    simp only [RepC_K h, RepC_r7 h, RepC_k7 h, RepC_n7 h, le40, RepC_uK h l hl, RepC_u1 h l hl, true_and, and_true, forall_eq, forall_eq', Option.some.injEq, exists_eq_left', false_implies, true_implies, forall_const, not_false_eq_true, not_true_eq_false, implies_true, b2iT, b2iF, i1n0, i0n1, Option.isSome_some, Option.isSome_none, Option.map_some, Option.map_none, reduceCtorEq, b2i_bz]
    exact hk
  | succ d ih =>
    intro i hi hc
    have e1 : ¬ nI 40 ≤ nI i := nI_ge (by omega) (by decide)
    unfold wX3_byRules_21
    simp only [RepC_K h, RepC_r7 h, RepC_k7 h, RepC_n7 h, RepC_i7 h, e1, ix_nI (show i < 2 ^ 31 by omega), vp_in_nI (show i < 40 by omega) (by decide), nI_1, RepC_uK h l hl, RepC_u0 h l hl, RepC_u1 h l hl, true_and, and_true, forall_eq, forall_eq', Option.some.injEq, exists_eq_left', false_implies, true_implies, forall_const, not_false_eq_true, not_true_eq_false, implies_true, b2iT, b2iF, i1n0, i0n1, Option.isSome_some, Option.isSome_none, Option.map_some, Option.map_none, reduceCtorEq, b2i_bz]
    have go : (hA S j w i && (decide (mI S 11 i = mI S 11 l) && !decide (mI S 12 i = mI S 12 l))) = false → wX3_byRules_21 k u (d + 1) (some (ia j)) w (some (ra l)) (nI (i + 1)) σ := fun hf => ih (i + 1) (by omega) (by
      show (cX S j w l i || _) = false
      rw [hc, hf]; rfl)
    refine ⟨fun ea => go (by unfold hA; simp [ea]), fun ea => ?_⟩
    by_cases hr : i < mN S 3
    · simp only [hr, if_true, RepC_uK h i hr, RepC_u0 h i hr, RepC_u1 h i hr, true_and, and_true, forall_eq, forall_eq', Option.some.injEq, exists_eq_left', false_implies, true_implies, forall_const, not_false_eq_true, not_true_eq_false, implies_true, b2iT, b2iF, i1n0, i0n1, Option.isSome_some, Option.isSome_none, Option.map_some, Option.map_none, reduceCtorEq, b2i_bz]
      refine ⟨fun eb => go (by simp [eb]), fun eb => ⟨fun ec => go (by simp [ec]), fun ec => ?_⟩⟩
      refine C_fits h hI hr hp _ ?_
      have hAe := hA_in (S := S) (j := j) hr ea
      cases hh : hold S i j with
      | false =>
        rw [hh] at hAe
        simp only [true_and, and_true, forall_eq, forall_eq', Option.some.injEq, exists_eq_left', false_implies, true_implies, forall_const, not_false_eq_true, not_true_eq_false, implies_true, b2iT, b2iF, i1n0, i0n1, Option.isSome_some, Option.isSome_none, Option.map_some, Option.map_none, reduceCtorEq, b2i_bz]
        exact go (by rw [hAe]; rfl)
      | true =>
        rw [hh] at hAe
        have c1 : cX S j w l (i + 1) = true := by
          show (cX S j w l i || _) = true
          rw [hAe]; simp [eb, ec]
        have := cX_mono (40 - (i + 1)) c1
        rw [show i + 1 + (40 - (i + 1)) = 40 by omega] at this
        rw [this] at hk
        simp only [true_and, and_true, forall_eq, forall_eq', Option.some.injEq, exists_eq_left', false_implies, true_implies, forall_const, not_false_eq_true, not_true_eq_false, implies_true, b2iT, b2iF, i1n0, i0n1, Option.isSome_some, Option.isSome_none, Option.map_some, Option.map_none, reduceCtorEq, b2i_bz]
        exact hk
    · simp only [hr, if_false, true_and, and_true, forall_eq, forall_eq', Option.some.injEq, exists_eq_left', false_implies, true_implies, forall_const, not_false_eq_true, not_true_eq_false, implies_true, b2iT, b2iF, i1n0, i0n1, Option.isSome_some, Option.isSome_none, Option.map_some, Option.map_none, reduceCtorEq, b2i_bz]
      exact go (by rw [hA_out (by omega)]; rfl)
theorem C_byRules (h : RepC u q ia ra S (setS S) σ) (hI : Inv S) {j : Nat} (hp : prs S j = true) (w : Int32) (k : Int32 → MM → Prop) (hk : k (rS S j w) σ) : wX3_byRules u (some (ia j)) w σ k := by
  have hR := Inv_R hI
  unfold wX3_byRules
  refine ⟨RepC_K h, C_leaderFor h hI hp w _ ⟨RepC_K h, ?_⟩⟩
  rw [eC_ruleAt h hI]
  unfold lS
  unfold rS at hk
  rcases byR_inv hI j w (mN S 3) with ⟨h1, h2, h3⟩ | ⟨l, h1, h2, h3, h4, h5⟩
  · rw [h1, vI_neg (by decide)]
    rw [h2] at hk
    simp only [true_and, and_true, forall_eq, forall_eq', Option.some.injEq, exists_eq_left', false_implies, true_implies, forall_const, not_false_eq_true, not_true_eq_false, implies_true, b2iT, b2iF, i1n0, i0n1, Option.isSome_some, Option.isSome_none, Option.map_some, Option.map_none, reduceCtorEq, b2i_bz]
    exact hk
  · rw [h2, vI_nI h1 (by omega)]
    rw [h5] at hk
    simp only [true_and, and_true, forall_eq, forall_eq', Option.some.injEq, exists_eq_left', false_implies, true_implies, forall_const, not_false_eq_true, not_true_eq_false, implies_true, b2iT, b2iF, i1n0, i0n1, Option.isSome_some, Option.isSome_none, Option.map_some, Option.map_none, reduceCtorEq, b2i_bz]
    refine ⟨41, C_byRules_l h hI hp w h1 k ?_ 40 0 rfl rfl⟩
    have := cX_out (S := S) (j := j) (w := w) (l := l) (40 - mN S 3)
    rw [show mN S 3 + (40 - mN S 3) = 40 by omega] at this
    rw [this]
    exact hk
end PC
def fHolds (S : MM) (x y : Int32) : Int32 := match vI (mN S 3) x, vT S y with
  | some r, some j => b2i (hold S r j)
  | _, _ => -1
def fRuled (S : MM) (x : Int32) : Int32 := match vT S x with
  | some j => rS S j (-1)
  | none => -1
section PM
variable {t : Nat} {q : Nat → Nat} {S σ : MM}
theorem M_holds (h : RepM t q S σ) (hI : Inv S) (x y : Int32) (k : Int32 → MM → Prop) (hk : k (fHolds S x y) σ) : wX4_holds t x y σ k := by
  unfold wX4_holds
  unfold fHolds at hk
  simp only [eM_isRule h hI, eM_isItem h hI, RepM_K h, true_and, and_true, forall_eq, forall_eq', Option.some.injEq, exists_eq_left', false_implies, true_implies, forall_const, not_false_eq_true, not_true_eq_false, implies_true, b2iT, b2iF, i1n0, i0n1, Option.isSome_some, Option.isSome_none, Option.map_some, Option.map_none, reduceCtorEq, b2i_bz]
  cases hx : vI (mN S 3) x with
  | none => rw [hx] at hk; simp only [true_and, and_true, forall_eq, forall_eq', Option.some.injEq, exists_eq_left', false_implies, true_implies, forall_const, not_false_eq_true, not_true_eq_false, implies_true, b2iT, b2iF, i1n0, i0n1, Option.isSome_some, Option.isSome_none, Option.map_some, Option.map_none, reduceCtorEq, b2i_bz]; exact hk
  | some r =>
    cases hy : vT S y with
    | none => rw [hx, hy] at hk; simp only [true_and, and_true, forall_eq, forall_eq', Option.some.injEq, exists_eq_left', false_implies, true_implies, forall_const, not_false_eq_true, not_true_eq_false, implies_true, b2iT, b2iF, i1n0, i0n1, Option.isSome_some, Option.isSome_none, Option.map_some, Option.map_none, reduceCtorEq, b2i_bz]; exact hk
    | some j =>
      rw [hx, hy] at hk
      replace hk : k (b2i (hold S r j)) σ := hk
      obtain ⟨hr, rfl⟩ := vI_some hx
      obtain ⟨hp, hj, rfl⟩ := vT_some hy
      simp only [true_and, and_true, forall_eq, forall_eq', Option.some.injEq, exists_eq_left', false_implies, true_implies, forall_const, not_false_eq_true, not_true_eq_false, implies_true, b2iT, b2iF, i1n0, i0n1, Option.isSome_some, Option.isSome_none, Option.map_some, Option.map_none, reduceCtorEq, b2i_bz]
      refine M_setOf h hj _ ?_
      simp only [RepM_K h, RepM_r10 h, RepM_k10 h, RepM_n10 h, RepM_i10 h, half_nI hj, ix_nI (show j / 2 < 2 ^ 31 by omega), vp_in_nI (show j / 2 < 80 by omega) (by decide), true_and, and_true, forall_eq, forall_eq', Option.some.injEq, exists_eq_left', false_implies, true_implies, forall_const, not_false_eq_true, not_true_eq_false, implies_true, b2iT, b2iF, i1n0, i0n1, Option.isSome_some, Option.isSome_none, Option.map_some, Option.map_none, reduceCtorEq, b2i_bz]
      refine M_doesHold h hI hr _ ?_
      cases hh : hold S r j with
      | true => rw [hh] at hk; simp only [true_and, and_true, forall_eq, forall_eq', Option.some.injEq, exists_eq_left', false_implies, true_implies, forall_const, not_false_eq_true, not_true_eq_false, implies_true, b2iT, b2iF, i1n0, i0n1, Option.isSome_some, Option.isSome_none, Option.map_some, Option.map_none, reduceCtorEq, b2i_bz]; exact hk
      | false => rw [hh] at hk; simp only [true_and, and_true, forall_eq, forall_eq', Option.some.injEq, exists_eq_left', false_implies, true_implies, forall_const, not_false_eq_true, not_true_eq_false, implies_true, b2iT, b2iF, i1n0, i0n1, Option.isSome_some, Option.isSome_none, Option.map_some, Option.map_none, reduceCtorEq, b2i_bz]; exact hk
theorem M_ruled (h : RepM t q S σ) (hI : Inv S) (x : Int32) (k : Int32 → MM → Prop) (hk : ∀ σ1, RepM t q S σ1 → FrM q σ σ1 → k (fRuled S x) σ1) : wX4_ruled t x σ k := by
  unfold wX4_ruled
  unfold fRuled at hk
  simp only [eM_isItem h hI, RepM_K h, true_and, and_true, forall_eq, forall_eq', Option.some.injEq, exists_eq_left', false_implies, true_implies, forall_const, not_false_eq_true, not_true_eq_false, implies_true, b2iT, b2iF, i1n0, i0n1, Option.isSome_some, Option.isSome_none, Option.map_some, Option.map_none, reduceCtorEq, b2i_bz]
  cases hx : vT S x with
  | none => rw [hx] at hk; simp only [true_and, and_true, forall_eq, forall_eq', Option.some.injEq, exists_eq_left', false_implies, true_implies, forall_const, not_false_eq_true, not_true_eq_false, implies_true, b2iT, b2iF, i1n0, i0n1, Option.isSome_some, Option.isSome_none, Option.map_some, Option.map_none, reduceCtorEq, b2i_bz]; exact hk σ h (FrM_refl q σ)
  | some j =>
    rw [hx] at hk
    obtain ⟨hp, hj, rfl⟩ := vT_some hx
    simp only [true_and, and_true, forall_eq, forall_eq', Option.some.injEq, exists_eq_left', false_implies, true_implies, forall_const, not_false_eq_true, not_true_eq_false, implies_true, b2iT, b2iF, i1n0, i0n1, Option.isSome_some, Option.isSome_none, Option.map_some, Option.map_none, reduceCtorEq, b2i_bz]
    exact M_byRules h hI hj (-1) _ (hk _ (RepM_gm h _) (FrM_gm h _))
end PM
section PC
variable {u : Nat} {q ia ra : Nat → Nat} {S σ : MM}
theorem C_holds (h : RepC u q ia ra S (setS S) σ) (hI : Inv S) (x y : Int32) (k : Int32 → MM → Prop) (hk : k (fHolds S x y) σ) : wX3_holds u x y σ k := by
  unfold wX3_holds
  unfold fHolds at hk
  simp only [eC_ruleAt h hI, eC_itemAt h, RepC_K h, true_and, and_true, forall_eq, forall_eq', Option.some.injEq, exists_eq_left', false_implies, true_implies, forall_const, not_false_eq_true, not_true_eq_false, implies_true, b2iT, b2iF, i1n0, i0n1, Option.isSome_some, Option.isSome_none, Option.map_some, Option.map_none, reduceCtorEq, b2i_bz]
  cases hx : vI (mN S 3) x with
  | none => rw [hx] at hk; simp only [true_and, and_true, forall_eq, forall_eq', Option.some.injEq, exists_eq_left', false_implies, true_implies, forall_const, not_false_eq_true, not_true_eq_false, implies_true, b2iT, b2iF, i1n0, i0n1, Option.isSome_some, Option.isSome_none, Option.map_some, Option.map_none, reduceCtorEq, b2i_bz]; exact hk
  | some r =>
    cases hy : vT S y with
    | none => rw [hx, hy] at hk; simp only [true_and, and_true, forall_eq, forall_eq', Option.some.injEq, exists_eq_left', false_implies, true_implies, forall_const, not_false_eq_true, not_true_eq_false, implies_true, b2iT, b2iF, i1n0, i0n1, Option.isSome_some, Option.isSome_none, Option.map_some, Option.map_none, reduceCtorEq, b2i_bz]; exact hk
    | some j =>
      rw [hx, hy] at hk
      replace hk : k (b2i (hold S r j)) σ := hk
      obtain ⟨hr, rfl⟩ := vI_some hx
      obtain ⟨hp, hj, rfl⟩ := vT_some hy
      simp only [RepC_uK h r hr, true_and, and_true, forall_eq, forall_eq', Option.some.injEq, exists_eq_left', false_implies, true_implies, forall_const, not_false_eq_true, not_true_eq_false, implies_true, b2iT, b2iF, i1n0, i0n1, Option.isSome_some, Option.isSome_none, Option.map_some, Option.map_none, reduceCtorEq, b2i_bz]
      refine C_fits h hI hr hp _ ?_
      cases hh : hold S r j with
      | true => rw [hh] at hk; simp only [true_and, and_true, forall_eq, forall_eq', Option.some.injEq, exists_eq_left', false_implies, true_implies, forall_const, not_false_eq_true, not_true_eq_false, implies_true, b2iT, b2iF, i1n0, i0n1, Option.isSome_some, Option.isSome_none, Option.map_some, Option.map_none, reduceCtorEq, b2i_bz]; exact hk
      | false => rw [hh] at hk; simp only [true_and, and_true, forall_eq, forall_eq', Option.some.injEq, exists_eq_left', false_implies, true_implies, forall_const, not_false_eq_true, not_true_eq_false, implies_true, b2iT, b2iF, i1n0, i0n1, Option.isSome_some, Option.isSome_none, Option.map_some, Option.map_none, reduceCtorEq, b2i_bz]; exact hk
theorem C_ruled (h : RepC u q ia ra S (setS S) σ) (hI : Inv S) (x : Int32) (k : Int32 → MM → Prop) (hk : k (fRuled S x) σ) : wX3_ruled u x σ k := by
  unfold wX3_ruled
  unfold fRuled at hk
  simp only [eC_itemAt h, RepC_K h, true_and, and_true, forall_eq, forall_eq', Option.some.injEq, exists_eq_left', false_implies, true_implies, forall_const, not_false_eq_true, not_true_eq_false, implies_true, b2iT, b2iF, i1n0, i0n1, Option.isSome_some, Option.isSome_none, Option.map_some, Option.map_none, reduceCtorEq, b2i_bz]
  cases hx : vT S x with
  | none => rw [hx] at hk; simp only [true_and, and_true, forall_eq, forall_eq', Option.some.injEq, exists_eq_left', false_implies, true_implies, forall_const, not_false_eq_true, not_true_eq_false, implies_true, b2iT, b2iF, i1n0, i0n1, Option.isSome_some, Option.isSome_none, Option.map_some, Option.map_none, reduceCtorEq, b2i_bz]; exact hk
  | some j =>
    rw [hx] at hk
    obtain ⟨hp, hj, rfl⟩ := vT_some hx
    simp only [true_and, and_true, forall_eq, forall_eq', Option.some.injEq, exists_eq_left', false_implies, true_implies, forall_const, not_false_eq_true, not_true_eq_false, implies_true, b2iT, b2iF, i1n0, i0n1, Option.isSome_some, Option.isSome_none, Option.map_some, Option.map_none, reduceCtorEq, b2i_bz]
    exact C_byRules h hI hp (-1) _ hk
end PC
