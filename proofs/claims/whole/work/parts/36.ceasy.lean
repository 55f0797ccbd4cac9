section PC
variable {u : Nat} {q ia ra : Nat → Nat} {S σ : MM} {sf : Nat → Int64}
theorem C_gap (h : RepC u q ia ra S sf σ) (x y : Int32) (k : Int32 → MM → Prop) (hk : ∀ σ1, RepC u q ia ra (fGap S x y).2 sf σ1 → FrC q σ σ1 → k (fGap S x y).1 σ1) : wX3_gap u x y σ k := by
  unfold wX3_gap
  unfold fGap at hk
  simp only [eC_isIn, RepC_K h, true_and, and_true, forall_eq, forall_eq', Option.some.injEq, exists_eq_left', false_implies, true_implies, forall_const, not_false_eq_true, not_true_eq_false, implies_true, b2iT, b2iF, i1n0, i0n1, Option.isSome_some, Option.isSome_none, Option.map_some, Option.map_none, reduceCtorEq, b2i_bz]
  cases hx : decide (1 ≤ x ∧ x ≤ 1000)
  · rw [hx] at hk
    simp only [true_and, and_true, forall_eq, forall_eq', Option.some.injEq, exists_eq_left', false_implies, true_implies, forall_const, not_false_eq_true, not_true_eq_false, implies_true, b2iT, b2iF, i1n0, i0n1, Option.isSome_some, Option.isSome_none, Option.map_some, Option.map_none, reduceCtorEq, b2i_bz]
    exact hk σ h (FrC_refl q σ)
  · cases hy : decide (0 ≤ y ∧ y ≤ 1000)
    · rw [hx, hy] at hk
      simp only [true_and, and_true, forall_eq, forall_eq', Option.some.injEq, exists_eq_left', false_implies, true_implies, forall_const, not_false_eq_true, not_true_eq_false, implies_true, b2iT, b2iF, i1n0, i0n1, Option.isSome_some, Option.isSome_none, Option.map_some, Option.map_none, reduceCtorEq, b2i_bz]
      exact hk σ h (FrC_refl q σ)
    · rw [hx, hy] at hk
      simp only [true_and, and_true, forall_eq, forall_eq', Option.some.injEq, exists_eq_left', false_implies, true_implies, forall_const, not_false_eq_true, not_true_eq_false, implies_true, b2iT, b2iF, i1n0, i0n1, Option.isSome_some, Option.isSome_none, Option.map_some, Option.map_none, reduceCtorEq, b2i_bz]
      exact hk _ (RepC_u10w (RepC_u9w h x) y) (FrC_tr (FrC_oI (by rw [RepC_K h]; decide)) (FrC_oI (by rw [RepC_K (RepC_u9w h x)]; decide)))
theorem C_drop (h : RepC u q ia ra S sf σ) (hI : Inv S) (x : Int32) (k : Int32 → MM → Prop) (hk : ∀ σ1, RepC u q ia ra (fDrop S x).2 sf σ1 → FrC q σ σ1 → k (fDrop S x).1 σ1) : wX3_drop u x σ k := by
  unfold wX3_drop
  unfold fDrop at hk
  simp only [eC_ruleAt h hI, RepC_K h, true_and, and_true, forall_eq, forall_eq', Option.some.injEq, exists_eq_left', false_implies, true_implies, forall_const, not_false_eq_true, not_true_eq_false, implies_true, b2iT, b2iF, i1n0, i0n1, Option.isSome_some, Option.isSome_none, Option.map_some, Option.map_none, reduceCtorEq, b2i_bz]
  cases hx : vI (mN S 3) x with
  | none =>
    rw [hx] at hk
    simp only [true_and, and_true, forall_eq, forall_eq', Option.some.injEq, exists_eq_left', false_implies, true_implies, forall_const, not_false_eq_true, not_true_eq_false, implies_true, b2iT, b2iF, i1n0, i0n1, Option.isSome_some, Option.isSome_none, Option.map_some, Option.map_none, reduceCtorEq, b2i_bz]
    exact hk σ h (FrC_refl q σ)
  | some r =>
    rw [hx] at hk
    obtain ⟨hr, rfl⟩ := vI_some hx
    simp only [RepC_uK h r hr, RepC_u5 h r hr, true_and, and_true, forall_eq, forall_eq', Option.some.injEq, exists_eq_left', false_implies, true_implies, forall_const, not_false_eq_true, not_true_eq_false, implies_true, b2iT, b2iF, i1n0, i0n1, Option.isSome_some, Option.isSome_none, Option.map_some, Option.map_none, reduceCtorEq, b2i_bz]
    by_cases h0 : mI S 14 r = 0
    · simp only [h0, if_true, true_and, and_true, forall_eq, forall_eq', Option.some.injEq, exists_eq_left', false_implies, true_implies, forall_const, not_false_eq_true, not_true_eq_false, implies_true, b2iT, b2iF, i1n0, i0n1, Option.isSome_some, Option.isSome_none, Option.map_some, Option.map_none, reduceCtorEq, b2i_bz] at hk ⊢
      exact hk _ (RepC_u5w h hr 1) (FrC_oI (by rw [RepC_uK h r hr]; decide))
    · simp only [h0, if_false, true_and, and_true, forall_eq, forall_eq', Option.some.injEq, exists_eq_left', false_implies, true_implies, forall_const, not_false_eq_true, not_true_eq_false, implies_true, b2iT, b2iF, i1n0, i0n1, Option.isSome_some, Option.isSome_none, Option.map_some, Option.map_none, reduceCtorEq, b2i_bz] at hk ⊢
      exact hk σ h (FrC_refl q σ)
theorem C_grow {a b n room : Nat} (h1 : mK σ a = 3) (h2 : mI σ a 2 = nI n) (h3 : mR σ a 0 = some b) (h4 : mK σ b = 6) (h5 : mN σ b = 40) (h6 : mI σ a 1 = nI room) (hn : n ≤ room) (hr : room ≤ 40) (x : Int32) (k : Int32 → MM → Prop)
    (hk : if up1 n x then (if n = room then k (-3) σ else k (nI n) (sI (sI σ b n x) a 2 (nI (n + 1)))) else k (-1) σ) : wX2_grow a x σ k := by
  have hab : a ≠ b := ne_k h1 h4 (by decide)
  have t15 : (if n = room then k (-3) σ else k (nI n) (sI (sI σ b n x) a 2 (nI (n + 1)))) → wX2_grow_15 k a x σ := by
    intro hh
    unfold wX2_grow_15
    by_cases e : n = room
    · rw [if_pos e] at hh
      simp only [h1, h2, h6, e, show nI room ≤ nI room from nI_le (Nat.le_refl _) (by omega), true_and, and_true, forall_eq, forall_eq', Option.some.injEq, exists_eq_left', false_implies, true_implies, forall_const, not_false_eq_true, not_true_eq_false, implies_true, b2iT, b2iF, i1n0, i0n1, Option.isSome_some, Option.isSome_none, Option.map_some, Option.map_none, reduceCtorEq, b2i_bz]
      exact hh
    · rw [if_neg e] at hh
      have e1 : ¬ nI room ≤ nI n := nI_ge (by omega) (by omega)
      have e2 : nI n < nI 40 := nI_lt (by omega) (by decide)
      simp only [h1, h2, h3, h4, h5, h6, e1, e2, ix_nI (show n < 2 ^ 31 by omega), vp_in_nI (show n < 40 by omega) (by decide), true_and, and_true, forall_eq, forall_eq', Option.some.injEq, exists_eq_left', false_implies, true_implies, forall_const, not_false_eq_true, not_true_eq_false, implies_true, b2iT, b2iF, i1n0, i0n1, Option.isSome_some, Option.isSome_none, Option.map_some, Option.map_none, reduceCtorEq, b2i_bz]
      have e3 : mI (sI σ b n x) a 2 = nI n := by rw [mI_sI_ne hab]; exact h2
      simp only [e3, nI_1]
      simp only [mI_sI, nI_pred, and_self, if_true]
      exact hh
  unfold wX2_grow
  unfold up1 at hk
  by_cases hx : x = -1
  · simp only [hx, true_and, and_true, forall_eq, forall_eq', Option.some.injEq, exists_eq_left', false_implies, true_implies, forall_const, not_false_eq_true, not_true_eq_false, implies_true, b2iT, b2iF, i1n0, i0n1, Option.isSome_some, Option.isSome_none, Option.map_some, Option.map_none, reduceCtorEq, b2i_bz]
    simp only [hx, decide_true, Bool.true_or, if_true] at hk
    rw [← hx]
    rw [← hx] at hk
    exact t15 hk
  · simp only [hx, h1, eC_has h1 h2 h3 h4 h5 (show n ≤ 40 by omega), true_and, and_true, forall_eq, forall_eq', Option.some.injEq, exists_eq_left', false_implies, true_implies, forall_const, not_false_eq_true, not_true_eq_false, implies_true, b2iT, b2iF, i1n0, i0n1, Option.isSome_some, Option.isSome_none, Option.map_some, Option.map_none, reduceCtorEq, b2i_bz]
    cases hv : vI n x with
    | none =>
      simp only [hv, hx, decide_false, Bool.false_or, true_and, and_true, forall_eq, forall_eq', Option.some.injEq, exists_eq_left', false_implies, true_implies, forall_const, not_false_eq_true, not_true_eq_false, implies_true, b2iT, b2iF, i1n0, i0n1, Option.isSome_some, Option.isSome_none, Option.map_some, Option.map_none, reduceCtorEq, b2i_bz] at hk ⊢
      exact hk
    | some j =>
      simp only [hv, hx, decide_false, Bool.false_or, Option.isSome_some, if_true] at hk
      simp only [true_and, and_true, forall_eq, forall_eq', Option.some.injEq, exists_eq_left', false_implies, true_implies, forall_const, not_false_eq_true, not_true_eq_false, implies_true, b2iT, b2iF, i1n0, i0n1, Option.isSome_some, Option.isSome_none, Option.map_some, Option.map_none, reduceCtorEq, b2i_bz]
      exact t15 hk
theorem C_code (h : RepC u q ia ra S sf σ) (hI : Inv S) (x : Int32) (k : Int32 → MM → Prop) (hk : ∀ σ1, RepC u q ia ra (fCode S x).2 sf σ1 → FrC q σ σ1 → k (fCode S x).1 σ1) : wX3_code u x σ k := by
  have hC := Inv_C hI
  unfold wX3_code
  simp only [RepC_K h, RepC_r0 h, RepC_k0 h, true_and, and_true, forall_eq, forall_eq', Option.some.injEq, exists_eq_left', false_implies, true_implies, forall_const, not_false_eq_true, not_true_eq_false, implies_true, b2iT, b2iF, i1n0, i0n1, Option.isSome_some, Option.isSome_none, Option.map_some, Option.map_none, reduceCtorEq, b2i_bz]
  refine C_grow (n := mN S 0) (room := 40) (RepC_k0 h) (RepC_s0 h) (RepC_a0 h) (RepC_k20 h) (RepC_n20 h) (RepC_m0 h) hC (by decide) x _ ?_
  unfold fCode at hk
  by_cases hx : up1 (mN S 0) x = true
  · simp only [hx, if_true] at hk ⊢
    by_cases h40 : mN S 0 = 40
    · simp only [h40, if_true] at hk ⊢
      exact hk σ h (FrC_refl q σ)
    · simp only [h40, if_false] at hk ⊢
      exact hk _ (RepC_q0w (RepC_q20w h (mN S 0) x) (mN S 0 + 1)) (FrC_tr (FrC_I (by decide)) (FrC_I (by decide)))
  · simp only [hx, if_false] at hk ⊢
    exact hk σ h (FrC_refl q σ)
theorem C_other (h : RepC u q ia ra S sf σ) (hI : Inv S) (x : Int32) (k : Int32 → MM → Prop) (hk : ∀ σ1, RepC u q ia ra (fOther S x).2 sf σ1 → FrC q σ σ1 → k (fOther S x).1 σ1) : wX3_other u x σ k := by
  have hC := Inv_O hI
  unfold wX3_other
  simp only [RepC_K h, RepC_r1 h, RepC_k1 h, true_and, and_true, forall_eq, forall_eq', Option.some.injEq, exists_eq_left', false_implies, true_implies, forall_const, not_false_eq_true, not_true_eq_false, implies_true, b2iT, b2iF, i1n0, i0n1, Option.isSome_some, Option.isSome_none, Option.map_some, Option.map_none, reduceCtorEq, b2i_bz]
  refine C_grow (n := mN S 1) (room := 30) (RepC_k1 h) (RepC_s1 h) (RepC_a1 h) (RepC_k21 h) (RepC_n21 h) (RepC_m1 h) hC (by decide) x _ ?_
  unfold fOther at hk
  by_cases hx : up1 (mN S 1) x = true
  · simp only [hx, if_true] at hk ⊢
    by_cases h40 : mN S 1 = 30
    · simp only [h40, if_true] at hk ⊢
      exact hk σ h (FrC_refl q σ)
    · simp only [h40, if_false] at hk ⊢
      exact hk _ (RepC_q1w (RepC_q21w h (mN S 1) x) (mN S 1 + 1)) (FrC_tr (FrC_I (by decide)) (FrC_I (by decide)))
  · simp only [hx, if_false] at hk ⊢
    exact hk σ h (FrC_refl q σ)
theorem C_exclude (h : RepC u q ia ra S sf σ) (hI : Inv S) (x y z : Int32) (k : Int32 → MM → Prop) (hk : ∀ σ1, RepC u q ia ra (fExclude S x y z).2 sf σ1 → FrC q σ σ1 → k (fExclude S x y z).1 σ1) : wX3_exclude u x y z σ k := by
  have hC := Inv_C hI
  unfold wX3_exclude
  unfold fExclude at hk
  simp only [eC_isCode h hI, eC_isWord h, eC_isIn0 (show (1 : Int32).toInt = ((2 : Nat) : Int) - 1 from rfl), RepC_K h, true_and, and_true, forall_eq, forall_eq', Option.some.injEq, exists_eq_left', false_implies, true_implies, forall_const, not_false_eq_true, not_true_eq_false, implies_true, b2iT, b2iF, i1n0, i0n1, Option.isSome_some, Option.isSome_none, Option.map_some, Option.map_none, reduceCtorEq, b2i_bz]
  cases hx : vI (mN S 0) x with
  | none => rw [hx] at hk; simp only [true_and, and_true, forall_eq, forall_eq', Option.some.injEq, exists_eq_left', false_implies, true_implies, forall_const, not_false_eq_true, not_true_eq_false, implies_true, b2iT, b2iF, i1n0, i0n1, Option.isSome_some, Option.isSome_none, Option.map_some, Option.map_none, reduceCtorEq, b2i_bz]; exact hk σ h (FrC_refl q σ)
  | some c =>
    cases hy : vI 60 y with
    | none => rw [hx, hy] at hk; simp only [true_and, and_true, forall_eq, forall_eq', Option.some.injEq, exists_eq_left', false_implies, true_implies, forall_const, not_false_eq_true, not_true_eq_false, implies_true, b2iT, b2iF, i1n0, i0n1, Option.isSome_some, Option.isSome_none, Option.map_some, Option.map_none, reduceCtorEq, b2i_bz]; exact hk σ h (FrC_refl q σ)
    | some w =>
      cases hz : vI 2 z with
      | none => rw [hx, hy, hz] at hk; simp only [true_and, and_true, forall_eq, forall_eq', Option.some.injEq, exists_eq_left', false_implies, true_implies, forall_const, not_false_eq_true, not_true_eq_false, implies_true, b2iT, b2iF, i1n0, i0n1, Option.isSome_some, Option.isSome_none, Option.map_some, Option.map_none, reduceCtorEq, b2i_bz]; exact hk σ h (FrC_refl q σ)
      | some b =>
        rw [hx, hy, hz] at hk
        obtain ⟨hc, rfl⟩ := vI_some hx
        obtain ⟨hw, rfl⟩ := vI_some hy
        obtain ⟨hb, rfl⟩ := vI_some hz
        simp only [RepC_K h, RepC_r2 h, RepC_k2 h, RepC_n2 h, RepC_i2 h, ix_nI (show c < 2 ^ 31 by omega), vp_in_nI (show c < 40 by omega) (by decide), eC_bit (mL S 0 c) (show w < 64 by omega), eC_withBit (mL S 0 c) w hb, true_and, and_true, forall_eq, forall_eq', Option.some.injEq, exists_eq_left', false_implies, true_implies, forall_const, not_false_eq_true, not_true_eq_false, implies_true, b2iT, b2iF, i1n0, i0n1, Option.isSome_some, Option.isSome_none, Option.map_some, Option.map_none, reduceCtorEq, b2i_bz]
        exact hk _ (RepC_q2w h c _) (FrC_L (by decide))
theorem C_treat {r : Nat} (h : RepC u q ia ra S sf σ) (hr : r < mN S 3) {w b : Nat} (hw : w < 60) (hb : b < 3) (k : Int32 → MM → Prop)
    (hk : ∀ σ1, RepC u q ia ra (sL (sL S 2 r (wB (mL S 2 r) w (if b = 1 then 1 else 0))) 3 r (wB (mL S 3 r) w (if b = 2 then 1 else 0))) sf σ1 → FrC q σ σ1 → k (if bT (mL S 2 r) w then 1 else if bT (mL S 3 r) w then 2 else 0) σ1) : wX1_treat (ra r) (nI w) (nI b) σ k := by
  have tail : ∀ (z0 : Int32) (e : Nat), e = (if b = 1 then 1 else 0) → (∀ σ1, RepC u q ia ra (sL (sL S 2 r (wB (mL S 2 r) w (if b = 1 then 1 else 0))) 3 r (wB (mL S 3 r) w (if b = 2 then 1 else 0))) sf σ1 → FrC q σ σ1 → k z0 σ1) → wX1_treat_50 k (ra r) (nI w) (nI b) z0 (mL σ (ra r) 3) (nI w) (nI e) σ := by
    intro z0 e he hz0
    subst he
    unfold wX1_treat_50
    have hKr := RepC_uK h r hr
    have g1 := RepC_u3w h hr (wB (mL S 2 r) w (if b = 1 then 1 else 0))
    have g2 := RepC_u4w (j := r) g1 hr (wB (mL S 3 r) w (if b = 2 then 1 else 0))
    have hKr1 := RepC_uK g1 r hr
    have e4 := RepC_u4 g1 r hr
    have fr : FrC q σ (sL (sL σ (ra r) 3 (wB (mL S 2 r) w (if b = 1 then 1 else 0))) (ra r) 4 (wB (mL S 3 r) w (if b = 2 then 1 else 0))) := FrC_tr (FrC_oL (by rw [hKr]; decide)) (FrC_oL (by rw [hKr1]; decide))
    have fin := hz0 _ g2 fr
    rw [RepC_u3 h r hr]
    simp only [eC_withBit _ w (show (if b = 1 then 1 else 0) < 2 by split <;> decide), hKr, true_and, and_true, forall_eq, forall_eq', Option.some.injEq, exists_eq_left', false_implies, true_implies, forall_const, not_false_eq_true, not_true_eq_false, implies_true, b2iT, b2iF, i1n0, i0n1, Option.isSome_some, Option.isSome_none, Option.map_some, Option.map_none, reduceCtorEq, b2i_bz]
    have e4' : mL (sL σ (ra r) 3 (wB (mL S 2 r) w (if b = 1 then 1 else 0))) (ra r) 4 = mL S 3 r := e4
    have hK2 : mK (sL σ (ra r) 3 (wB (mL S 2 r) w (if b = 1 then 1 else 0))) (ra r) = 2 := hKr1
    rw [e4']
    by_cases hb2 : b = 2
    · subst hb2
      refine ⟨fun hn => absurd rfl hn, fun _ => ?_⟩
      rw [show (1 : Int32) = nI 1 from rfl, eC_withBit _ w (by decide)]
      exact ⟨hK2, fin⟩
    · refine ⟨fun _ => ?_, fun hn => absurd ((nI_lit2 (by omega)).mp hn) hb2⟩
      rw [show (0 : Int32) = nI 0 from rfl, eC_withBit _ w (by decide)]
      rw [if_neg hb2] at fin
      exact ⟨hK2, fin⟩
  unfold wX1_treat
  simp only [RepC_uK h r hr, RepC_u3 h r hr, RepC_u4 h r hr, eC_bit _ (show w < 64 by omega), b2i_1, nI_lit1 (show b < 2 ^ 31 by omega), true_and, and_true, forall_eq, forall_eq', Option.some.injEq, exists_eq_left', false_implies, true_implies, forall_const, not_false_eq_true, not_true_eq_false, implies_true, b2iT, b2iF, i1n0, i0n1, Option.isSome_some, Option.isSome_none, Option.map_some, Option.map_none, reduceCtorEq, b2i_bz]
  have e3 := RepC_u3 h r hr
  cases hn : bT (mL S 2 r) w with
  | true =>
    rw [hn] at hk
    simp only [true_and, and_true, forall_eq, forall_eq', Option.some.injEq, exists_eq_left', false_implies, true_implies, forall_const, not_false_eq_true, not_true_eq_false, implies_true, b2iT, b2iF, i1n0, i0n1, Option.isSome_some, Option.isSome_none, Option.map_some, Option.map_none, reduceCtorEq, b2i_bz]
    refine ⟨fun hb1 => ?_, fun hb1 => ?_⟩
    · have := tail 1 0 (by rw [if_neg hb1]) hk
      rw [e3] at this; exact this
    · have := tail 1 1 (by rw [if_pos hb1]) hk
      rw [e3] at this; exact this
  | false =>
    rw [hn] at hk
    cases hm : bT (mL S 3 r) w with
    | true =>
      rw [hm] at hk
      simp only [true_and, and_true, forall_eq, forall_eq', Option.some.injEq, exists_eq_left', false_implies, true_implies, forall_const, not_false_eq_true, not_true_eq_false, implies_true, b2iT, b2iF, i1n0, i0n1, Option.isSome_some, Option.isSome_none, Option.map_some, Option.map_none, reduceCtorEq, b2i_bz]
      refine ⟨fun hb1 => ?_, fun hb1 => ?_⟩
      · have := tail 2 0 (by rw [if_neg hb1]) hk
        rw [e3] at this; exact this
      · have := tail 2 1 (by rw [if_pos hb1]) hk
        rw [e3] at this; exact this
    | false =>
      rw [hm] at hk
      simp only [true_and, and_true, forall_eq, forall_eq', Option.some.injEq, exists_eq_left', false_implies, true_implies, forall_const, not_false_eq_true, not_true_eq_false, implies_true, b2iT, b2iF, i1n0, i0n1, Option.isSome_some, Option.isSome_none, Option.map_some, Option.map_none, reduceCtorEq, b2i_bz]
      refine ⟨fun hb1 => ?_, fun hb1 => ?_⟩
      · have := tail 0 0 (by rw [if_neg hb1]) hk
        rw [e3] at this; exact this
      · have := tail 0 1 (by rw [if_pos hb1]) hk
        rw [e3] at this; exact this
theorem C_with (h : RepC u q ia ra S sf σ) (hI : Inv S) (x y z : Int32) (k : Int32 → MM → Prop) (hk : ∀ σ1, RepC u q ia ra (fWith S x y z).2 sf σ1 → FrC q σ σ1 → k (fWith S x y z).1 σ1) : wX3_with u x y z σ k := by
  unfold wX3_with
  have hk0 := hk
  unfold fWith at hk
  simp only [eC_ruleAt h hI, eC_isWord h, eC_isIn0 (show (2 : Int32).toInt = ((3 : Nat) : Int) - 1 from rfl), RepC_K h, true_and, and_true, forall_eq, forall_eq', Option.some.injEq, exists_eq_left', false_implies, true_implies, forall_const, not_false_eq_true, not_true_eq_false, implies_true, b2iT, b2iF, i1n0, i0n1, Option.isSome_some, Option.isSome_none, Option.map_some, Option.map_none, reduceCtorEq, b2i_bz]
  cases hx : vI (mN S 3) x with
  | none => rw [hx] at hk; simp only [true_and, and_true, forall_eq, forall_eq', Option.some.injEq, exists_eq_left', false_implies, true_implies, forall_const, not_false_eq_true, not_true_eq_false, implies_true, b2iT, b2iF, i1n0, i0n1, Option.isSome_some, Option.isSome_none, Option.map_some, Option.map_none, reduceCtorEq, b2i_bz]; exact hk σ h (FrC_refl q σ)
  | some r =>
    obtain ⟨hr, rfl⟩ := vI_some hx
    simp only [RepC_uK h r hr, RepC_u5 h r hr, true_and, and_true, forall_eq, forall_eq', Option.some.injEq, exists_eq_left', false_implies, true_implies, forall_const, not_false_eq_true, not_true_eq_false, implies_true, b2iT, b2iF, i1n0, i0n1, Option.isSome_some, Option.isSome_none, Option.map_some, Option.map_none, reduceCtorEq, b2i_bz]
    by_cases hd : mI S 14 r = 0
    · simp only [hd, true_and, and_true, forall_eq, forall_eq', Option.some.injEq, exists_eq_left', false_implies, true_implies, forall_const, not_false_eq_true, not_true_eq_false, implies_true, b2iT, b2iF, i1n0, i0n1, Option.isSome_some, Option.isSome_none, Option.map_some, Option.map_none, reduceCtorEq, b2i_bz]
      cases hy : vI 60 y with
      | none => rw [hx, hy] at hk; simp only [true_and, and_true, forall_eq, forall_eq', Option.some.injEq, exists_eq_left', false_implies, true_implies, forall_const, not_false_eq_true, not_true_eq_false, implies_true, b2iT, b2iF, i1n0, i0n1, Option.isSome_some, Option.isSome_none, Option.map_some, Option.map_none, reduceCtorEq, b2i_bz]; exact hk σ h (FrC_refl q σ)
      | some w =>
        cases hz : vI 3 z with
        | none => rw [hx, hy, hz] at hk; simp only [true_and, and_true, forall_eq, forall_eq', Option.some.injEq, exists_eq_left', false_implies, true_implies, forall_const, not_false_eq_true, not_true_eq_false, implies_true, b2iT, b2iF, i1n0, i0n1, Option.isSome_some, Option.isSome_none, Option.map_some, Option.map_none, reduceCtorEq, b2i_bz]; exact hk σ h (FrC_refl q σ)
        | some b =>
          rw [hx, hy, hz] at hk
          obtain ⟨hw, rfl⟩ := vI_some hy
          obtain ⟨hb, rfl⟩ := vI_some hz
          simp only [hd, if_true] at hk
          simp only [true_and, and_true, forall_eq, forall_eq', Option.some.injEq, exists_eq_left', false_implies, true_implies, forall_const, not_false_eq_true, not_true_eq_false, implies_true, b2iT, b2iF, i1n0, i0n1, Option.isSome_some, Option.isSome_none, Option.map_some, Option.map_none, reduceCtorEq, b2i_bz]
          exact C_treat h hr hw hb _ hk
    · simp only [hd, true_and, and_true, forall_eq, forall_eq', Option.some.injEq, exists_eq_left', false_implies, true_implies, forall_const, not_false_eq_true, not_true_eq_false, implies_true, b2iT, b2iF, i1n0, i0n1, Option.isSome_some, Option.isSome_none, Option.map_some, Option.map_none, reduceCtorEq, b2i_bz]
      have : fWith S (nI r) y z = (-1, S) := by
        unfold fWith
        rw [hx]
        cases vI 60 y <;> cases vI 3 z <;> simp [hd]
      rw [this] at hk0
      exact hk0 σ h (FrC_refl q σ)
end PC
