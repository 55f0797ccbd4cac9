theorem bF_inv {S : MM} (j : Nat) : ∀ n, (0 ≤ (bF S j n).2.1 ∧ 0 ≤ (bF S j n).2.2.1) ∧ (((bF S j n).1 = -2 ∧ (bF S j n).2.1 = 0 ∧ (bF S j n).2.2.2 = -1) ∨ ∃ c, c < n ∧ (bF S j n).1 = nI c ∧ (bF S j n).2.1 = nearS S c j ∧ ¬ nearS S c j ≤ 0 ∧ (bF S j n).2.2.2 = nearB S c j)
  | 0 => ⟨⟨Int32.le_refl _, Int32.le_refl _⟩, Or.inl ⟨rfl, rfl, rfl⟩⟩
  | n + 1 => by
    obtain ⟨⟨g1, g2⟩, g3⟩ := bF_inv j n
    have up : (((bF S j n).1 = -2 ∧ (bF S j n).2.1 = 0 ∧ (bF S j n).2.2.2 = -1) ∨ ∃ c, c < n + 1 ∧ (bF S j n).1 = nI c ∧ (bF S j n).2.1 = nearS S c j ∧ ¬ nearS S c j ≤ 0 ∧ (bF S j n).2.2.2 = nearB S c j) := by
      rcases g3 with z | ⟨c, z1, z2⟩
      · exact Or.inl z
      · exact Or.inr ⟨c, by omega, z2⟩
    by_cases h1 : nearS S n j ≤ (bF S j n).2.1
    · by_cases h2 : nearS S n j ≤ (bF S j n).2.2.1
      · rw [bF_1 h1 h2]; exact ⟨⟨g1, g2⟩, up⟩
      · rw [bF_2 h1 h2]
        exact ⟨⟨g1, Int32.le_trans g2 (Int32.le_of_lt (Int32.not_le.mp h2))⟩, up⟩
    · rw [bF_3 h1]
      have h3 : 0 ≤ nearS S n j := Int32.le_trans g1 (Int32.le_of_lt (Int32.not_le.mp h1))
      refine ⟨⟨h3, g1⟩, Or.inr ⟨n, by omega, rfl, rfl, fun z => h1 (Int32.le_trans z g1), rfl⟩⟩
def cB (x : Int32) : Int32 := if x = -2 then 0 else x
theorem nI_nm2 {n : Nat} (h : n < 2 ^ 31) : ¬ nI n = -2 := fun e => by
  have := congrArg Int32.toInt e
  rw [nI_toInt h] at this
  have h0 : (-2 : Int32).toInt = -2 := rfl
  omega
section PC
variable {u : Nat} {q ia ra : Nat → Nat} {S σ : MM}
theorem C_byLik_end (hI : Inv S) {j : Nat} (h : RepC u q ia ra S (setS S) σ) (k : Int32 → MM → Prop) (hk : k (kS S j) σ) : (((bF S j (mN S 0)).2.1 < mI S 15 0 → k (-2) σ) ∧ (¬ (bF S j (mN S 0)).2.1 < mI S 15 0 → (((bF S j (mN S 0)).2.1 - (bF S j (mN S 0)).2.2.1 < mI S 15 1 → k (-2) σ) ∧ (¬ (bF S j (mN S 0)).2.1 - (bF S j (mN S 0)).2.2.1 < mI S 15 1 → k (cB (bF S j (mN S 0)).1) σ)))) := by
  have hC := Inv_C hI
  obtain ⟨v, v1, v2, ev⟩ := Inv_le hI
  unfold kS bE at hk
  rcases (bF_inv (S := S) j (mN S 0)).2 with ⟨z1, z2, _⟩ | ⟨c, z1, z2, z3⟩
  · have hlt : (bF S j (mN S 0)).2.1 < mI S 15 0 := by
      rw [z2, ev]; exact nI_lt (a := 0) (by omega) (by omega)
    rw [z1, if_pos (by decide)] at hk
    exact ⟨fun _ => hk, fun z => absurd hlt z⟩
  · have hb : cB (bF S j (mN S 0)).1 = (bF S j (mN S 0)).1 := by
      unfold cB
      rw [z2, if_neg (nI_nm2 (by omega))]
    rw [hb]
    rw [if_neg (by rw [z2]; exact nI_pos (by omega))] at hk
    refine ⟨fun e => ?_, fun e => ⟨fun e2 => ?_, fun e2 => ?_⟩⟩
    · rw [if_pos e] at hk; exact hk
    · rw [if_neg e, if_pos e2] at hk; exact hk
    · rw [if_neg e, if_neg e2] at hk; exact hk
theorem C_byLik_l (h : RepC u q ia ra S (setS S) σ) (hI : Inv S) {j : Nat} (hm : ∀ c, c < 40 → mI σ (q 11) c = nA2 S j 160 c) (k : Int32 → MM → Prop) (hk : k (kS S j) σ) : ∀ d c, c + d = 40 → wX3_byLikeness_15 k u (d + 1) (cB (bF S j (if c ≤ mN S 0 then c else mN S 0)).1) (bF S j (if c ≤ mN S 0 then c else mN S 0)).2.1 (bF S j (if c ≤ mN S 0 then c else mN S 0)).2.2.1 (nI c) σ := by
  have hC := Inv_C hI
  intro d
  induction d with
  | zero =>
    intro c hc
    have : c = 40 := by omega
    subst this
    have e0 : (if 40 ≤ mN S 0 then 40 else mN S 0) = mN S 0 := by split <;> omega
    rw [e0]
    unfold wX3_byLikeness_15
    simp only [RepC_K h, RepC_r11 h, RepC_k11 h, RepC_n11 h, RepC_le h, RepC_ga h, le40, true_and, and_true, forall_eq, forall_eq', Option.some.injEq, exists_eq_left', false_implies, true_implies, forall_const, not_false_eq_true, not_true_eq_false, implies_true, b2iT, b2iF, i1n0, i0n1, Option.isSome_some, Option.isSome_none, Option.map_some, Option.map_none, reduceCtorEq, b2i_bz]
    exact C_byLik_end hI h k hk
  | succ d ih =>
    intro c hc
    have e1 : ¬ nI 40 ≤ nI c := nI_ge (by omega) (by decide)
    have gg := ih (c + 1) (by omega)
    unfold wX3_byLikeness_15
    simp only [RepC_K h, RepC_r11 h, RepC_k11 h, RepC_n11 h, e1, ix_nI (show c < 2 ^ 31 by omega), vp_in_nI (show c < 40 by omega) (by decide), nI_1, true_and, and_true, forall_eq, forall_eq', Option.some.injEq, exists_eq_left', false_implies, true_implies, forall_const, not_false_eq_true, not_true_eq_false, implies_true, b2iT, b2iF, i1n0, i0n1, Option.isSome_some, Option.isSome_none, Option.map_some, Option.map_none, reduceCtorEq, b2i_bz]
    rw [hm c (by omega)]
    by_cases hcn : c < mN S 0
    · rw [show (if c + 1 ≤ mN S 0 then c + 1 else mN S 0) = c + 1 from if_pos (by omega)] at gg
      rw [show (if c ≤ mN S 0 then c else mN S 0) = c from if_pos (by omega)]
      have en : nA2 S j 160 c = nearS S c j := by unfold nA2 nearS; rw [if_pos hcn]
      rw [en]
      refine ⟨fun el => ⟨fun el2 => ?_, fun el2 => ?_⟩, fun el => ?_⟩
      · rw [bF_1 el el2] at gg; exact gg
      · rw [bF_2 el el2] at gg; simp only at gg; exact gg
      · rw [bF_3 el] at gg
        simp only at gg
        have : cB (nI c) = nI c := by unfold cB; rw [if_neg (nI_nm2 (by omega))]
        rw [this] at gg
        exact gg
    · rw [show (if c + 1 ≤ mN S 0 then c + 1 else mN S 0) = mN S 0 from if_neg (by omega)] at gg
      rw [show (if c ≤ mN S 0 then c else mN S 0) = mN S 0 from by split <;> omega]
      have en : nA2 S j 160 c = 0 := by unfold nA2; rw [if_neg hcn]
      rw [en]
      obtain ⟨⟨g1, g2⟩, _⟩ := bF_inv (S := S) j (mN S 0)
      exact ⟨fun _ => ⟨fun _ => gg, fun z => absurd g2 z⟩, fun z => absurd g1 z⟩
theorem C_byLikeness (h : RepC u q ia ra S (setS S) σ) (hI : Inv S) {j : Nat} (hj : prs S j = true) (k : Int32 → MM → Prop) (hk : ∀ σ1, RepC u q ia ra S (setS S) σ1 → Fr1 (q 11) σ σ1 → k (kS S j) σ1) : wX3_byLikeness u (some (ia j)) σ k := by
  unfold wX3_byLikeness
  refine ⟨RepC_K h, C_fillNears h hI hj _ (fun σ1 g f hm => ⟨41, ?_⟩)⟩
  have := C_byLik_l g hI hm k (hk σ1 g f) 40 0 rfl
  rw [show (if 0 ≤ mN S 0 then 0 else mN S 0) = 0 from if_pos (by omega)] at this
  exact this
theorem C_liked (h : RepC u q ia ra S (setS S) σ) (hI : Inv S) (x : Int32) (k : Int32 → MM → Prop) (hk : ∀ σ1, RepC u q ia ra S (setS S) σ1 → FrC q σ σ1 → k (fLiked S x) σ1) : wX3_liked u x σ k := by
  unfold wX3_liked
  unfold fLiked at hk
  simp only [eC_itemAt h, RepC_K h, true_and, and_true, forall_eq, forall_eq', Option.some.injEq, exists_eq_left', false_implies, true_implies, forall_const, not_false_eq_true, not_true_eq_false, implies_true, b2iT, b2iF, i1n0, i0n1, Option.isSome_some, Option.isSome_none, Option.map_some, Option.map_none, reduceCtorEq, b2i_bz]
  cases hx : vT S x with
  | none => rw [hx] at hk; simp only [true_and, and_true, forall_eq, forall_eq', Option.some.injEq, exists_eq_left', false_implies, true_implies, forall_const, not_false_eq_true, not_true_eq_false, implies_true, b2iT, b2iF, i1n0, i0n1, Option.isSome_some, Option.isSome_none, Option.map_some, Option.map_none, reduceCtorEq, b2i_bz]; exact hk σ h (FrC_refl q σ)
  | some j =>
    rw [hx] at hk
    obtain ⟨hp, hj, rfl⟩ := vT_some hx
    simp only [true_and, and_true, forall_eq, forall_eq', Option.some.injEq, exists_eq_left', false_implies, true_implies, forall_const, not_false_eq_true, not_true_eq_false, implies_true, b2iT, b2iF, i1n0, i0n1, Option.isSome_some, Option.isSome_none, Option.map_some, Option.map_none, reduceCtorEq, b2i_bz]
    exact C_byLikeness h hI hp _ (fun σ1 g f => hk σ1 g (FrC_1 f))
theorem kB_is (hI : Inv S) {j : Nat} (h : ¬ kS S j = -2) : ∃ c, c < mN S 0 ∧ kS S j = nI c ∧ kB S j = (nF S c j 160).2 := by
  have hC := Inv_C hI
  unfold kS bE at h ⊢
  unfold kB
  rcases (bF_inv (S := S) j (mN S 0)).2 with ⟨z1, z2, _⟩ | ⟨c, z1, z2, z3, z4, z5⟩
  · rw [z1, if_pos (by decide)] at h
    exact absurd rfl h
  · refine ⟨c, z1, ?_, ?_⟩
    · split at h
      · exact absurd rfl h
      · split at h
        · exact absurd rfl h
        · split at h
          · exact absurd rfl h
          · rename_i a b d
            rw [if_neg a, if_neg b, if_neg d]; exact z2
    · rw [z5]
      unfold nearB
      unfold nearS at z4
      cases he : exS S c j with
      | true => rw [he] at z4; exact absurd (Int32.le_refl _) z4
      | false => rfl
theorem C_nearestWith_l (h : RepC u q ia ra S (setS S) σ) (hI : Inv S) {c j : Nat} (hc : c < mN S 0) (hj : prs S j = true) (k : Int32 → MM → Prop) (hk : k (nF S c j 160).2 σ) : ∀ d i, i + d = 160 → wX3_nearestWith_8 k u (d + 1) (nI c) (some (ia j)) (nF S c j i).2 (nF S c j i).1 (nI i) σ := by
  have hC := Inv_C hI
  intro d
  induction d with
  | zero =>
    intro i hi
    have : i = 160 := by omega
    subst this
    unfold wX3_nearestWith_8
    simp only [RepC_K h, RepC_r5 h, RepC_k5 h, RepC_n5 h, RepC_i5 h, le160, true_and, and_true, forall_eq, forall_eq', Option.some.injEq, exists_eq_left', false_implies, true_implies, forall_const, not_false_eq_true, not_true_eq_false, implies_true, b2iT, b2iF, i1n0, i0n1, Option.isSome_some, Option.isSome_none, Option.map_some, Option.map_none, reduceCtorEq, b2i_bz]
    exact hk
  | succ d ih =>
    intro i hi
    have gg := ih (i + 1) (by omega)
    have e1 : ¬ nI 160 ≤ nI i := nI_ge (by omega) (by decide)
    unfold wX3_nearestWith_8
    simp only [e1, RepC_K h, RepC_r5 h, RepC_k5 h, RepC_n5 h, RepC_i5 h, ix_nI (show i < 2 ^ 31 by omega), vp_in_nI (show i < 160 by omega) (by decide), nI_1, true_and, and_true, forall_eq, forall_eq', Option.some.injEq, exists_eq_left', false_implies, true_implies, forall_const, not_false_eq_true, not_true_eq_false, implies_true, b2iT, b2iF, i1n0, i0n1, Option.isSome_some, Option.isSome_none, Option.map_some, Option.map_none, reduceCtorEq, b2i_bz]
    have skip : nP S c j i = false → wX3_nearestWith_8 k u (d + 1) (nI c) (some (ia j)) (nF S c j i).2 (nF S c j i).1 (nI (i + 1)) σ := fun hf => by rw [nF_f hf] at gg; exact gg
    by_cases hp : prs S i = true
    · simp only [hp, if_true, RepC_tK h i hp, RepC_t5 h i hp, RepC_tK h j hj, true_and, and_true, forall_eq, forall_eq', Option.some.injEq, exists_eq_left', false_implies, true_implies, forall_const, not_false_eq_true, not_true_eq_false, implies_true, b2iT, b2iF, i1n0, i0n1, Option.isSome_some, Option.isSome_none, Option.map_some, Option.map_none, reduceCtorEq, b2i_bz]
      refine ⟨fun e => skip ?_, fun e => ⟨fun ec => skip (by unfold nP; simp [ec]), fun ec => ?_⟩⟩
      · have : i = j := RepC_iin h i j hp hj e
        unfold nP; simp [this]
      · have hij : ¬ i = j := fun z => e (by rw [z])
        have es : mI S 6 i = 1 := by
          rcases Inv_it hI i hp with z | z
          · exact z.1
          · rw [z.2.1] at ec; exact absurd ec.symm (nI_nm1 (by omega))
        have hn : nP S c j i = true := by unfold nP; simp [hp, hij, es, ec]
        refine C_likenessTo h hj hp _ ?_
        rw [lk_comm]
        refine ⟨fun el => ?_, fun el => ?_⟩
        · rw [nF_s el] at gg; exact gg
        · rw [nF_t hn el] at gg; simp only at gg; exact gg
    · have hp2 : prs S i = false := by simpa using hp
      simp only [hp2, Bool.false_eq_true, if_false, true_and, and_true, forall_eq, forall_eq', Option.some.injEq, exists_eq_left', false_implies, true_implies, forall_const, not_false_eq_true, not_true_eq_false, implies_true, b2iT, b2iF, i1n0, i0n1, Option.isSome_some, Option.isSome_none, Option.map_some, Option.map_none, reduceCtorEq, b2i_bz]
      exact skip (by unfold nP; rw [hp2]; rfl)
theorem C_nearestWith (h : RepC u q ia ra S (setS S) σ) (hI : Inv S) {c j : Nat} (hc : c < mN S 0) (hj : prs S j = true) (k : Int32 → MM → Prop) (hk : k (nF S c j 160).2 σ) : wX3_nearestWith u (nI c) (some (ia j)) σ k := ⟨161, C_nearestWith_l h hI hc hj k hk 160 0 rfl⟩
end PC
