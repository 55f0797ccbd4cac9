section PC
variable {u : Nat} {q ia ra : Nat → Nat} {S σ : MM} {sf : Nat → Int64}
theorem FrC_o {b : Nat} {σ1 : MM} (h : mK σ b < 5) (f : ∀ a, a ≠ b → agr σ σ1 a) : FrC q σ σ1 := fun a h5 _ => f a (fun e => by rw [e] at h5; omega)
def cPl (ia : Nat → Nat) (S σ : MM) (j : Nat) : Prop := prs S j = true → ¬ mI S 6 j = 1 → mI σ (ia j) 9 = cP S j (pg S j) ∧ mI σ (ia j) 10 = cP S j (pw S j) ∧ mI σ (ia j) 11 = cP S j (pb S j)
theorem C_three (h : RepC u q ia ra S sf σ) {j : Nat} (hp : prs S j = true) (x y z : Int32) (k : MM → Prop) (hk : ∀ σ1, RepC u q ia ra S sf σ1 → (∀ a, a ≠ ia j → agr σ σ1 a) → mI σ1 (ia j) 9 = x → mI σ1 (ia j) 10 = y → mI σ1 (ia j) 11 = z → k σ1) : wX0_plan (ia j) x y z σ k := by
  unfold wX0_plan
  simp only [RepC_tK h j hp, true_and, and_true, forall_eq, forall_eq', Option.some.injEq, exists_eq_left', false_implies, true_implies, forall_const, not_false_eq_true, not_true_eq_false, implies_true, b2iT, b2iF, i1n0, i0n1, Option.isSome_some, Option.isSome_none, Option.map_some, Option.map_none, reduceCtorEq, b2i_bz]
  refine hk _ (RepC_t11w (j := j) (RepC_t10w (j := j) (RepC_t9w (j := j) h hp x) hp y) hp z) (fun a e => agr_tr (agr_tr (agr_sI e) (agr_sI e)) (agr_sI e)) ?_ ?_ ?_
  · simp [mI_sI]
  · simp [mI_sI]
  · simp [mI_sI]
theorem C_plan (h : RepC u q ia ra S (setS S) σ) (hI : Inv S) {j : Nat} (hp : prs S j = true) (k : MM → Prop) (hk : ∀ σ1, RepC u q ia ra S (setS S) σ1 → (∀ a, a ≠ q 11 → a ≠ ia j → agr σ σ1 a) → cPl ia S σ1 j → k σ1) : wX3_plan u (some (ia j)) σ k := by
  have hC := Inv_C hI
  have neg : ∀ {σ2 : MM}, RepC u q ia ra S (setS S) σ2 → (∀ a, a ≠ q 11 → a ≠ ia j → agr σ σ2 a) → pg S j < 0 → wX0_plan (ia j) (-1) (-1) (-1) σ2 k := fun {σ2} g f hg => C_three g hp _ _ _ k (fun σ3 g3 f3 a1 a2 a3 => hk σ3 g3 (fun a z1 z2 => agr_tr (f a z1 z2) (f3 a z2)) (fun _ _ => by
    rw [a1, a2, a3]; unfold cP; rw [if_pos hg, if_pos hg, if_pos hg]; exact ⟨rfl, rfl, rfl⟩))
  have pos : ∀ {σ2 : MM} {x y z : Int32}, RepC u q ia ra S (setS S) σ2 → (∀ a, a ≠ q 11 → a ≠ ia j → agr σ σ2 a) → ¬ pg S j < 0 → x = pg S j → y = pw S j → z = pb S j → wX0_plan (ia j) x y z σ2 k := fun {σ2 x y z} g f hg e1 e2 e3 => C_three g hp _ _ _ k (fun σ3 g3 f3 a1 a2 a3 => hk σ3 g3 (fun a z1 z2 => agr_tr (f a z1 z2) (f3 a z2)) (fun _ _ => by
    rw [a1, a2, a3]; unfold cP; rw [if_neg hg, if_neg hg, if_neg hg]; exact ⟨e1, e2, e3⟩))
  unfold wX3_plan
  refine ⟨RepC_K h, C_byRules h hI hp _ _ ⟨fun e5 => ⟨fun e2 => ⟨RepC_K h, C_leaderFor h hI hp _ _ ⟨ia j, rfl, RepC_tK h j hp, ?_⟩⟩, fun e2 => ⟨RepC_K h, ?_⟩⟩, fun e5 => ⟨ia j, rfl, RepC_tK h j hp, ?_⟩⟩⟩
  · have e : pg S j = rS S j (-1) := by unfold pg; rw [if_neg e2]
    refine pos h (fun a _ _ => agr_refl σ a) ?_ e.symm (by unfold pw; rw [if_neg e2]) (by unfold pb; rw [if_neg e2])
    rcases pg_is hI j with z | z | ⟨c, hc, z⟩
    · exact absurd (e.symm.trans z) e2
    · exact absurd (e.symm.trans z) e5
    · rw [z]; exact nI_nneg (by omega)
  · have e : pg S j = kS S j := by unfold pg; rw [if_pos e2]
    unfold wX3_planByLikeness
    refine ⟨RepC_K h, C_byLikeness h hI hp _ (fun σ1 g f => ⟨fun ek => ⟨RepC_K g, ?_⟩, fun ek => ⟨ia j, rfl, RepC_tK g j hp, ?_⟩⟩)⟩
    · obtain ⟨c, hc, ec, eb⟩ := kB_is hI ek
      rw [ec]
      refine C_nearestWith g hI hc hp _ ⟨ia j, rfl, RepC_tK g j hp, ?_⟩
      refine pos g (fun a z1 _ => f a z1) ?_ (by rw [e, ec]) (by unfold pw; rw [if_pos e2]) (by unfold pb; rw [if_pos e2, eb])
      rw [e, ec]; exact nI_nneg (by omega)
    · exact neg g (fun a z1 _ => f a z1) (by rw [e, ek]; decide)
  · exact neg h (fun a _ _ => agr_refl σ a) (by unfold pg; rw [e5, if_neg (by decide)]; decide)
theorem C_take (h : RepC u q ia ra S sf σ) {j : Nat} (hp : prs S j = true) (hs : mI S 10 j = -1) (x y z : Int32) (k : MM → Prop) (hk : ∀ σ1, RepC u q ia ra (stI S j 1 x y z (-1)) sf σ1 → (∀ a, a ≠ ia j → agr σ σ1 a) → k σ1) : wX0_take (ia j) x y z σ k := by
  unfold wX0_take
  simp only [RepC_tK h j hp, true_and, and_true, forall_eq, forall_eq', Option.some.injEq, exists_eq_left', false_implies, true_implies, forall_const, not_false_eq_true, not_true_eq_false, implies_true, b2iT, b2iF, i1n0, i0n1, Option.isSome_some, Option.isSome_none, Option.map_some, Option.map_none, reduceCtorEq, b2i_bz]
  have e : stI S j 1 x y z (-1) = sI (sI (sI (sI S 6 j 1) 7 j x) 8 j y) 9 j z := by
    unfold stI; exact sI_same hs
  rw [e] at hk
  exact hk _ (RepC_t7w (j := j) (RepC_t6w (j := j) (RepC_t5w (j := j) (RepC_t4w (j := j) h hp 1) hp x) hp y) hp z) (fun a e => agr_tr (agr_tr (agr_tr (agr_sI e) (agr_sI e)) (agr_sI e)) (agr_sI e))
theorem C_day_2 (hI : Inv S) (k : Int32 → MM → Prop) (σ0 : MM) (hk : ∀ σ1, RepC u q ia ra (dF S 160).1 (setS S) σ1 → FrC q σ0 σ1 → k (nI (dF S 160).2) σ1) : ∀ d i (σ : MM), i + d = 160 → RepC u q ia ra (dF S i).1 (setS S) σ → FrC q σ0 σ → (∀ j, i ≤ j → j < 160 → cPl ia S σ j) → wX3_day_43 k u (d + 1) (nI (dF S i).2) (nI i) σ := by
  have hC := Inv_C hI
  intro d
  induction d with
  | zero =>
    intro i σ hi h hf hm
    have : i = 160 := by omega
    subst this
    unfold wX3_day_43
    simp only [RepC_K h, RepC_r5 h, RepC_k5 h, RepC_n5 h, RepC_i5 h, le160, true_and, and_true, forall_eq, forall_eq', Option.some.injEq, exists_eq_left', false_implies, true_implies, forall_const, not_false_eq_true, not_true_eq_false, implies_true, b2iT, b2iF, i1n0, i0n1, Option.isSome_some, Option.isSome_none, Option.map_some, Option.map_none, reduceCtorEq, b2i_bz]
    exact hk σ h hf
  | succ d ih =>
    intro i σ hi h hf hm
    have hi2 : i < 160 := by omega
    obtain ⟨hT, e2, e3, e4, e5⟩ := dF_inv hI i
    have e1 : ¬ nI 160 ≤ nI i := nI_ge (by omega) (by decide)
    unfold wX3_day_43
    simp only [e1, RepC_K h, RepC_r5 h, RepC_k5 h, RepC_n5 h, RepC_i5 h, ix_nI (show i < 2 ^ 31 by omega), vp_in_nI (show i < 160 by omega) (by decide), nI_1, true_and, and_true, forall_eq, forall_eq', Option.some.injEq, exists_eq_left', false_implies, true_implies, forall_const, not_false_eq_true, not_true_eq_false, implies_true, b2iT, b2iF, i1n0, i0n1, Option.isSome_some, Option.isSome_none, Option.map_some, Option.map_none, reduceCtorEq, b2i_bz]
    have skip : (prs S i && !decide (mI (dF S i).1 6 i = 1)) = false → wX3_day_43 k u (d + 1) (nI (dF S i).2) (nI (i + 1)) σ := fun hf2 => by
      have gg := ih (i + 1) σ (by omega)
      rw [dF_f hf2] at gg
      exact gg h hf (fun j hj => hm j (by omega))
    unfold wX3_isOpen
    by_cases hp : prs S i = true
    · have hpT : prs (dF S i).1 i = true := by rw [e3]; exact hp
      simp only [hpT, if_true, RepC_tK h i hpT, RepC_t4 h i hpT, true_and, and_true, forall_eq, forall_eq', Option.some.injEq, exists_eq_left', false_implies, true_implies, forall_const, not_false_eq_true, not_true_eq_false, implies_true, b2iT, b2iF, i1n0, i0n1, Option.isSome_some, Option.isSome_none, Option.map_some, Option.map_none, reduceCtorEq, b2i_bz]
      refine ⟨fun hs => skip (by rw [hs]; simp), fun hs => ?_⟩
      have ht : (prs S i && !decide (mI (dF S i).1 6 i = 1)) = true := by simp [hp, hs]
      have hs0 : ¬ mI S 6 i = 1 := by rw [← e5 i (Nat.le_refl _)]; exact hs
      obtain ⟨m1, m2, m3⟩ := hm i (Nat.le_refl _) (by omega) hp hs0
      simp only [RepC_K h, RepC_r5 h, RepC_k5 h, RepC_n5 h, RepC_i5 h, hpT, if_true, RepC_tK h i hpT, vp_in_nI (show i < 160 by omega) (by decide), true_and, and_true, forall_eq, forall_eq', Option.some.injEq, exists_eq_left', false_implies, true_implies, forall_const, not_false_eq_true, not_true_eq_false, implies_true, b2iT, b2iF, i1n0, i0n1, Option.isSome_some, Option.isSome_none, Option.map_some, Option.map_none, reduceCtorEq, b2i_bz]
      have keep : ∀ σ2 : MM, (∀ a, a ≠ ia i → agr σ σ2 a) → ∀ j, i + 1 ≤ j → j < 160 → cPl ia S σ2 j := fun σ2 f2 j hj hj2 hp2 hs2 => by
        have : ia j ≠ ia i := fun z => by
          have := RepC_iin h j i (by rw [e3]; exact hp2) hpT z
          omega
        rw [(f2 _ this).2.2.1]
        exact hm j (by omega) hj2 hp2 hs2
      have k5 : mK σ (ia i) < 5 := by rw [RepC_tK h i hpT]; decide
      unfold wX0_followPlan
      rw [m1, m2, m3]
      simp only [RepC_tK h i hpT, true_and, and_true, forall_eq, forall_eq', Option.some.injEq, exists_eq_left', false_implies, true_implies, forall_const, not_false_eq_true, not_true_eq_false, implies_true, b2iT, b2iF, i1n0, i0n1, Option.isSome_some, Option.isSome_none, Option.map_some, Option.map_none, reduceCtorEq, b2i_bz]
      refine ⟨fun hg => ?_, fun hg => ?_⟩
      · have hn : ¬ pg S i < 0 := fun z => hg (by unfold cP; rw [if_pos z])
        have hc : ∀ x, cP S i x = x := fun x => by unfold cP; rw [if_neg hn]
        rw [hc, hc, hc]
        have h10 : mI (dF S i).1 10 i = -1 := by
          rcases Inv_it hT i hpT with z | z
          · exact absurd z.1 hs
          · exact z.2.2.2.2
        refine C_take h hpT h10 _ _ _ _ (fun σ2 g2 f2 => ?_)
        have gg := ih (i + 1) σ2 (by omega)
        rw [dF_t ht hn] at gg
        simp only at gg
        exact gg g2 (FrC_tr hf (FrC_o k5 f2)) (keep σ2 f2)
      · have hn : pg S i < 0 := by
          by_cases z : pg S i < 0
          · exact z
          · unfold cP at hg; rw [if_neg z] at hg
            rcases pg_is hI i with y | y | ⟨c, hc, y⟩
            · rw [y] at hg; exact absurd hg (by decide)
            · rw [y] at hg; exact absurd hg (by decide)
            · rw [y] at hg; exact absurd hg (nI_nm1 (by omega))
        have gg := ih (i + 1) (sI σ (ia i) 4 2) (by omega)
        rw [dF_d ht hn] at gg
        simp only at gg
        exact gg (RepC_t4w (j := i) h hpT 2) (FrC_tr hf (FrC_o k5 (fun a e => agr_sI e))) (keep _ (fun a e => agr_sI e))
    · have hp2 : prs S i = false := by simpa using hp
      have hpT : prs (dF S i).1 i = false := by rw [e3]; exact hp2
      simp only [hpT, Bool.false_eq_true, if_false, true_and, and_true, forall_eq, forall_eq', Option.some.injEq, exists_eq_left', false_implies, true_implies, forall_const, not_false_eq_true, not_true_eq_false, implies_true, b2iT, b2iF, i1n0, i0n1, Option.isSome_some, Option.isSome_none, Option.map_some, Option.map_none, reduceCtorEq, b2i_bz]
      exact skip (by rw [hp2]; rfl)
theorem C_day_1 (hI : Inv S) (k : Int32 → MM → Prop) (σ0 : MM) (hk : ∀ σ1, RepC u q ia ra (dF S 160).1 (setS S) σ1 → FrC q σ0 σ1 → k (nI (dF S 160).2) σ1) : ∀ d i (σ : MM), i + d = 160 → RepC u q ia ra S (setS S) σ → FrC q σ0 σ → (∀ j, j < i → cPl ia S σ j) → wX3_day_2 k u (d + 1) (nI i) σ := by
  intro d
  induction d with
  | zero =>
    intro i σ hi h hf hm
    have : i = 160 := by omega
    subst this
    unfold wX3_day_2
    simp only [RepC_K h, RepC_r5 h, RepC_k5 h, RepC_n5 h, RepC_i5 h, le160, true_and, and_true, forall_eq, forall_eq', Option.some.injEq, exists_eq_left', false_implies, true_implies, forall_const, not_false_eq_true, not_true_eq_false, implies_true, b2iT, b2iF, i1n0, i0n1, Option.isSome_some, Option.isSome_none, Option.map_some, Option.map_none, reduceCtorEq, b2i_bz]
    refine ⟨160 + 1, ?_⟩
    exact C_day_2 hI k σ0 hk 160 0 σ (by omega) h hf (fun j _ hj => hm j hj)
  | succ d ih =>
    intro i σ hi h hf hm
    have hi2 : i < 160 := by omega
    have e1 : ¬ nI 160 ≤ nI i := nI_ge (by omega) (by decide)
    unfold wX3_day_2
    simp only [e1, RepC_K h, RepC_r5 h, RepC_k5 h, RepC_n5 h, RepC_i5 h, ix_nI (show i < 2 ^ 31 by omega), vp_in_nI (show i < 160 by omega) (by decide), nI_1, true_and, and_true, forall_eq, forall_eq', Option.some.injEq, exists_eq_left', false_implies, true_implies, forall_const, not_false_eq_true, not_true_eq_false, implies_true, b2iT, b2iF, i1n0, i0n1, Option.isSome_some, Option.isSome_none, Option.map_some, Option.map_none, reduceCtorEq, b2i_bz]
    unfold wX3_isOpen
    by_cases hp : prs S i = true
    · simp only [hp, if_true, RepC_tK h i hp, RepC_t4 h i hp, true_and, and_true, forall_eq, forall_eq', Option.some.injEq, exists_eq_left', false_implies, true_implies, forall_const, not_false_eq_true, not_true_eq_false, implies_true, b2iT, b2iF, i1n0, i0n1, Option.isSome_some, Option.isSome_none, Option.map_some, Option.map_none, reduceCtorEq, b2i_bz]
      refine ⟨fun hs => ih (i + 1) σ (by omega) h hf (fun j hj => ?_), fun hs => ?_⟩
      · by_cases ej : j = i
        · rw [ej]; exact fun _ z => absurd hs z
        · exact hm j (by omega)
      simp only [RepC_K h, RepC_r5 h, RepC_k5 h, RepC_n5 h, RepC_i5 h, hp, if_true, vp_in_nI (show i < 160 by omega) (by decide), true_and, and_true, forall_eq, forall_eq', Option.some.injEq, exists_eq_left', false_implies, true_implies, forall_const, not_false_eq_true, not_true_eq_false, implies_true, b2iT, b2iF, i1n0, i0n1, Option.isSome_some, Option.isSome_none, Option.map_some, Option.map_none, reduceCtorEq, b2i_bz]
      refine C_plan h hI hp _ (fun σ2 g2 f2 m2 => ?_)
      refine ih (i + 1) σ2 (by omega) g2 (FrC_tr hf (fun a h5 hq => f2 a (hq 11 (by decide)) (fun e => by rw [e, RepC_tK h i hp] at h5; omega))) (fun j hj => ?_)
      by_cases ej : j = i
      · rw [ej]; exact m2
      · intro hpj hsj
        have ne : ia j ≠ ia i := fun z => ej (RepC_iin h j i hpj hp z)
        have ne2 : ia j ≠ q 11 := ne_k (RepC_tK h j hpj) (RepC_k11 h) (by decide)
        rw [(f2 _ ne2 ne).2.2.1]
        exact hm j (by omega) hpj hsj
    · have hp2 : prs S i = false := by simpa using hp
      simp only [hp2, Bool.false_eq_true, if_false, true_and, and_true, forall_eq, forall_eq', Option.some.injEq, exists_eq_left', false_implies, true_implies, forall_const, not_false_eq_true, not_true_eq_false, implies_true, b2iT, b2iF, i1n0, i0n1, Option.isSome_some, Option.isSome_none, Option.map_some, Option.map_none, reduceCtorEq, b2i_bz]
      refine ih (i + 1) σ (by omega) h hf (fun j hj => ?_)
      by_cases ej : j = i
      · rw [ej]; exact fun z => absurd z hp
      · exact hm j (by omega)
theorem C_day (h : RepC u q ia ra S (setS S) σ) (hI : Inv S) (k : Int32 → MM → Prop) (hk : ∀ σ1, RepC u q ia ra (fDay S).2 (setS (fDay S).2) σ1 → FrC q σ σ1 → k (fDay S).1 σ1) : wX3_day u σ k := by
  unfold fDay at hk
  simp only [(dF_inv hI 160).2.2.2.1] at hk
  refine ⟨160 + 1, ?_⟩
  exact C_day_1 hI k σ hk 160 0 σ (by omega) h (FrC_refl q σ) (fun _ hj => absurd hj (by omega))
end PC
