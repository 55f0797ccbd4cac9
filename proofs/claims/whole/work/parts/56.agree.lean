def seP (S : MM) (i : Nat) : Bool := prs S i && !decide (mI S 10 i = -1)
def agP (S : MM) (i : Nat) : Bool := seP S i && decide (mI S 10 i = mI S 7 i)
def woP (S : MM) (i : Nat) : Bool := prs S i && (decide (mI S 6 i = 1) && decide (mI S 10 i = -1))
def scP (S : MM) (v : Int32) (i : Nat) : Bool := prs S i && decide (mI S 10 i = v)
def hvP (S : MM) (c i : Nat) : Bool := seP S i && decide (mI S 7 i = nI c)
def s2P (S : MM) (c i : Nat) : Bool := seP S i && decide (mI S 10 i = nI c)
def eT (S : MM) (i : Nat) : Nat := if seP S i then cnt (scP S (mI S 7 i)) 160 else 0
def fAgree (S : MM) (x : Int32) : Int64 :=
  if x = 0 then lN (cnt (seP S) 160) else if x = 1 then lN (cnt (agP S) 160)
  else if x = 2 then lN (cnt (seP S) 160) * lN (cnt (agP S) 160) - lN (sm (eT S) 160)
  else if x = 3 then lN (cnt (seP S) 160) * lN (cnt (seP S) 160) - lN (sm (eT S) 160)
  else if x = 4 then (if nI (mN S 0) ≤ 1 then lN (cnt (agP S) 160 + cnt (woP S) 160) else lN (cnt (agP S) 160))
  else if x = 5 then lN (cnt (agP S) 160 + cnt (woP S) 160) else -1000000000
theorem seP_out {S : MM} {i : Nat} (h : 2 * mN S 2 ≤ i) : seP S i = false := by unfold seP; rw [prs_out h]; rfl
theorem agP_out {S : MM} {i : Nat} (h : 2 * mN S 2 ≤ i) : agP S i = false := by unfold agP; rw [seP_out h]; rfl
theorem woP_out {S : MM} {i : Nat} (h : 2 * mN S 2 ≤ i) : woP S i = false := by unfold woP; rw [prs_out h]; rfl
theorem scP_out {S : MM} {v : Int32} {i : Nat} (h : 2 * mN S 2 ≤ i) : scP S v i = false := by unfold scP; rw [prs_out h]; rfl
theorem eT_160 {S : MM} (hI : Inv S) : sm (eT S) 160 = sm (eT S) (2 * mN S 2) := by
  have hA := Inv_A hI
  have := sm_out (f := eT S) (m := 2 * mN S 2) (fun i hi => by unfold eT; rw [seP_out hi]; rfl) (160 - 2 * mN S 2)
  rw [show 2 * mN S 2 + (160 - 2 * mN S 2) = 160 by omega] at this
  exact this
theorem se_st {S : MM} (hI : Inv S) {i : Nat} (h : seP S i = true) : prs S i = true ∧ ¬ mI S 10 i = -1 ∧ mI S 6 i = 1 ∧ (∃ c, c < mN S 0 ∧ mI S 7 i = nI c) ∧ ∃ c, c < mN S 0 ∧ mI S 10 i = nI c := by
  have h2 : prs S i = true ∧ ¬ mI S 10 i = -1 := by simpa [seP] using h
  rcases Inv_it hI i h2.1 with ⟨z1, z2, _, z3⟩ | z
  · rcases z3 with z3 | z3
    · exact absurd z3 h2.2
    · exact ⟨h2.1, h2.2, z1, z2, z3⟩
  · exact absurd z.2.2.2.2 h2.2
theorem cnt_cs1 {S : MM} (hI : Inv S) : ∀ n, cnt (csP S 1) n = cnt (seP S) n + cnt (woP S) n
  | 0 => rfl
  | n + 1 => by
    have ih := cnt_cs1 hI n
    cases hs : seP S n with
    | true =>
      obtain ⟨g1, g2, g3, _, _⟩ := se_st hI hs
      rw [cnt_t hs, cnt_t (by unfold csP; rw [g1, g3]; rfl), cnt_f (by unfold woP; simp [g2])]
      omega
    | false =>
      rw [cnt_f hs]
      cases hc : csP S 1 n with
      | true =>
        have hc2 : prs S n = true ∧ mI S 6 n = 1 := by simpa [csP] using hc
        have h10 : mI S 10 n = -1 := by
          by_cases z : mI S 10 n = -1
          · exact z
          · unfold seP at hs; rw [hc2.1] at hs; simp [z] at hs
        rw [cnt_t hc, cnt_t (by unfold woP; rw [hc2.1, hc2.2, h10]; rfl)]
        omega
      | false =>
        rw [cnt_f hc, cnt_f (by
          have hc2 : ¬ (prs S n = true ∧ mI S 6 n = 1) := by simpa [csP] using hc
          unfold woP
          cases hp : prs S n with
          | false => rfl
          | true =>
            have : ¬ mI S 6 n = 1 := fun z => hc2 ⟨hp, z⟩
            simp [this])]
        exact ih
theorem sm_bump (h s : Nat → Nat) {c0 : Nat} : ∀ N, sm (fun c => (h c + if c = c0 then 1 else 0) * s c) N = sm (fun c => h c * s c) N + if c0 < N then s c0 else 0
  | 0 => rfl
  | N + 1 => by
    show sm _ N + (h N + if N = c0 then 1 else 0) * s N = sm _ N + h N * s N + _
    rw [sm_bump h s N]
    by_cases e : N = c0
    · subst e
      rw [if_pos rfl, if_neg (Nat.lt_irrefl _), if_pos (Nat.lt_succ_self _), Nat.add_mul, Nat.one_mul]
      omega
    · rw [if_neg e, Nat.add_zero]
      by_cases e2 : c0 < N
      · rw [if_pos e2, if_pos (by omega)]; omega
      · rw [if_neg e2, if_neg (by omega)]; omega
theorem s2_sc {S : MM} {c : Nat} (hc : c < 2 ^ 31) : cnt (s2P S c) 160 = cnt (scP S (nI c)) 160 := by
  refine cnt_cong (fun i _ => ?_)
  unfold s2P scP seP
  by_cases e : mI S 10 i = nI c
  · have : ¬ mI S 10 i = -1 := by rw [e]; exact nI_nm1 hc
    simp [e, nI_nm1 hc]
  · simp [e]
theorem chance_is {S : MM} (hI : Inv S) : ∀ n, sm (fun c => cnt (hvP S c) n * cnt (s2P S c) 160) (mN S 0) = sm (eT S) n
  | 0 => by
    show _ = 0
    have : ∀ N, sm (fun c => cnt (hvP S c) 0 * cnt (s2P S c) 160) N = 0 := fun N => by
      induction N with
      | zero => rfl
      | succ N ih =>
        show sm (fun c => cnt (hvP S c) 0 * cnt (s2P S c) 160) N + cnt (hvP S N) 0 * cnt (s2P S N) 160 = 0
        rw [ih]; show 0 + 0 * _ = 0; rw [Nat.zero_mul]
    exact this _
  | n + 1 => by
    have hC := Inv_C hI
    have ih := chance_is hI n
    show _ = sm (eT S) n + eT S n
    cases hs : seP S n with
    | true =>
      obtain ⟨_, _, _, ⟨c0, hc0, ec⟩, _⟩ := se_st hI hs
      have e1 : ∀ c, c < mN S 0 → (fun c => cnt (hvP S c) (n + 1) * cnt (s2P S c) 160) c = (fun c => (cnt (hvP S c) n + if c = c0 then 1 else 0) * cnt (s2P S c) 160) c := fun c hc => by
        show cnt (hvP S c) (n + 1) * cnt (s2P S c) 160 = (cnt (hvP S c) n + if c = c0 then 1 else 0) * cnt (s2P S c) 160
        by_cases e : c = c0
        · rw [if_pos e, cnt_t (by unfold hvP; rw [hs, ec, e]; simp)]
        · have : ¬ nI c0 = nI c := fun z => e ((nI_eq (by omega) (by omega)).mp z).symm
          rw [if_neg e, cnt_f (by unfold hvP; rw [hs, ec]; simp [this])]; rfl
      rw [sm_cong _ e1, sm_bump, ih, if_pos hc0, s2_sc (by omega)]
      unfold eT
      rw [hs, ec]; rfl
    | false =>
      have e1 : ∀ c, c < mN S 0 → (fun c => cnt (hvP S c) (n + 1) * cnt (s2P S c) 160) c = (fun c => cnt (hvP S c) n * cnt (s2P S c) 160) c := fun c hc => by
        show cnt (hvP S c) (n + 1) * cnt (s2P S c) 160 = cnt (hvP S c) n * cnt (s2P S c) 160
        rw [cnt_f (by unfold hvP; rw [hs]; rfl)]
      rw [sm_cong _ e1, ih]
      unfold eT
      rw [hs]; rfl
theorem lN_p0 (a : Nat) : lN a + 0 = lN a := lN_add a 0
section PM
variable {t : Nat} {q : Nat → Nat} {S σ : MM}
theorem M_agr101 (h : RepM t q S σ) (hI : Inv S) (k : Int64 → MM → Prop) (g : Int32 → Int64 → Int64 → Int64 → Int64 → Int32 → MM → Prop) (x : Int32) (y2 y4 y8 : Int64) {j e : Nat} (hj : j < 160) (hg : g x y2 y4 (lN (e + cnt (scP S (mI S 7 j)) (2 * mN S 2))) y8 (nI (j + 1)) σ) : ∀ d i, i + d = 2 * mN S 2 → wX4_agree_101 k t g (d + 1) x y2 y4 (lN (e + cnt (scP S (mI S 7 j)) i)) y8 (nI j) (nI i) σ := by
  have hA := Inv_A hI
  intro d
  induction d with
  | zero =>
    intro i hi
    have : i = 2 * mN S 2 := by omega
    subst this
    unfold wX4_agree_101
    simp only [RepM_K h, RepM_nA h, two_nA hI, show nI (2 * mN S 2) ≤ nI (2 * mN S 2) from nI_le (Nat.le_refl _) (by omega), nI_1, true_and, and_true, forall_eq, forall_eq', Option.some.injEq, exists_eq_left', false_implies, true_implies, forall_const, not_false_eq_true, not_true_eq_false, implies_true, b2iT, b2iF, i1n0, i0n1, Option.isSome_some, Option.isSome_none, Option.map_some, Option.map_none, reduceCtorEq, b2i_bz]
    exact hg
  | succ d ih =>
    intro i hi
    have hi2 : i < 160 := by omega
    have e1 : ¬ nI (2 * mN S 2) ≤ nI i := nI_ge (by omega) (by omega)
    have gg := ih (i + 1) (by omega)
    unfold wX4_agree_101
    simp only [RepM_K h, RepM_nA h, two_nA hI, e1, eM_isItem h hI, vT_is hi2, nI_1, lN_1, lN_p0, true_and, and_true, forall_eq, forall_eq', Option.some.injEq, exists_eq_left', false_implies, true_implies, forall_const, not_false_eq_true, not_true_eq_false, implies_true, b2iT, b2iF, i1n0, i0n1, Option.isSome_some, Option.isSome_none, Option.map_some, Option.map_none, reduceCtorEq, b2i_bz]
    cases hp : prs S i with
    | true =>
      simp only [RepM_r17 h, RepM_k17 h, RepM_n17 h, RepM_i17 h, RepM_r14 h, RepM_k14 h, RepM_n14 h, RepM_i14 h, ix_nI (show i < 2 ^ 31 by omega), ix_nI (show j < 2 ^ 31 by omega), vp_in_nI hi2 (by decide), vp_in_nI hj (by decide), true_and, and_true, forall_eq, forall_eq', Option.some.injEq, exists_eq_left', false_implies, true_implies, forall_const, not_false_eq_true, not_true_eq_false, implies_true, b2iT, b2iF, i1n0, i0n1, Option.isSome_some, Option.isSome_none, Option.map_some, Option.map_none, reduceCtorEq, b2i_bz]
      refine ⟨fun z => ?_, fun z => ?_⟩
      · rw [cnt_f (by unfold scP; simp [z])] at gg; exact gg
      · rw [cnt_t (by unfold scP; rw [hp, z]; simp)] at gg; exact gg
    | false =>
      simp only [true_and, and_true, forall_eq, forall_eq', Option.some.injEq, exists_eq_left', false_implies, true_implies, forall_const, not_false_eq_true, not_true_eq_false, implies_true, b2iT, b2iF, i1n0, i0n1, Option.isSome_some, Option.isSome_none, Option.map_some, Option.map_none, reduceCtorEq, b2i_bz]
      rw [cnt_f (by unfold scP; rw [hp]; rfl)] at gg; exact gg
theorem M_agree_l (h : RepM t q S σ) (hI : Inv S) (x : Int32) (k : Int64 → MM → Prop) (hk : k (fAgree S x) σ) : ∀ d i, i + d = 2 * mN S 2 → wX4_agree_14 k t (d + 1) x (lN (cnt (seP S) i)) (lN (cnt (agP S) i)) (lN (sm (eT S) i)) (lN (cnt (woP S) i)) (nI i) σ := by
  have hA := Inv_A hI
  have hC := Inv_C hI
  intro d
  induction d with
  | zero =>
    intro i hi
    have : i = 2 * mN S 2 := by omega
    subst this
    unfold fAgree at hk
    rw [cnt_160 hI (fun i hi => seP_out hi), cnt_160 hI (fun i hi => agP_out hi), cnt_160 hI (fun i hi => woP_out hi), eT_160 hI] at hk
    unfold wX4_agree_14
    simp only [RepM_K h, RepM_nA h, RepM_nC h, two_nA hI, show nI (2 * mN S 2) ≤ nI (2 * mN S 2) from nI_le (Nat.le_refl _) (by omega), lN_add, true_and, and_true, forall_eq, forall_eq', Option.some.injEq, exists_eq_left', false_implies, true_implies, forall_const, not_false_eq_true, not_true_eq_false, implies_true, b2iT, b2iF, i1n0, i0n1, Option.isSome_some, Option.isSome_none, Option.map_some, Option.map_none, reduceCtorEq, b2i_bz]
    refine ⟨fun e => ?_, fun e => ?_, fun e => ?_, fun e => ?_, fun e => ?_, fun e => ?_, fun e => ?_⟩
    · obtain ⟨a0, a1, a2, a3, a4, a5⟩ := out5 e
      rw [if_neg a0, if_neg a1, if_neg a2, if_neg a3, if_neg a4, if_neg a5] at hk
      exact hk
    · subst e; exact hk
    · subst e; exact hk
    · subst e; exact hk
    · subst e; exact hk
    · subst e
      have hk2 : k (if nI (mN S 0) ≤ 1 then lN (cnt (agP S) (2 * mN S 2) + cnt (woP S) (2 * mN S 2)) else lN (cnt (agP S) (2 * mN S 2))) σ := hk
      exact ⟨fun e => by rw [if_pos e] at hk2; exact hk2, fun e => by rw [if_neg e] at hk2; exact hk2⟩
    · subst e; exact hk
  | succ d ih =>
    intro i hi
    have hi2 : i < 160 := by omega
    have e1 : ¬ nI (2 * mN S 2) ≤ nI i := nI_ge (by omega) (by omega)
    have gg := ih (i + 1) (by omega)
    have es : sm (eT S) (i + 1) = sm (eT S) i + eT S i := rfl
    unfold wX4_agree_14
    simp only [RepM_K h, RepM_nA h, two_nA hI, e1, eM_isItem h hI, vT_is hi2, nI_1, lN_1, lN_p0, true_and, and_true, forall_eq, forall_eq', Option.some.injEq, exists_eq_left', false_implies, true_implies, forall_const, not_false_eq_true, not_true_eq_false, implies_true, b2iT, b2iF, i1n0, i0n1, Option.isSome_some, Option.isSome_none, Option.map_some, Option.map_none, reduceCtorEq, b2i_bz]
    cases hp : prs S i with
    | true =>
      simp only [RepM_r13 h, RepM_k13 h, RepM_n13 h, RepM_i13 h, RepM_r17 h, RepM_k17 h, RepM_n17 h, RepM_i17 h, RepM_r14 h, RepM_k14 h, RepM_n14 h, RepM_i14 h, ix_nI (show i < 2 ^ 31 by omega), vp_in_nI hi2 (by decide), true_and, and_true, forall_eq, forall_eq', Option.some.injEq, exists_eq_left', false_implies, true_implies, forall_const, not_false_eq_true, not_true_eq_false, implies_true, b2iT, b2iF, i1n0, i0n1, Option.isSome_some, Option.isSome_none, Option.map_some, Option.map_none, reduceCtorEq, b2i_bz]
      refine ⟨fun z => ⟨fun z2 => ?_, fun z2 => ?_⟩, fun z => ?_⟩
      · have hs : seP S i = true := by
          unfold seP; rw [hp]
          have : ¬ mI S 10 i = -1 := fun z3 => by rw [z3] at z2; exact absurd z2 (by decide)
          simp [this]
        have eo : eT S i = cnt (scP S (mI S 7 i)) (2 * mN S 2) := by
          unfold eT; rw [hs]; exact cnt_160 hI (fun i hi => scP_out hi)
        rw [cnt_t hs, es, eo, cnt_f (p := woP S) (by unfold woP; have := (se_st hI hs).2.1; simp [this])] at gg
        refine ⟨fun z3 => ?_, fun z3 => ?_⟩
        · rw [cnt_f (by unfold agP; simp [z3])] at gg
          exact ⟨2 * mN S 2 + 1, M_agr101 h hI k _ x _ _ _ hi2 gg (2 * mN S 2) 0 (by omega)⟩
        · rw [cnt_t (by unfold agP; rw [hs, z3]; simp)] at gg
          exact ⟨2 * mN S 2 + 1, M_agr101 h hI k _ x _ _ _ hi2 gg (2 * mN S 2) 0 (by omega)⟩
      · have h10 : mI S 10 i = -1 := by
          rcases Inv_it hI i hp with ⟨_, _, _, z3 | ⟨c, hc, z3⟩⟩ | z3
          · exact z3
          · rw [z3] at z2; exact absurd (nI_0le (by omega)) z2
          · exact z3.2.2.2.2
        have hs : seP S i = false := by unfold seP; rw [h10]; simp
        have eo : eT S i = 0 := by unfold eT; rw [hs]; rfl
        rw [cnt_f hs, es, eo, cnt_f (by unfold agP; rw [hs]; rfl), cnt_t (p := woP S) (by unfold woP; rw [hp, z, h10]; rfl)] at gg
        exact gg
      · have h10 : mI S 10 i = -1 := by
          rcases Inv_it hI i hp with z3 | z3
          · exact absurd z3.1 z
          · exact z3.2.2.2.2
        have hs : seP S i = false := by unfold seP; rw [h10]; simp
        have eo : eT S i = 0 := by unfold eT; rw [hs]; rfl
        rw [cnt_f hs, es, eo, cnt_f (by unfold agP; rw [hs]; rfl), cnt_f (p := woP S) (by unfold woP; simp [z])] at gg
        exact gg
    | false =>
      have hs : seP S i = false := by unfold seP; rw [hp]; rfl
      have eo : eT S i = 0 := by unfold eT; rw [hs]; rfl
      simp only [true_and, and_true, forall_eq, forall_eq', Option.some.injEq, exists_eq_left', false_implies, true_implies, forall_const, not_false_eq_true, not_true_eq_false, implies_true, b2iT, b2iF, i1n0, i0n1, Option.isSome_some, Option.isSome_none, Option.map_some, Option.map_none, reduceCtorEq, b2i_bz]
      rw [cnt_f hs, es, eo, cnt_f (by unfold agP; rw [hs]; rfl), cnt_f (p := woP S) (by unfold woP; rw [hp]; rfl)] at gg
      exact gg
theorem M_agree (h : RepM t q S σ) (hI : Inv S) (x : Int32) (k : Int64 → MM → Prop) (hk : k (fAgree S x) σ) : wX4_agree t x σ k := ⟨2 * mN S 2 + 1, M_agree_l h hI x k hk (2 * mN S 2) 0 (by omega)⟩
end PM
section PC
variable {u : Nat} {q ia ra : Nat → Nat} {S σ : MM} {sf : Nat → Int64}
theorem C_secs_l (h : RepC u q ia ra S sf σ) (k : Int32 → MM → Prop) (hk : k (nI (cnt (seP S) 160)) σ) : ∀ d i, i + d = 160 → wX3_countSeconds_4 k u (d + 1) (nI (cnt (seP S) i)) (nI i) σ := by
  intro d
  induction d with
  | zero =>
    intro i hi
    have : i = 160 := by omega
    subst this
    unfold wX3_countSeconds_4
    simp only [RepC_K h, RepC_r5 h, RepC_k5 h, RepC_n5 h, RepC_i5 h, le160, true_and, and_true, forall_eq, forall_eq', Option.some.injEq, exists_eq_left', false_implies, true_implies, forall_const, not_false_eq_true, not_true_eq_false, implies_true, b2iT, b2iF, i1n0, i0n1, Option.isSome_some, Option.isSome_none, Option.map_some, Option.map_none, reduceCtorEq, b2i_bz]
    exact hk
  | succ d ih =>
    intro i hi
    have e1 : ¬ nI 160 ≤ nI i := nI_ge (by omega) (by decide)
    have gg := ih (i + 1) (by omega)
    unfold wX3_countSeconds_4
    simp only [e1, RepC_K h, RepC_r5 h, RepC_k5 h, RepC_n5 h, RepC_i5 h, ix_nI (show i < 2 ^ 31 by omega), vp_in_nI (show i < 160 by omega) (by decide), nI_1, true_and, and_true, forall_eq, forall_eq', Option.some.injEq, exists_eq_left', false_implies, true_implies, forall_const, not_false_eq_true, not_true_eq_false, implies_true, b2iT, b2iF, i1n0, i0n1, Option.isSome_some, Option.isSome_none, Option.map_some, Option.map_none, reduceCtorEq, b2i_bz]
    by_cases hp : prs S i = true
    · simp only [hp, if_true, RepC_tK h i hp, RepC_t8 h i hp, true_and, and_true, forall_eq, forall_eq', Option.some.injEq, exists_eq_left', false_implies, true_implies, forall_const, not_false_eq_true, not_true_eq_false, implies_true, b2iT, b2iF, i1n0, i0n1, Option.isSome_some, Option.isSome_none, Option.map_some, Option.map_none, reduceCtorEq, b2i_bz]
      refine ⟨fun e => ?_, fun e => ?_⟩
      · rw [cnt_f (by unfold seP; simp [e])] at gg; exact gg
      · rw [cnt_t (by unfold seP; simp [e, hp])] at gg; exact gg
    · have hp2 : prs S i = false := by simpa using hp
      simp only [hp2, Bool.false_eq_true, if_false, true_and, and_true, forall_eq, forall_eq', Option.some.injEq, exists_eq_left', false_implies, true_implies, forall_const, not_false_eq_true, not_true_eq_false, implies_true, b2iT, b2iF, i1n0, i0n1, Option.isSome_some, Option.isSome_none, Option.map_some, Option.map_none, reduceCtorEq, b2i_bz]
      rw [cnt_f (by unfold seP; simp [hp2])] at gg; exact gg
theorem C_agg_l (h : RepC u q ia ra S sf σ) (k : Int32 → MM → Prop) (hk : k (nI (cnt (agP S) 160)) σ) : ∀ d i, i + d = 160 → wX3_countAgreeing_4 k u (d + 1) (nI (cnt (agP S) i)) (nI i) σ := by
  intro d
  induction d with
  | zero =>
    intro i hi
    have : i = 160 := by omega
    subst this
    unfold wX3_countAgreeing_4
    simp only [RepC_K h, RepC_r5 h, RepC_k5 h, RepC_n5 h, RepC_i5 h, le160, true_and, and_true, forall_eq, forall_eq', Option.some.injEq, exists_eq_left', false_implies, true_implies, forall_const, not_false_eq_true, not_true_eq_false, implies_true, b2iT, b2iF, i1n0, i0n1, Option.isSome_some, Option.isSome_none, Option.map_some, Option.map_none, reduceCtorEq, b2i_bz]
    exact hk
  | succ d ih =>
    intro i hi
    have e1 : ¬ nI 160 ≤ nI i := nI_ge (by omega) (by decide)
    have gg := ih (i + 1) (by omega)
    unfold wX3_countAgreeing_4
    simp only [e1, RepC_K h, RepC_r5 h, RepC_k5 h, RepC_n5 h, RepC_i5 h, ix_nI (show i < 2 ^ 31 by omega), vp_in_nI (show i < 160 by omega) (by decide), nI_1, true_and, and_true, forall_eq, forall_eq', Option.some.injEq, exists_eq_left', false_implies, true_implies, forall_const, not_false_eq_true, not_true_eq_false, implies_true, b2iT, b2iF, i1n0, i0n1, Option.isSome_some, Option.isSome_none, Option.map_some, Option.map_none, reduceCtorEq, b2i_bz]
    by_cases hp : prs S i = true
    · simp only [hp, if_true, RepC_tK h i hp, RepC_t8 h i hp, RepC_t5 h i hp, true_and, and_true, forall_eq, forall_eq', Option.some.injEq, exists_eq_left', false_implies, true_implies, forall_const, not_false_eq_true, not_true_eq_false, implies_true, b2iT, b2iF, i1n0, i0n1, Option.isSome_some, Option.isSome_none, Option.map_some, Option.map_none, reduceCtorEq, b2i_bz]
      refine ⟨fun e => ?_, fun e => ⟨fun e2 => ?_, fun e2 => ?_⟩⟩
      · rw [cnt_f (by unfold agP seP; simp [e])] at gg; exact gg
      · rw [cnt_f (by unfold agP seP; simp [e2])] at gg; exact gg
      · rw [cnt_t (by unfold agP seP; rw [hp, decide_eq_false e, decide_eq_true e2]; rfl)] at gg; exact gg
    · have hp2 : prs S i = false := by simpa using hp
      simp only [hp2, Bool.false_eq_true, if_false, true_and, and_true, forall_eq, forall_eq', Option.some.injEq, exists_eq_left', false_implies, true_implies, forall_const, not_false_eq_true, not_true_eq_false, implies_true, b2iT, b2iF, i1n0, i0n1, Option.isSome_some, Option.isSome_none, Option.map_some, Option.map_none, reduceCtorEq, b2i_bz]
      rw [cnt_f (by unfold agP seP; simp [hp2])] at gg; exact gg
theorem C_ch73 (k : Int64 → MM → Prop) (g4 : Int64 → Int32 → MM → Prop) (g24 : Int64 → Int32 → Int64 → Int64 → Int32 → MM → Prop) (h : RepC u q ia ra S sf σ) {i c n a b : Nat} (hp : prs S i = true) (hs : seP S i = true) (y1 z0 z1 : Int64) (hz : z0 + z1 = lN n) (hg : g24 y1 (nI c) (lN n) (lN (a + if s2P S c i = true then 1 else 0)) (nI (i + 1)) σ) : wX3_chance_73 k u g4 g24 y1 (nI c) (lN a) (nI i) (some (ia i)) z0 z1 σ := by
  unfold wX3_chance_73
  simp only [RepC_tK h i hp, RepC_t8 h i hp, nI_1, lN_1, lN_p0, hz, true_and, and_true, forall_eq, forall_eq', Option.some.injEq, exists_eq_left', false_implies, true_implies, forall_const, not_false_eq_true, not_true_eq_false, implies_true, b2iT, b2iF, i1n0, i0n1, Option.isSome_some, Option.isSome_none, Option.map_some, Option.map_none, reduceCtorEq, b2i_bz]
  refine ⟨fun e => ?_, fun e => ?_⟩
  · rw [show s2P S c i = false by unfold s2P; simp [e]] at hg; exact hg
  · rw [show s2P S c i = true by unfold s2P; rw [hs, e]; simp] at hg; exact hg
theorem C_ch24 (h : RepC u q ia ra S sf σ) (k : Int64 → MM → Prop) (g : Int64 → Int32 → MM → Prop) {c n : Nat} (hg : g (lN (n + cnt (hvP S c) 160 * cnt (s2P S c) 160)) (nI (c + 1)) σ) : ∀ d i, i + d = 160 → wX3_chance_24 k u g (d + 1) (lN n) (nI c) (lN (cnt (hvP S c) i)) (lN (cnt (s2P S c) i)) (nI i) σ := by
  intro d
  induction d with
  | zero =>
    intro i hi
    have : i = 160 := by omega
    subst this
    unfold wX3_chance_24
    simp only [RepC_K h, RepC_r5 h, RepC_k5 h, RepC_n5 h, RepC_i5 h, le160, lN_mul, lN_add, nI_1, true_and, and_true, forall_eq, forall_eq', Option.some.injEq, exists_eq_left', false_implies, true_implies, forall_const, not_false_eq_true, not_true_eq_false, implies_true, b2iT, b2iF, i1n0, i0n1, Option.isSome_some, Option.isSome_none, Option.map_some, Option.map_none, reduceCtorEq, b2i_bz]
    exact hg
  | succ d ih =>
    intro i hi
    have e1 : ¬ nI 160 ≤ nI i := nI_ge (by omega) (by decide)
    have gg := ih (i + 1) (by omega)
    unfold wX3_chance_24
    simp only [e1, RepC_K h, RepC_r5 h, RepC_k5 h, RepC_n5 h, RepC_i5 h, ix_nI (show i < 2 ^ 31 by omega), vp_in_nI (show i < 160 by omega) (by decide), nI_1, true_and, and_true, forall_eq, forall_eq', Option.some.injEq, exists_eq_left', false_implies, true_implies, forall_const, not_false_eq_true, not_true_eq_false, implies_true, b2iT, b2iF, i1n0, i0n1, Option.isSome_some, Option.isSome_none, Option.map_some, Option.map_none, reduceCtorEq, b2i_bz]
    by_cases hp : prs S i = true
    · simp only [hp, if_true, RepC_tK h i hp, RepC_t8 h i hp, RepC_t5 h i hp, true_and, and_true, forall_eq, forall_eq', Option.some.injEq, exists_eq_left', false_implies, true_implies, forall_const, not_false_eq_true, not_true_eq_false, implies_true, b2iT, b2iF, i1n0, i0n1, Option.isSome_some, Option.isSome_none, Option.map_some, Option.map_none, reduceCtorEq, b2i_bz]
      refine ⟨fun e => ?_, fun e => ?_⟩
      · rw [cnt_f (by unfold hvP seP; simp [e]), cnt_f (by unfold s2P seP; simp [e])] at gg; exact gg
      · have hs : seP S i = true := by unfold seP; simp [e, hp]
        refine ⟨fun e2 => ?_, fun e2 => ?_⟩
        · rw [cnt_f (p := hvP S c) (by unfold hvP; simp [e2])] at gg
          exact C_ch73 (b := 0) k g _ h hp hs _ _ _ (lN_p0 _) gg
        · rw [cnt_t (p := hvP S c) (by unfold hvP; rw [hs, e2]; simp)] at gg
          exact C_ch73 (b := 0) k g _ h hp hs _ _ _ (lN_1 _) gg
    · have hp2 : prs S i = false := by simpa using hp
      simp only [hp2, Bool.false_eq_true, if_false, true_and, and_true, forall_eq, forall_eq', Option.some.injEq, exists_eq_left', false_implies, true_implies, forall_const, not_false_eq_true, not_true_eq_false, implies_true, b2iT, b2iF, i1n0, i0n1, Option.isSome_some, Option.isSome_none, Option.map_some, Option.map_none, reduceCtorEq, b2i_bz]
      rw [cnt_f (by unfold hvP seP; simp [hp2]), cnt_f (by unfold s2P seP; simp [hp2])] at gg; exact gg
theorem C_ch4 (h : RepC u q ia ra S sf σ) (hI : Inv S) (k : Int64 → MM → Prop) (hk : k (lN (sm (eT S) 160)) σ) : ∀ d c, c + d = mN S 0 → wX3_chance_4 k u (d + 1) (lN (sm (fun c => cnt (hvP S c) 160 * cnt (s2P S c) 160) c)) (nI c) σ := by
  have hC := Inv_C hI
  intro d
  induction d with
  | zero =>
    intro c hc
    have : c = mN S 0 := by omega
    subst this
    unfold wX3_chance_4
    simp only [RepC_K h, RepC_r0 h, RepC_k0 h, RepC_s0 h, show nI (mN S 0) ≤ nI (mN S 0) from nI_le (Nat.le_refl _) (by omega), true_and, and_true, forall_eq, forall_eq', Option.some.injEq, exists_eq_left', false_implies, true_implies, forall_const, not_false_eq_true, not_true_eq_false, implies_true, b2iT, b2iF, i1n0, i0n1, Option.isSome_some, Option.isSome_none, Option.map_some, Option.map_none, reduceCtorEq, b2i_bz]
    rw [chance_is hI 160]
    exact hk
  | succ d ih =>
    intro c hc
    have gg := ih (c + 1) (by omega)
    unfold wX3_chance_4
    simp only [RepC_K h, RepC_r0 h, RepC_k0 h, RepC_s0 h, show ¬ nI (mN S 0) ≤ nI c from nI_ge (by omega) (by omega), true_and, and_true, forall_eq, forall_eq', Option.some.injEq, exists_eq_left', false_implies, true_implies, forall_const, not_false_eq_true, not_true_eq_false, implies_true, b2iT, b2iF, i1n0, i0n1, Option.isSome_some, Option.isSome_none, Option.map_some, Option.map_none, reduceCtorEq, b2i_bz]
    exact ⟨160 + 1, C_ch24 h k _ gg 160 0 (by omega)⟩
theorem C_chance (h : RepC u q ia ra S sf σ) (hI : Inv S) (k : Int64 → MM → Prop) (hk : k (lN (sm (eT S) 160)) σ) : wX3_chance u σ k := ⟨mN S 0 + 1, C_ch4 h hI k hk (mN S 0) 0 (by omega)⟩
theorem C_agree (h : RepC u q ia ra S sf σ) (hI : Inv S) (x : Int32) (k : Int64 → MM → Prop) (hk : k (fAgree S x) σ) : wX3_agree u x σ k := by
  have b1 : (nI (cnt (seP S) 160)).toInt64 = lN (cnt (seP S) 160) := nI_l (by have := cnt_le (seP S) 160; omega)
  have b2 : (nI (cnt (agP S) 160)).toInt64 = lN (cnt (agP S) 160) := nI_l (by have := cnt_le (agP S) 160; omega)
  have b3 : (nI (cnt (csP S 1) 160)).toInt64 = lN (cnt (csP S 1) 160) := nI_l (by have := cnt_le (csP S 1) 160; omega)
  have b4 : lN (cnt (agP S) 160) + lN (cnt (csP S 1) 160) - lN (cnt (seP S) 160) = lN (cnt (agP S) 160 + cnt (woP S) 160) := by
    rw [cnt_cs1 hI, lN_add, lN_sub (by omega)]; congr 1; omega
  have st : (∀ σ', k (lN (cnt (agP S) 160 + cnt (woP S) 160)) σ' → σ' = σ → wX3_countState u 1 σ (fun x_20 σ_19 => k ((lN (cnt (agP S) 160) + x_20.toInt64) - lN (cnt (seP S) 160)) σ_19)) := fun σ' h1 h2 => by
    subst h2
    refine C_countState h 1 _ ?_
    show k (lN (cnt (agP S) 160) + (nI (cnt (csP S 1) 160)).toInt64 - lN (cnt (seP S) 160)) _
    rw [b3, b4]; exact h1
  unfold wX3_agree
  refine ⟨RepC_K h, ⟨160 + 1, C_secs_l h _ ?_ 160 0 (by omega)⟩⟩
  intro y4 e4
  rw [b1] at e4
  subst e4
  refine ⟨RepC_K h, ⟨160 + 1, C_agg_l h _ ?_ 160 0 (by omega)⟩⟩
  intro y8 e8
  rw [b2] at e8
  subst e8
  unfold fAgree at hk
  refine ⟨fun e => ?_, fun e => ?_, fun e => ?_, fun e => ?_, fun e => ?_, fun e => ?_, fun e => ?_⟩
  · obtain ⟨a0, a1, a2, a3, a4, a5⟩ := out5 e
    rw [if_neg a0, if_neg a1, if_neg a2, if_neg a3, if_neg a4, if_neg a5] at hk
    exact hk
  · subst e; exact hk
  · subst e; exact hk
  · subst e; exact ⟨RepC_K h, C_chance h hI _ hk⟩
  · subst e; exact ⟨RepC_K h, C_chance h hI _ hk⟩
  · subst e
    have hk2 : k (if nI (mN S 0) ≤ 1 then lN (cnt (agP S) 160 + cnt (woP S) 160) else lN (cnt (agP S) 160)) σ := hk
    simp only [RepC_K h, RepC_r0 h, RepC_k0 h, RepC_s0 h, true_and, and_true, forall_eq, forall_eq', Option.some.injEq, exists_eq_left', false_implies, true_implies, forall_const, not_false_eq_true, not_true_eq_false, implies_true, b2iT, b2iF, i1n0, i0n1, Option.isSome_some, Option.isSome_none, Option.map_some, Option.map_none, reduceCtorEq, b2i_bz]
    exact ⟨fun e => by rw [if_pos e] at hk2; exact st σ hk2 rfl, fun e => by rw [if_neg e] at hk2; exact hk2⟩
  · subst e; exact ⟨RepC_K h, st σ hk rfl⟩
end PC
