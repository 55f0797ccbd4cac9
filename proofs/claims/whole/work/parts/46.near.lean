/-- all addresses but b are as they were -/
def Fr1 (b : Nat) (σ σ1 : MM) : Prop := ∀ a, a ≠ b → agr σ σ1 a
theorem Fr1_refl (b : Nat) (σ : MM) : Fr1 b σ σ := fun a _ => agr_refl σ a
theorem Fr1_tr {b : Nat} {σ σ1 σ2 : MM} (h : Fr1 b σ σ1) (h2 : Fr1 b σ1 σ2) : Fr1 b σ σ2 := fun a e => agr_tr (h a e) (h2 a e)
theorem Fr1_I {b : Nat} {σ : MM} {k : Nat} {v : Int32} : Fr1 b σ (sI σ b k v) := fun a e => agr_sI e
theorem FrC_1 {q : Nat → Nat} {σ σ1 : MM} (f : Fr1 (q 11) σ σ1) : FrC q σ σ1 := fun a _ hq => f a (hq 11 (by decide))
theorem FrM_1 {q : Nat → Nat} {t : Nat} {σ σ1 : MM} (h : mK σ t = 5) (f : Fr1 t σ σ1) : FrM q σ σ1 := fun a h5 _ => f a (fun e => h5 (by rw [e]; exact h))
/-! NEAR -/
def nP (S : MM) (c j i : Nat) : Bool := prs S i && (!decide (i = j) && (decide (mI S 6 i = 1) && decide (mI S 7 i = nI c)))
def nF (S : MM) (c j : Nat) : Nat → Int32 × Int32
  | 0 => (0, -1)
  | n + 1 => if nP S c j n then (if lk S n j ≤ (nF S c j n).1 then nF S c j n else (lk S n j, nI n)) else nF S c j n
def nearS (S : MM) (c j : Nat) : Int32 := if exS S c j then 0 else (nF S c j 160).1
def nearB (S : MM) (c j : Nat) : Int32 := if exS S c j then -1 else (nF S c j 160).2
theorem nF_f {S : MM} {c j n : Nat} (h : nP S c j n = false) : nF S c j (n + 1) = nF S c j n := by
  show (if _ then _ else _) = _
  rw [if_neg (by rw [h]; decide)]
theorem nF_s {S : MM} {c j n : Nat} (h : lk S n j ≤ (nF S c j n).1) : nF S c j (n + 1) = nF S c j n := by
  show (if _ then (if _ then _ else _) else _) = _
  by_cases hp : nP S c j n = true
  · rw [if_pos hp, if_pos h]
  · rw [if_neg hp]
theorem nF_t {S : MM} {c j n : Nat} (h : nP S c j n = true) (h2 : ¬ lk S n j ≤ (nF S c j n).1) : nF S c j (n + 1) = (lk S n j, nI n) := by
  show (if _ then (if _ then _ else _) else _) = _
  rw [if_pos h, if_neg h2]
theorem nP_out {S : MM} {c j i : Nat} (h : 2 * mN S 2 ≤ i) : nP S c j i = false := by unfold nP; rw [prs_out h]; rfl
theorem nF_out {S : MM} {c j : Nat} : ∀ d, nF S c j (2 * mN S 2 + d) = nF S c j (2 * mN S 2)
  | 0 => rfl
  | d + 1 => by
    have := nF_f (nP_out (S := S) (c := c) (j := j) (i := 2 * mN S 2 + d) (by omega))
    exact this.trans (nF_out d)
theorem nF_160 {S : MM} (hI : Inv S) {c j : Nat} : nF S c j 160 = nF S c j (2 * mN S 2) := by
  have hA := Inv_A hI
  have := nF_out (S := S) (c := c) (j := j) (160 - 2 * mN S 2)
  rw [show 2 * mN S 2 + (160 - 2 * mN S 2) = 160 by omega] at this
  exact this
section PM
variable {t : Nat} {q : Nat → Nat} {S σ : MM}
theorem M_nearOf_l (h : RepM t q S σ) (hI : Inv S) {c j : Nat} (hc : c < mN S 0) (hj : j < 160) (k : Int32 → MM → Prop) (hk : k (nF S c j (2 * mN S 2)).1 (sI σ t 28 (nF S c j (2 * mN S 2)).2)) : ∀ d i, i + d = 2 * mN S 2 → wX4_nearOf_21 k t (d + 1) (nI c) (nI j) (nF S c j i).1 (nI i) (sI σ t 28 (nF S c j i).2) := by
  have hA := Inv_A hI
  intro d
  induction d with
  | zero =>
    intro i hi
    have : i = 2 * mN S 2 := by omega
    subst this
    have g := RepM_v28 h (nF S c j (2 * mN S 2)).2
    unfold wX4_nearOf_21
    simp only [RepM_K g, RepM_nA g, two_nA hI, show nI (2 * mN S 2) ≤ nI (2 * mN S 2) from nI_le (Nat.le_refl _) (by omega), true_and, and_true, forall_eq, forall_eq', Option.some.injEq, exists_eq_left', false_implies, true_implies, forall_const, not_false_eq_true, not_true_eq_false, implies_true, b2iT, b2iF, i1n0, i0n1, Option.isSome_some, Option.isSome_none, Option.map_some, Option.map_none, reduceCtorEq, b2i_bz]
    exact hk
  | succ d ih =>
    intro i hi
    have hi2 : i < 160 := by omega
    have g := RepM_v28 h (nF S c j i).2
    have gg := ih (i + 1) (by omega)
    have e1 : ¬ nI (2 * mN S 2) ≤ nI i := nI_ge (by omega) (by omega)
    unfold wX4_nearOf_21
    simp only [RepM_K g, RepM_nA g, two_nA hI, e1, eM_isItem g hI, vT_is hi2, nI_eq (show i < 2 ^ 31 by omega) (show j < 2 ^ 31 by omega), RepM_r13 g, RepM_k13 g, RepM_n13 g, RepM_i13 g, RepM_r14 g, RepM_k14 g, RepM_n14 g, RepM_i14 g, ix_nI (show i < 2 ^ 31 by omega), vp_in_nI hi2 (by decide), nI_1, true_and, and_true, forall_eq, forall_eq', Option.some.injEq, exists_eq_left', false_implies, true_implies, forall_const, not_false_eq_true, not_true_eq_false, implies_true, b2iT, b2iF, i1n0, i0n1, Option.isSome_some, Option.isSome_none, Option.map_some, Option.map_none, reduceCtorEq, b2i_bz]
    have skip : nP S c j i = false → wX4_nearOf_21 k t (d + 1) (nI c) (nI j) (nF S c j i).1 (nI (i + 1)) (sI σ t 28 (nF S c j i).2) := fun hf => by rw [nF_f hf] at gg; exact gg
    refine ⟨fun eij => skip (by unfold nP; simp [eij]), fun eij => ?_⟩
    by_cases hp : prs S i = true
    · simp only [hp, true_and, and_true, forall_eq, forall_eq', Option.some.injEq, exists_eq_left', false_implies, true_implies, forall_const, not_false_eq_true, not_true_eq_false, implies_true, b2iT, b2iF, i1n0, i0n1, Option.isSome_some, Option.isSome_none, Option.map_some, Option.map_none, reduceCtorEq, b2i_bz]
      refine ⟨fun es => skip (by unfold nP; simp [es]), fun es => ⟨fun ec => ?_, fun ec => skip (by unfold nP; simp [ec])⟩⟩
      refine M_like g hi2 hj _ ?_
      have hn : nP S c j i = true := by unfold nP; simp [hp, eij, es, ec]
      by_cases el : lk S i j ≤ (nF S c j i).1
      · rw [nF_s el] at gg
        exact ⟨fun _ => ⟨fun _ => gg, fun z => absurd el z⟩, fun z => absurd el z⟩
      · rw [nF_t hn el] at gg
        refine ⟨fun z => absurd z el, fun _ => ⟨RepM_K g, fun z => absurd z el, fun _ => ?_⟩⟩
        rw [sI_sI]
        simp only at gg
        exact gg
    · have hp2 : prs S i = false := by simpa using hp
      simp only [hp2, true_and, and_true, forall_eq, forall_eq', Option.some.injEq, exists_eq_left', false_implies, true_implies, forall_const, not_false_eq_true, not_true_eq_false, implies_true, b2iT, b2iF, i1n0, i0n1, Option.isSome_some, Option.isSome_none, Option.map_some, Option.map_none, reduceCtorEq, b2i_bz]
      exact skip (by unfold nP; rw [hp2]; rfl)
theorem M_nearOf (h : RepM t q S σ) (hI : Inv S) {c j : Nat} (hc : c < mN S 0) (hj : j < 160) (k : Int32 → MM → Prop) (hk : k (nearS S c j) (sI σ t 28 (nearB S c j))) : wX4_nearOf t (nI c) (nI j) σ k := by
  unfold wX4_nearOf
  unfold nearS nearB at hk
  simp only [RepM_K h, true_and, and_true, forall_eq, forall_eq', Option.some.injEq, exists_eq_left', false_implies, true_implies, forall_const, not_false_eq_true, not_true_eq_false, implies_true, b2iT, b2iF, i1n0, i0n1, Option.isSome_some, Option.isSome_none, Option.map_some, Option.map_none, reduceCtorEq, b2i_bz]
  refine M_isExcluded (RepM_v28 h (-1)) hI hc hj _ ?_
  cases he : exS S c j with
  | true =>
    rw [he] at hk
    simp only [true_and, and_true, forall_eq, forall_eq', Option.some.injEq, exists_eq_left', false_implies, true_implies, forall_const, not_false_eq_true, not_true_eq_false, implies_true, b2iT, b2iF, i1n0, i0n1, Option.isSome_some, Option.isSome_none, Option.map_some, Option.map_none, reduceCtorEq, b2i_bz]
    exact hk
  | false =>
    rw [he] at hk
    simp only [Bool.false_eq_true, if_false] at hk
    rw [nF_160 hI] at hk
    simp only [true_and, and_true, forall_eq, forall_eq', Option.some.injEq, exists_eq_left', false_implies, true_implies, forall_const, not_false_eq_true, not_true_eq_false, implies_true, b2iT, b2iF, i1n0, i0n1, Option.isSome_some, Option.isSome_none, Option.map_some, Option.map_none, reduceCtorEq, b2i_bz]
    exact ⟨2 * mN S 2 + 1, M_nearOf_l h hI hc hj k hk (2 * mN S 2) 0 (by omega)⟩
end PM
section PC
variable {u : Nat} {q ia ra : Nat → Nat} {S σ : MM} {sf : Nat → Int64}
def nA2 (S : MM) (j i c : Nat) : Int32 := if c < mN S 0 then (if exS S c j then 0 else (nF S c j i).1) else 0
theorem C_fill_l (hI : Inv S) {j : Nat} (hj : prs S j = true) (E : Int64) (hE : ∀ c, c < mN S 0 → bT E c = exS S c j) (k : MM → Prop) (σ0 : MM) (hk : ∀ σ1, RepC u q ia ra S (setS S) σ1 → Fr1 (q 11) σ0 σ1 → (∀ c, c < 40 → mI σ1 (q 11) c = nA2 S j 160 c) → k σ1) : ∀ d i (σ : MM), i + d = 160 → RepC u q ia ra S (setS S) σ → Fr1 (q 11) σ0 σ → (∀ c, c < 40 → mI σ (q 11) c = nA2 S j i c) → wX3_fillNears_43 k u (d + 1) (some (ia j)) E (nI i) σ := by
  have hC := Inv_C hI
  intro d
  induction d with
  | zero =>
    intro i σ hi h hf hm
    have : i = 160 := by omega
    subst this
    unfold wX3_fillNears_43
    simp only [RepC_K h, RepC_r5 h, RepC_k5 h, RepC_n5 h, RepC_i5 h, le160, true_and, and_true, forall_eq, forall_eq', Option.some.injEq, exists_eq_left', false_implies, true_implies, forall_const, not_false_eq_true, not_true_eq_false, implies_true, b2iT, b2iF, i1n0, i0n1, Option.isSome_some, Option.isSome_none, Option.map_some, Option.map_none, reduceCtorEq, b2i_bz]
    exact hk σ h hf hm
  | succ d ih =>
    intro i σ hi h hf hm
    unfold wX3_fillNears_43
    have e1 : ¬ nI 160 ≤ nI i := nI_ge (by omega) (by decide)
    simp only [e1, RepC_K h, RepC_r5 h, RepC_k5 h, RepC_n5 h, RepC_i5 h, ix_nI (show i < 2 ^ 31 by omega), vp_in_nI (show i < 160 by omega) (by decide), nI_1, true_and, and_true, forall_eq, forall_eq', Option.some.injEq, exists_eq_left', false_implies, true_implies, forall_const, not_false_eq_true, not_true_eq_false, implies_true, b2iT, b2iF, i1n0, i0n1, Option.isSome_some, Option.isSome_none, Option.map_some, Option.map_none, reduceCtorEq, b2i_bz]
    have skip : (∀ c, c < mN S 0 → exS S c j = false → nP S c j i = false) → wX3_fillNears_43 k u (d + 1) (some (ia j)) E (nI (i + 1)) σ := fun hn => ih (i + 1) σ (by omega) h hf (fun c hc => by
      rw [hm c hc]
      unfold nA2
      by_cases h1 : c < mN S 0
      · rw [if_pos h1, if_pos h1]
        cases he : exS S c j with
        | true => rfl
        | false =>
          simp only [Bool.false_eq_true, if_false]
          rw [nF_f (hn c h1 he)]
      · rw [if_neg h1, if_neg h1])
    by_cases hp : prs S i = true
    · simp only [hp, if_true, RepC_tK h i hp, RepC_t5 h i hp, true_and, and_true, forall_eq, forall_eq', Option.some.injEq, exists_eq_left', false_implies, true_implies, forall_const, not_false_eq_true, not_true_eq_false, implies_true, b2iT, b2iF, i1n0, i0n1, Option.isSome_some, Option.isSome_none, Option.map_some, Option.map_none, reduceCtorEq, b2i_bz]
      refine ⟨fun e => skip (fun c _ _ => ?_), fun e => ?_⟩
      · have : i = j := RepC_iin h i j hp hj e
        unfold nP; simp [this]
      · have hij : ¬ i = j := fun z => e (by rw [z])
        rw [eC_isCode h hI]
        rcases Inv_it hI i hp with ⟨z1, ⟨c, hc, ec⟩, _⟩ | ⟨z1, ec, _⟩
        · rw [ec, vI_nI hc (by omega)]
          simp only [RepC_tK h i hp, RepC_t5 h i hp, true_and, and_true, forall_eq, forall_eq', Option.some.injEq, exists_eq_left', false_implies, true_implies, forall_const, not_false_eq_true, not_true_eq_false, implies_true, b2iT, b2iF, i1n0, i0n1, Option.isSome_some, Option.isSome_none, Option.map_some, Option.map_none, reduceCtorEq, b2i_bz]
          rw [ec, eC_bit E (show c < 64 by omega), hE c hc]
          simp only [b2i_0, b2i_n0]
          refine ⟨fun he0 => skip (fun d hd hd2 => ?_), fun he => ?_⟩
          · have he : exS S c j = true := by simpa using he0
            have : ¬ nI c = nI d := fun z => by
              have := (nI_eq (show c < 2 ^ 31 by omega) (show d < 2 ^ 31 by omega)).mp z
              rw [← this, he] at hd2; cases hd2
            unfold nP; simp [ec, this]
          · simp only [RepC_K h, RepC_r11 h, RepC_k11 h, RepC_n11 h, RepC_tK h i hp, RepC_tK h j hj, RepC_t5 h i hp, ec, ix_nI (show c < 2 ^ 31 by omega), vp_in_nI (show c < 40 by omega) (by decide), true_and, and_true, forall_eq, forall_eq', Option.some.injEq, exists_eq_left', false_implies, true_implies, forall_const, not_false_eq_true, not_true_eq_false, implies_true, b2iT, b2iF, i1n0, i0n1, Option.isSome_some, Option.isSome_none, Option.map_some, Option.map_none, reduceCtorEq, b2i_bz]
            refine C_likenessTo h hj hp _ ?_
            simp only [RepC_k11 h, RepC_n11 h, vp_in_nI (show c < 40 by omega) (by decide), true_and, and_true, forall_eq, forall_eq', Option.some.injEq, exists_eq_left', false_implies, true_implies, forall_const, not_false_eq_true, not_true_eq_false, implies_true, b2iT, b2iF, i1n0, i0n1, Option.isSome_some, Option.isSome_none, Option.map_some, Option.map_none, reduceCtorEq, b2i_bz]
            have hn : nP S c j i = true := by unfold nP; simp [hp, hij, z1, ec]
            have hcm : mI σ (q 11) c = (nF S c j i).1 := by
              rw [hm c (by omega)]
              unfold nA2
              rw [if_pos hc, he]; rfl
            rw [hcm, lk_comm]
            refine ih (i + 1) _ (by omega) (RepC_q11w h c _) (Fr1_tr hf Fr1_I) (fun d hd => ?_)
            rw [mI_sI]
            by_cases edc : d = c
            · subst edc
              rw [if_pos ⟨rfl, rfl⟩]
              unfold nA2
              rw [if_pos hc, he]
              simp only [Bool.false_eq_true, if_false]
              by_cases el : lk S i j ≤ (nF S d j i).1
              · rw [nF_s el, if_neg (Int32.not_lt.mpr el)]
              · rw [nF_t hn el, if_pos (Int32.not_le.mp el)]
            · rw [if_neg (fun z => edc z.2), hm d hd]
              unfold nA2
              by_cases h1 : d < mN S 0
              · rw [if_pos h1, if_pos h1]
                cases he2 : exS S d j with
                | true => rfl
                | false =>
                  simp only [Bool.false_eq_true, if_false]
                  have : nP S d j i = false := by
                    have : ¬ nI c = nI d := fun z => edc ((nI_eq (show c < 2 ^ 31 by omega) (show d < 2 ^ 31 by omega)).mp z).symm
                    unfold nP; simp [ec, this]
                  rw [nF_f this]
              · rw [if_neg h1, if_neg h1]
        · rw [ec, vI_neg (by decide)]
          simp only [true_and, and_true, forall_eq, forall_eq', Option.some.injEq, exists_eq_left', false_implies, true_implies, forall_const, not_false_eq_true, not_true_eq_false, implies_true, b2iT, b2iF, i1n0, i0n1, Option.isSome_some, Option.isSome_none, Option.map_some, Option.map_none, reduceCtorEq, b2i_bz]
          refine skip (fun c _ _ => ?_)
          have : ¬ mI S 6 i = 1 := by rcases z1 with z | z <;> rw [z] <;> decide
          unfold nP; simp [this]
    · have hp2 : prs S i = false := by simpa using hp
      simp only [hp2, Bool.false_eq_true, if_false, true_and, and_true, forall_eq, forall_eq', Option.some.injEq, exists_eq_left', false_implies, true_implies, forall_const, not_false_eq_true, not_true_eq_false, implies_true, b2iT, b2iF, i1n0, i0n1, Option.isSome_some, Option.isSome_none, Option.map_some, Option.map_none, reduceCtorEq, b2i_bz]
      exact skip (fun c _ _ => by unfold nP; rw [hp2]; rfl)
theorem C_zero_l (hI : Inv S) {j : Nat} (hj : prs S j = true) (k : MM → Prop) (σ0 : MM) (hk : ∀ σ1, RepC u q ia ra S (setS S) σ1 → Fr1 (q 11) σ0 σ1 → (∀ c, c < 40 → mI σ1 (q 11) c = nA2 S j 160 c) → k σ1) : ∀ d i (σ : MM), i + d = 40 → RepC u q ia ra S (setS S) σ → Fr1 (q 11) σ0 σ → (∀ c, c < i → mI σ (q 11) c = 0) → wX3_fillNears_2 k u (d + 1) (some (ia j)) (nI i) σ := by
  have hC := Inv_C hI
  intro d
  induction d with
  | zero =>
    intro i σ hi h hf hm
    have : i = 40 := by omega
    subst this
    unfold wX3_fillNears_2
    simp only [RepC_K h, RepC_r11 h, RepC_k11 h, RepC_n11 h, le40, RepC_r0 h, RepC_tK h j hj, RepC_t3 h j hj, true_and, and_true, forall_eq, forall_eq', Option.some.injEq, exists_eq_left', false_implies, true_implies, forall_const, not_false_eq_true, not_true_eq_false, implies_true, b2iT, b2iF, i1n0, i0n1, Option.isSome_some, Option.isSome_none, Option.map_some, Option.map_none, reduceCtorEq, b2i_bz]
    refine C_codesExcluding h _ _ (fun E hE => ?_)
    simp only [RepC_k0 h, true_and, and_true, forall_eq, forall_eq', Option.some.injEq, exists_eq_left', false_implies, true_implies, forall_const, not_false_eq_true, not_true_eq_false, implies_true, b2iT, b2iF, i1n0, i0n1, Option.isSome_some, Option.isSome_none, Option.map_some, Option.map_none, reduceCtorEq, b2i_bz]
    refine C_below (RepC_k0 h) (RepC_s0 h) (RepC_a0 h) (RepC_k20 h) (RepC_n20 h) (RepC_i20 h) hC (upC hI) E _ (fun B hB _ => ?_)
    refine ⟨161, C_fill_l hI hj B (fun c hc => ?_) k σ0 hk 160 0 σ rfl h hf (fun c hc => ?_)⟩
    · rw [hB c hc]
      unfold exS chn
      refine chB_cong (show mN S 0 < 2 ^ 31 by omega) (upC hI) (fun d hd => ?_) (c + 1) c hc
      rw [hE d (by omega)]
      unfold xP
      rw [show decide (d < 40) = true from by simpa using (show d < 40 by omega)]; rfl
    · rw [hm c hc]
      unfold nA2
      split
      · split
        · rfl
        · rfl
      · rfl
  | succ d ih =>
    intro i σ hi h hf hm
    unfold wX3_fillNears_2
    have e1 : ¬ nI 40 ≤ nI i := nI_ge (by omega) (by decide)
    simp only [RepC_K h, RepC_r11 h, RepC_k11 h, RepC_n11 h, e1, ix_nI (show i < 2 ^ 31 by omega), vp_in_nI (show i < 40 by omega) (by decide), nI_1, true_and, and_true, forall_eq, forall_eq', Option.some.injEq, exists_eq_left', false_implies, true_implies, forall_const, not_false_eq_true, not_true_eq_false, implies_true, b2iT, b2iF, i1n0, i0n1, Option.isSome_some, Option.isSome_none, Option.map_some, Option.map_none, reduceCtorEq, b2i_bz]
    refine ih (i + 1) _ (by omega) (RepC_q11w h i 0) (Fr1_tr hf Fr1_I) (fun c hc => ?_)
    rw [mI_sI]
    by_cases e : c = i
    · rw [if_pos ⟨rfl, e⟩]
    · rw [if_neg (fun z => e z.2)]; exact hm c (by omega)
theorem C_fillNears (h : RepC u q ia ra S (setS S) σ) (hI : Inv S) {j : Nat} (hj : prs S j = true) (k : MM → Prop) (hk : ∀ σ1, RepC u q ia ra S (setS S) σ1 → Fr1 (q 11) σ σ1 → (∀ c, c < 40 → mI σ1 (q 11) c = nA2 S j 160 c) → k σ1) : wX3_fillNears u (some (ia j)) σ k := ⟨41, C_zero_l hI hj k σ hk 40 0 σ rfl h (Fr1_refl (q 11) σ) (fun _ hc => absurd hc (by omega))⟩
end PC
