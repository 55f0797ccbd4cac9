def fLikeness (S : MM) (x y : Int32) : Int32 := match vT S x, vT S y with
  | some i, some j => lk S i j
  | _, _ => -1
/-- an item's state, code, by what, number of that, second -/
def stI (T : MM) (n : Nat) (a b c d e : Int32) : MM := sI (sI (sI (sI (sI T 6 n a) 7 n b) 8 n c) 9 n d) 10 n e
theorem stI_set (T : MM) (n : Nat) (a b c d e : Int32) : setS (stI T n a b c d e) = setS T := rfl
theorem stI_prs (T : MM) (n : Nat) (a b c d e : Int32) : prs (stI T n a b c d e) = prs T := rfl
theorem stI_N (T : MM) (n : Nat) (a b c d e : Int32) : mN (stI T n a b c d e) = mN T := rfl
theorem stI_6 (T : MM) (n : Nat) (a b c d e : Int32) (j : Nat) : mI (stI T n a b c d e) 6 j = if j = n then a else mI T 6 j := rfl
theorem stI_7 (T : MM) (n : Nat) (a b c d e : Int32) (j : Nat) : mI (stI T n a b c d e) 7 j = if j = n then b else mI T 7 j := rfl
theorem stI_8 (T : MM) (n : Nat) (a b c d e : Int32) (j : Nat) : mI (stI T n a b c d e) 8 j = if j = n then c else mI T 8 j := rfl
theorem stI_9 (T : MM) (n : Nat) (a b c d e : Int32) (j : Nat) : mI (stI T n a b c d e) 9 j = if j = n then d else mI T 9 j := rfl
theorem stI_10 (T : MM) (n : Nat) (a b c d e : Int32) (j : Nat) : mI (stI T n a b c d e) 10 j = if j = n then e else mI T 10 j := rfl
theorem Inv_stI {T : MM} (hI : Inv T) {n : Nat} {a b c d e : Int32} (h : (a = 1 ∧ (∃ x, x < mN T 0 ∧ b = nI x) ∧ (c = 0 ∨ c = 1 ∨ c = 2) ∧ (e = -1 ∨ ∃ x, x < mN T 0 ∧ e = nI x)) ∨ ((a = 0 ∨ a = 2) ∧ b = -1 ∧ c = -1 ∧ d = -1 ∧ e = -1)) : Inv (stI T n a b c d e) := by
  refine ⟨(by have e := Inv_C hI; exact e), (by have e := Inv_O hI; exact e), (by have e := Inv_A hI; exact e), (by have e := Inv_R hI; exact e), (by have e := Inv_ab hI; exact e), (by have e := Inv_ob hI; exact e), (by have e := Inv_st hI; exact e), (by have e := Inv_so hI; exact e), (by have e := Inv_tr hI; exact e), (by have e := Inv_sc hI; exact e), ?_, (by have e := Inv_ra hI; exact e), (by have e := Inv_rc hI; exact e), (by have e := Inv_rt hI; exact e), (by have e := Inv_rd hI; exact e), (by have e := Inv_rz hI; exact e), (by have e := Inv_le hI; exact e), (by have e := Inv_ga hI; exact e), (by have e := Inv_ca hI; exact e)⟩
  intro j hj
  rw [stI_6, stI_7, stI_8, stI_9, stI_10, stI_N]
  by_cases ej : j = n
  · rw [if_pos ej, if_pos ej, if_pos ej, if_pos ej, if_pos ej]; exact h
  · rw [if_neg ej, if_neg ej, if_neg ej, if_neg ej, if_neg ej]; exact Inv_it hI j hj
def rcF (S : MM) : Nat → MM × Nat
  | 0 => (S, 0)
  | n + 1 => if prs (rcF S n).1 n && sta (rcF S n).1 n then (stI (rcF S n).1 n 0 (-1) (-1) (-1) (-1), (rcF S n).2 + 1) else rcF S n
def fRecode (S : MM) : Int32 × MM := (nI (rcF S 160).2, (rcF S 160).1)
theorem rcF_t {S : MM} {n : Nat} (h1 : prs (rcF S n).1 n = true) (h2 : sta (rcF S n).1 n = true) : rcF S (n + 1) = (stI (rcF S n).1 n 0 (-1) (-1) (-1) (-1), (rcF S n).2 + 1) := by
  show (if _ then _ else _) = _
  rw [h1, h2]; rfl
theorem rcF_f {S : MM} {n : Nat} (h : (prs (rcF S n).1 n && sta (rcF S n).1 n) = false) : rcF S (n + 1) = rcF S n := by
  show (if _ then _ else _) = _
  rw [h]; rfl
theorem rcF_inv {S : MM} (hI : Inv S) : ∀ n, Inv (rcF S n).1 ∧ mN (rcF S n).1 = mN S
  | 0 => ⟨hI, rfl⟩
  | n + 1 => by
    obtain ⟨g1, g2⟩ := rcF_inv hI n
    by_cases h : (prs (rcF S n).1 n && sta (rcF S n).1 n) = true
    · have h2 : prs (rcF S n).1 n = true ∧ sta (rcF S n).1 n = true := by simpa using h
      rw [rcF_t h2.1 h2.2]
      exact ⟨Inv_stI g1 (Or.inr ⟨Or.inl rfl, rfl, rfl, rfl, rfl⟩), g2⟩
    · rw [rcF_f (by simpa using h)]
      exact ⟨g1, g2⟩
theorem rcF_out {S : MM} (hI : Inv S) : ∀ d, rcF S (2 * mN S 2 + d) = rcF S (2 * mN S 2)
  | 0 => rfl
  | d + 1 => by
    have hf : (prs (rcF S (2 * mN S 2 + d)).1 (2 * mN S 2 + d) && sta (rcF S (2 * mN S 2 + d)).1 (2 * mN S 2 + d)) = false := by
      rw [prs_out (by rw [(rcF_inv hI _).2]; omega)]; rfl
    exact (rcF_f hf).trans (rcF_out hI d)
theorem rcF_160 {S : MM} (hI : Inv S) : rcF S 160 = rcF S (2 * mN S 2) := by
  have hA := Inv_A hI
  have := rcF_out hI (160 - 2 * mN S 2)
  rw [show 2 * mN S 2 + (160 - 2 * mN S 2) = 160 by omega] at this
  exact this
section PM
variable {t : Nat} {q : Nat → Nat} {S σ : MM}
theorem M_likeness (h : RepM t q S σ) (hI : Inv S) (x y : Int32) (k : Int32 → MM → Prop) (hk : k (fLikeness S x y) σ) : wX4_likeness t x y σ k := by
  unfold wX4_likeness
  unfold fLikeness at hk
  simp only [eM_isItem h hI, RepM_K h, true_and, and_true, forall_eq, forall_eq', Option.some.injEq, exists_eq_left', false_implies, true_implies, forall_const, not_false_eq_true, not_true_eq_false, implies_true, b2iT, b2iF, i1n0, i0n1, Option.isSome_some, Option.isSome_none, Option.map_some, Option.map_none, reduceCtorEq, b2i_bz]
  cases hx : vT S x with
  | none => rw [hx] at hk; simp only [true_and, and_true, forall_eq, forall_eq', Option.some.injEq, exists_eq_left', false_implies, true_implies, forall_const, not_false_eq_true, not_true_eq_false, implies_true, b2iT, b2iF, i1n0, i0n1, Option.isSome_some, Option.isSome_none, Option.map_some, Option.map_none, reduceCtorEq, b2i_bz]; exact hk
  | some i =>
    cases hy : vT S y with
    | none => rw [hx, hy] at hk; simp only [true_and, and_true, forall_eq, forall_eq', Option.some.injEq, exists_eq_left', false_implies, true_implies, forall_const, not_false_eq_true, not_true_eq_false, implies_true, b2iT, b2iF, i1n0, i0n1, Option.isSome_some, Option.isSome_none, Option.map_some, Option.map_none, reduceCtorEq, b2i_bz]; exact hk
    | some j =>
      rw [hx, hy] at hk
      obtain ⟨_, hi, rfl⟩ := vT_some hx
      obtain ⟨_, hj, rfl⟩ := vT_some hy
      simp only [true_and, and_true, forall_eq, forall_eq', Option.some.injEq, exists_eq_left', false_implies, true_implies, forall_const, not_false_eq_true, not_true_eq_false, implies_true, b2iT, b2iF, i1n0, i0n1, Option.isSome_some, Option.isSome_none, Option.map_some, Option.map_none, reduceCtorEq, b2i_bz]
      exact M_like h hi hj _ hk
theorem M_anew (h : RepM t q S σ) {n : Nat} (hn : n < 160) (k : MM → Prop) (hk : ∀ σ1, RepM t q (stI S n 0 (-1) (-1) (-1) (-1)) σ1 → FrM q σ σ1 → k σ1) : wX4_anew t (nI n) σ k := by
  have h1 := RepM_w13 h n 0
  have h2 := RepM_w14 h1 n (-1)
  have h3 := RepM_w15 h2 n (-1)
  have h4 := RepM_w16 h3 n (-1)
  have h5 := RepM_w17 h4 n (-1)
  unfold wX4_anew
  simp only [RepM_K h, RepM_r13 h, RepM_k13 h, RepM_n13 h, RepM_r14 h1, RepM_k14 h1, RepM_n14 h1, RepM_r15 h2, RepM_k15 h2, RepM_n15 h2, RepM_r16 h3, RepM_k16 h3, RepM_n16 h3, RepM_r17 h4, RepM_k17 h4, RepM_n17 h4, ix_nI (show n < 2 ^ 31 by omega), vp_in_nI hn (by decide), true_and, and_true, forall_eq, forall_eq', Option.some.injEq, exists_eq_left', false_implies, true_implies, forall_const, not_false_eq_true, not_true_eq_false, implies_true, b2iT, b2iF, i1n0, i0n1, Option.isSome_some, Option.isSome_none, Option.map_some, Option.map_none, reduceCtorEq, b2i_bz]
  exact hk _ h5 (FrM_tr (FrM_tr (FrM_tr (FrM_tr (FrM_I (by decide)) (FrM_I (by decide))) (FrM_I (by decide))) (FrM_I (by decide))) (FrM_I (by decide)))
def Fr5 (q : Nat → Nat) (σ σ1 : MM) : Prop := ∀ a, a ≠ q 13 → a ≠ q 14 → a ≠ q 15 → a ≠ q 16 → a ≠ q 17 → agr σ σ1 a
theorem M_become (h : RepM t q S σ) {n : Nat} (hn : n < 160) (x y z : Int32) (k : MM → Prop) (hk : ∀ σ1, RepM t q (stI S n 1 x y z (-1)) σ1 → FrM q σ σ1 → Fr5 q σ σ1 → k σ1) : wX4_become t (nI n) x y z σ k := by
  have h1 := RepM_w13 h n 1
  have h2 := RepM_w14 h1 n x
  have h3 := RepM_w15 h2 n y
  have h4 := RepM_w16 h3 n z
  have h5 := RepM_w17 h4 n (-1)
  unfold wX4_become
  simp only [RepM_K h, RepM_r13 h, RepM_k13 h, RepM_n13 h, RepM_r14 h1, RepM_k14 h1, RepM_n14 h1, RepM_r15 h2, RepM_k15 h2, RepM_n15 h2, RepM_r16 h3, RepM_k16 h3, RepM_n16 h3, RepM_r17 h4, RepM_k17 h4, RepM_n17 h4, ix_nI (show n < 2 ^ 31 by omega), vp_in_nI hn (by decide), true_and, and_true, forall_eq, forall_eq', Option.some.injEq, exists_eq_left', false_implies, true_implies, forall_const, not_false_eq_true, not_true_eq_false, implies_true, b2iT, b2iF, i1n0, i0n1, Option.isSome_some, Option.isSome_none, Option.map_some, Option.map_none, reduceCtorEq, b2i_bz]
  exact hk _ h5 (FrM_tr (FrM_tr (FrM_tr (FrM_tr (FrM_I (by decide)) (FrM_I (by decide))) (FrM_I (by decide))) (FrM_I (by decide))) (FrM_I (by decide))) (fun a h13 h14 h15 h16 h17 => agr_tr (agr_tr (agr_tr (agr_tr (agr_sI h13) (agr_sI h14)) (agr_sI h15)) (agr_sI h16)) (agr_sI h17))
theorem M_recode_l (hI : Inv S) (k : Int32 → MM → Prop) (σ0 : MM) (hk : ∀ σ1, RepM t q (rcF S (2 * mN S 2)).1 σ1 → FrM q σ0 σ1 → k (nI (rcF S (2 * mN S 2)).2) σ1) : ∀ d i (σ : MM), i + d = 2 * mN S 2 → RepM t q (rcF S i).1 σ → FrM q σ0 σ → wX4_recode_4 k t (d + 1) (nI (rcF S i).2) (nI i) σ := by
  have hA := Inv_A hI
  intro d
  induction d with
  | zero =>
    intro i σ hi h hf
    have : i = 2 * mN S 2 := by omega
    subst this
    have e2 : mN (rcF S (2 * mN S 2)).1 2 = mN S 2 := by rw [(rcF_inv hI _).2]
    unfold wX4_recode_4
    simp only [RepM_K h, RepM_nA h, e2, two_nA hI, show nI (2 * mN S 2) ≤ nI (2 * mN S 2) from nI_le (Nat.le_refl _) (by omega), true_and, and_true, forall_eq, forall_eq', Option.some.injEq, exists_eq_left', false_implies, true_implies, forall_const, not_false_eq_true, not_true_eq_false, implies_true, b2iT, b2iF, i1n0, i0n1, Option.isSome_some, Option.isSome_none, Option.map_some, Option.map_none, reduceCtorEq, b2i_bz]
    exact hk σ h hf
  | succ d ih =>
    intro i σ hi h hf
    have hi2 : i < 160 := by omega
    have hT := (rcF_inv hI i).1
    have e2 : mN (rcF S i).1 2 = mN S 2 := by rw [(rcF_inv hI _).2]
    have e1 : ¬ nI (2 * mN S 2) ≤ nI i := nI_ge (by omega) (by omega)
    unfold wX4_recode_4
    simp only [RepM_K h, RepM_nA h, e2, two_nA hI, e1, eM_isItem h hT, vT_is hi2, nI_1, true_and, and_true, forall_eq, forall_eq', Option.some.injEq, exists_eq_left', false_implies, true_implies, forall_const, not_false_eq_true, not_true_eq_false, implies_true, b2iT, b2iF, i1n0, i0n1, Option.isSome_some, Option.isSome_none, Option.map_some, Option.map_none, reduceCtorEq, b2i_bz]
    by_cases hp : prs (rcF S i).1 i = true
    · simp only [hp, true_and, and_true, forall_eq, forall_eq', Option.some.injEq, exists_eq_left', false_implies, true_implies, forall_const, not_false_eq_true, not_true_eq_false, implies_true, b2iT, b2iF, i1n0, i0n1, Option.isSome_some, Option.isSome_none, Option.map_some, Option.map_none, reduceCtorEq, b2i_bz]
      refine M_isStale h hT hi2 _ (fun σ1 g f => ?_)
      cases hs : sta (rcF S i).1 i with
      | true =>
        simp only [RepM_K g, true_and, and_true, forall_eq, forall_eq', Option.some.injEq, exists_eq_left', false_implies, true_implies, forall_const, not_false_eq_true, not_true_eq_false, implies_true, b2iT, b2iF, i1n0, i0n1, Option.isSome_some, Option.isSome_none, Option.map_some, Option.map_none, reduceCtorEq, b2i_bz]
        refine M_anew g hi2 _ (fun σ2 g2 f2 => ?_)
        have gg := ih (i + 1) σ2 (by omega)
        rw [rcF_t hp hs] at gg
        simp only at gg
        exact gg g2 (FrM_tr hf (FrM_tr f f2))
      | false =>
        have gg := ih (i + 1) σ1 (by omega)
        rw [rcF_f (by rw [hs]; simp)] at gg
        simp only [true_and, and_true, forall_eq, forall_eq', Option.some.injEq, exists_eq_left', false_implies, true_implies, forall_const, not_false_eq_true, not_true_eq_false, implies_true, b2iT, b2iF, i1n0, i0n1, Option.isSome_some, Option.isSome_none, Option.map_some, Option.map_none, reduceCtorEq, b2i_bz]
        exact gg g (FrM_tr hf f)
    · have hp2 : prs (rcF S i).1 i = false := by simpa using hp
      have gg := ih (i + 1) σ (by omega)
      rw [rcF_f (by rw [hp2]; rfl)] at gg
      simp only [hp2, true_and, and_true, forall_eq, forall_eq', Option.some.injEq, exists_eq_left', false_implies, true_implies, forall_const, not_false_eq_true, not_true_eq_false, implies_true, b2iT, b2iF, i1n0, i0n1, Option.isSome_some, Option.isSome_none, Option.map_some, Option.map_none, reduceCtorEq, b2i_bz]
      exact gg h hf
theorem M_recode (h : RepM t q S σ) (hI : Inv S) (k : Int32 → MM → Prop) (hk : ∀ σ1, RepM t q (fRecode S).2 σ1 → FrM q σ σ1 → k (fRecode S).1 σ1) : wX4_recode t σ k := by
  unfold fRecode at hk
  rw [rcF_160 hI] at hk
  exact ⟨2 * mN S 2 + 1, M_recode_l hI k σ hk (2 * mN S 2) 0 σ (by omega) h (FrM_refl q σ)⟩
end PM
section PC
variable {u : Nat} {q ia ra : Nat → Nat} {S σ : MM} {sf : Nat → Int64}
theorem C_likeness (h : RepC u q ia ra S (setS S) σ) (x y : Int32) (k : Int32 → MM → Prop) (hk : k (fLikeness S x y) σ) : wX3_likeness u x y σ k := by
  unfold wX3_likeness
  unfold fLikeness at hk
  simp only [eC_itemAt h, RepC_K h, true_and, and_true, forall_eq, forall_eq', Option.some.injEq, exists_eq_left', false_implies, true_implies, forall_const, not_false_eq_true, not_true_eq_false, implies_true, b2iT, b2iF, i1n0, i0n1, Option.isSome_some, Option.isSome_none, Option.map_some, Option.map_none, reduceCtorEq, b2i_bz]
  cases hx : vT S x with
  | none => rw [hx] at hk; simp only [true_and, and_true, forall_eq, forall_eq', Option.some.injEq, exists_eq_left', false_implies, true_implies, forall_const, not_false_eq_true, not_true_eq_false, implies_true, b2iT, b2iF, i1n0, i0n1, Option.isSome_some, Option.isSome_none, Option.map_some, Option.map_none, reduceCtorEq, b2i_bz]; exact hk
  | some i =>
    cases hy : vT S y with
    | none => rw [hx, hy] at hk; simp only [true_and, and_true, forall_eq, forall_eq', Option.some.injEq, exists_eq_left', false_implies, true_implies, forall_const, not_false_eq_true, not_true_eq_false, implies_true, b2iT, b2iF, i1n0, i0n1, Option.isSome_some, Option.isSome_none, Option.map_some, Option.map_none, reduceCtorEq, b2i_bz]; exact hk
    | some j =>
      rw [hx, hy] at hk
      obtain ⟨hp, hi, rfl⟩ := vT_some hx
      obtain ⟨hp2, hj, rfl⟩ := vT_some hy
      simp only [RepC_tK h i hp, true_and, and_true, forall_eq, forall_eq', Option.some.injEq, exists_eq_left', false_implies, true_implies, forall_const, not_false_eq_true, not_true_eq_false, implies_true, b2iT, b2iF, i1n0, i0n1, Option.isSome_some, Option.isSome_none, Option.map_some, Option.map_none, reduceCtorEq, b2i_bz]
      exact C_likenessTo h hp hp2 _ hk
theorem C_five (h : RepC u q ia ra S sf σ) {n : Nat} (hp : prs S n = true) (a b c d e : Int32) : RepC u q ia ra (stI S n a b c d e) sf (sI (sI (sI (sI (sI σ (ia n) 4 a) (ia n) 5 b) (ia n) 6 c) (ia n) 7 d) (ia n) 8 e) :=
  RepC_t8w (j := n) (RepC_t7w (j := n) (RepC_t6w (j := n) (RepC_t5w (j := n) (RepC_t4w (j := n) h hp a) hp b) hp c) hp d) hp e
theorem C_renew (h : RepC u q ia ra S sf σ) {n : Nat} (hp : prs S n = true) (k : MM → Prop) (hk : ∀ σ1, RepC u q ia ra (stI S n 0 (-1) (-1) (-1) (-1)) sf σ1 → FrC q σ σ1 → k σ1) : wX0_renew (ia n) σ k := by
  have k1 : mK σ (ia n) < 5 := by rw [RepC_tK h n hp]; decide
  unfold wX0_renew
  simp only [RepC_tK h n hp, true_and, and_true, forall_eq, forall_eq', Option.some.injEq, exists_eq_left', false_implies, true_implies, forall_const, not_false_eq_true, not_true_eq_false, implies_true, b2iT, b2iF, i1n0, i0n1, Option.isSome_some, Option.isSome_none, Option.map_some, Option.map_none, reduceCtorEq, b2i_bz]
  exact hk _ (C_five h hp 0 (-1) (-1) (-1) (-1)) (FrC_tr (FrC_tr (FrC_tr (FrC_tr (FrC_oI k1) (FrC_oI k1)) (FrC_oI k1)) (FrC_oI k1)) (FrC_oI k1))
theorem C_recode_l (hI : Inv S) (k : Int32 → MM → Prop) (σ0 : MM) (hk : ∀ σ1, RepC u q ia ra (rcF S 160).1 (setS (rcF S 160).1) σ1 → FrC q σ0 σ1 → k (nI (rcF S 160).2) σ1) : ∀ d i (σ : MM), i + d = 160 → RepC u q ia ra (rcF S i).1 (setS (rcF S i).1) σ → FrC q σ0 σ → wX3_recode_4 k u (d + 1) (nI (rcF S i).2) (nI i) σ := by
  intro d
  induction d with
  | zero =>
    intro i σ hi h hf
    have : i = 160 := by omega
    subst this
    unfold wX3_recode_4
    simp only [RepC_K h, RepC_r5 h, RepC_k5 h, RepC_n5 h, RepC_i5 h, le160, true_and, and_true, forall_eq, forall_eq', Option.some.injEq, exists_eq_left', false_implies, true_implies, forall_const, not_false_eq_true, not_true_eq_false, implies_true, b2iT, b2iF, i1n0, i0n1, Option.isSome_some, Option.isSome_none, Option.map_some, Option.map_none, reduceCtorEq, b2i_bz]
    exact hk σ h hf
  | succ d ih =>
    intro i σ hi h hf
    have hT := (rcF_inv hI i).1
    have e1 : ¬ nI 160 ≤ nI i := nI_ge (by omega) (by decide)
    unfold wX3_recode_4
    simp only [e1, RepC_K h, RepC_r5 h, RepC_k5 h, RepC_n5 h, RepC_i5 h, ix_nI (show i < 2 ^ 31 by omega), vp_in_nI (show i < 160 by omega) (by decide), nI_1, true_and, and_true, forall_eq, forall_eq', Option.some.injEq, exists_eq_left', false_implies, true_implies, forall_const, not_false_eq_true, not_true_eq_false, implies_true, b2iT, b2iF, i1n0, i0n1, Option.isSome_some, Option.isSome_none, Option.map_some, Option.map_none, reduceCtorEq, b2i_bz]
    by_cases hp : prs (rcF S i).1 i = true
    · simp only [hp, if_true, true_and, and_true, forall_eq, forall_eq', Option.some.injEq, exists_eq_left', false_implies, true_implies, forall_const, not_false_eq_true, not_true_eq_false, implies_true, b2iT, b2iF, i1n0, i0n1, Option.isSome_some, Option.isSome_none, Option.map_some, Option.map_none, reduceCtorEq, b2i_bz]
      refine C_isStale h hT hp _ ?_
      cases hs : sta (rcF S i).1 i with
      | true =>
        simp only [RepC_K h, RepC_r5 h, RepC_k5 h, RepC_n5 h, RepC_i5 h, hp, if_true, RepC_tK h i hp, vp_in_nI (show i < 160 by omega) (by decide), true_and, and_true, forall_eq, forall_eq', Option.some.injEq, exists_eq_left', false_implies, true_implies, forall_const, not_false_eq_true, not_true_eq_false, implies_true, b2iT, b2iF, i1n0, i0n1, Option.isSome_some, Option.isSome_none, Option.map_some, Option.map_none, reduceCtorEq, b2i_bz]
        refine C_renew h hp _ (fun σ2 g2 f2 => ?_)
        have gg := ih (i + 1) σ2 (by omega)
        rw [rcF_t hp hs] at gg
        simp only at gg
        exact gg g2 (FrC_tr hf f2)
      | false =>
        have gg := ih (i + 1) σ (by omega)
        rw [rcF_f (by rw [hs]; simp)] at gg
        simp only [true_and, and_true, forall_eq, forall_eq', Option.some.injEq, exists_eq_left', false_implies, true_implies, forall_const, not_false_eq_true, not_true_eq_false, implies_true, b2iT, b2iF, i1n0, i0n1, Option.isSome_some, Option.isSome_none, Option.map_some, Option.map_none, reduceCtorEq, b2i_bz]
        exact gg h hf
    · have hp2 : prs (rcF S i).1 i = false := by simpa using hp
      have gg := ih (i + 1) σ (by omega)
      rw [rcF_f (by rw [hp2]; rfl)] at gg
      simp only [hp2, Bool.false_eq_true, if_false]
      unfold wX3_isStale
      simp only [true_and, and_true, forall_eq, forall_eq', Option.some.injEq, exists_eq_left', false_implies, true_implies, forall_const, not_false_eq_true, not_true_eq_false, implies_true, b2iT, b2iF, i1n0, i0n1, Option.isSome_some, Option.isSome_none, Option.map_some, Option.map_none, reduceCtorEq, b2i_bz]
      exact gg h hf
theorem C_recode (h : RepC u q ia ra S (setS S) σ) (hI : Inv S) (k : Int32 → MM → Prop) (hk : ∀ σ1, RepC u q ia ra (fRecode S).2 (setS (fRecode S).2) σ1 → FrC q σ σ1 → k (fRecode S).1 σ1) : wX3_recode u σ k := by
  unfold fRecode at hk
  simp only at hk
  refine ⟨160 + 1, ?_⟩
  exact C_recode_l hI k σ hk 160 0 σ (by omega) h (FrC_refl q σ)
end PC
