def pg (S : MM) (j : Nat) : Int32 := if rS S j (-1) = -2 then kS S j else rS S j (-1)
def pw (S : MM) (j : Nat) : Int32 := if rS S j (-1) = -2 then 1 else 0
def pb (S : MM) (j : Nat) : Int32 := if rS S j (-1) = -2 then kB S j else lS S j (-1)
def cP (S : MM) (j : Nat) (x : Int32) : Int32 := if pg S j < 0 then -1 else x
theorem nI_nneg {n : Nat} (h : n < 2 ^ 31) : ¬ nI n < 0 := fun e => by
  rw [Int32.lt_iff_toInt_lt, nI_toInt h] at e
  have : (0 : Int32).toInt = 0 := rfl
  omega
theorem nI_0le {n : Nat} (h : n < 2 ^ 31) : (0 : Int32) ≤ nI n := Int32.not_lt.mp (nI_nneg h)
theorem rS_is {S : MM} (hI : Inv S) (j : Nat) (w : Int32) : (rS S j w = -2 ∧ lS S j w = -1) ∨ ∃ l, l < mN S 3 ∧ lS S j w = nI l ∧ (rS S j w = -5 ∨ ∃ c, c < mN S 0 ∧ rS S j w = nI c) := by
  unfold rS lS
  rcases byR_inv hI j w (mN S 3) with ⟨h1, h2, _⟩ | ⟨l, h1, h2, _, _, h5⟩
  · exact Or.inl ⟨h2, by rw [h1]⟩
  · refine Or.inr ⟨l, h1, by rw [h2], ?_⟩
    rw [h5]
    split
    · exact Or.inl rfl
    · exact Or.inr (Inv_rc hI l h1)
theorem pg_is {S : MM} (hI : Inv S) (j : Nat) : pg S j = -2 ∨ pg S j = -5 ∨ ∃ c, c < mN S 0 ∧ pg S j = nI c := by
  unfold pg
  split
  · by_cases h : kS S j = -2
    · exact Or.inl h
    · obtain ⟨c, hc, e, _⟩ := kB_is hI h
      exact Or.inr (Or.inr ⟨c, hc, e⟩)
  · rename_i hn
    rcases rS_is hI j (-1) with ⟨h1, _⟩ | ⟨_, _, _, h | h⟩
    · exact absurd h1 hn
    · exact Or.inr (Or.inl h)
    · exact Or.inr (Or.inr h)
def dF (S : MM) : Nat → MM × Nat
  | 0 => (S, 0)
  | n + 1 => if prs S n && !decide (mI (dF S n).1 6 n = 1) then (if pg S n < 0 then (sI (dF S n).1 6 n 2, (dF S n).2) else (stI (dF S n).1 n 1 (pg S n) (pw S n) (pb S n) (-1), (dF S n).2 + 1)) else dF S n
def fDay (S : MM) : Int32 × MM := (nI (dF S 160).2, (dF S 160).1)
theorem dF_f {S : MM} {n : Nat} (h : (prs S n && !decide (mI (dF S n).1 6 n = 1)) = false) : dF S (n + 1) = dF S n := by
  show (if _ then _ else _) = _
  rw [h]; rfl
theorem dF_d {S : MM} {n : Nat} (h : (prs S n && !decide (mI (dF S n).1 6 n = 1)) = true) (h2 : pg S n < 0) : dF S (n + 1) = (sI (dF S n).1 6 n 2, (dF S n).2) := by
  show (if _ then _ else _) = _
  rw [h, if_pos h2]; rfl
theorem dF_t {S : MM} {n : Nat} (h : (prs S n && !decide (mI (dF S n).1 6 n = 1)) = true) (h2 : ¬ pg S n < 0) : dF S (n + 1) = (stI (dF S n).1 n 1 (pg S n) (pw S n) (pb S n) (-1), (dF S n).2 + 1) := by
  show (if _ then _ else _) = _
  rw [h, if_neg h2]; rfl
theorem Inv_doubt {T : MM} (hI : Inv T) {n : Nat} (hp : prs T n = true) (h : ¬ mI T 6 n = 1) : Inv (sI T 6 n 2) := by
  refine ⟨(by have e := Inv_C hI; exact e), (by have e := Inv_O hI; exact e), (by have e := Inv_A hI; exact e), (by have e := Inv_R hI; exact e), (by have e := Inv_ab hI; exact e), (by have e := Inv_ob hI; exact e), (by have e := Inv_st hI; exact e), (by have e := Inv_so hI; exact e), (by have e := Inv_tr hI; exact e), (by have e := Inv_sc hI; exact e), ?_, (by have e := Inv_ra hI; exact e), (by have e := Inv_rc hI; exact e), (by have e := Inv_rt hI; exact e), (by have e := Inv_rd hI; exact e), (by have e := Inv_rz hI; exact e), (by have e := Inv_le hI; exact e), (by have e := Inv_ga hI; exact e), (by have e := Inv_ca hI; exact e)⟩
  intro j hj
  have hj2 : prs T j = true := hj
  show ((sI T 6 n 2).2.2.1 6 j = 1 ∧ _) ∨ _
  have e6 : mI (sI T 6 n 2) 6 j = if j = n then 2 else mI T 6 j := rfl
  show (mI (sI T 6 n 2) 6 j = 1 ∧ (∃ c, c < mN T 0 ∧ mI T 7 j = nI c) ∧ (mI T 8 j = 0 ∨ mI T 8 j = 1 ∨ mI T 8 j = 2) ∧ (mI T 10 j = -1 ∨ ∃ c, c < mN T 0 ∧ mI T 10 j = nI c)) ∨ ((mI (sI T 6 n 2) 6 j = 0 ∨ mI (sI T 6 n 2) 6 j = 2) ∧ mI T 7 j = -1 ∧ mI T 8 j = -1 ∧ mI T 9 j = -1 ∧ mI T 10 j = -1)
  rw [e6]
  by_cases e : j = n
  · subst e
    rw [if_pos rfl]
    rcases Inv_it hI j hj2 with z | z
    · exact absurd z.1 h
    · exact Or.inr ⟨Or.inr rfl, z.2⟩
  · rw [if_neg e]
    exact Inv_it hI j hj2
theorem dF_inv {S : MM} (hI : Inv S) : ∀ n, Inv (dF S n).1 ∧ mN (dF S n).1 = mN S ∧ prs (dF S n).1 = prs S ∧ setS (dF S n).1 = setS S ∧ ∀ j, n ≤ j → mI (dF S n).1 6 j = mI S 6 j
  | 0 => ⟨hI, rfl, rfl, rfl, fun _ _ => rfl⟩
  | n + 1 => by
    obtain ⟨g1, g2, g3, g4, g5⟩ := dF_inv hI n
    by_cases h : (prs S n && !decide (mI (dF S n).1 6 n = 1)) = true
    · have h2 : prs S n = true ∧ ¬ mI (dF S n).1 6 n = 1 := by simpa using h
      by_cases hg : pg S n < 0
      · rw [dF_d h hg]
        refine ⟨Inv_doubt g1 (by rw [g3]; exact h2.1) h2.2, g2, g3, g4, fun j hj => ?_⟩
        have : mI (sI (dF S n).1 6 n 2) 6 j = if j = n then 2 else mI (dF S n).1 6 j := rfl
        show mI (sI (dF S n).1 6 n 2) 6 j = _
        rw [this, if_neg (by omega)]; exact g5 j (by omega)
      · rw [dF_t h hg]
        refine ⟨Inv_stI g1 (Or.inl ⟨rfl, ?_, ?_, Or.inl rfl⟩), g2, g3, g4, fun j hj => ?_⟩
        · rw [g2]
          rcases pg_is hI n with z | z | z
          · rw [z] at hg; exact absurd (by decide) hg
          · rw [z] at hg; exact absurd (by decide) hg
          · exact z
        · unfold pw; split
          · exact Or.inr (Or.inl rfl)
          · exact Or.inl rfl
        · show mI (stI (dF S n).1 n _ _ _ _ _) 6 j = _
          rw [stI_6, if_neg (by omega)]; exact g5 j (by omega)
    · have hf : (prs S n && !decide (mI (dF S n).1 6 n = 1)) = false := by simpa using h
      rw [dF_f hf]
      exact ⟨g1, g2, g3, g4, fun j hj => g5 j (by omega)⟩
theorem dF_out {S : MM} : ∀ d, dF S (2 * mN S 2 + d) = dF S (2 * mN S 2)
  | 0 => rfl
  | d + 1 => by
    have hf : (prs S (2 * mN S 2 + d) && !decide (mI (dF S (2 * mN S 2 + d)).1 6 (2 * mN S 2 + d) = 1)) = false := by
      rw [prs_out (by omega)]; rfl
    exact (dF_f hf).trans (dF_out d)
theorem dF_160 {S : MM} (hI : Inv S) : dF S 160 = dF S (2 * mN S 2) := by
  have hA := Inv_A hI
  have := dF_out (S := S) (160 - 2 * mN S 2)
  rw [show 2 * mN S 2 + (160 - 2 * mN S 2) = 160 by omega] at this
  exact this
theorem va_same {A : Type} {f : Nat → A} {k : Nat} {v : A} (h : f k = v) : va_up f k v = f := by
  funext j
  by_cases e : j = k
  · rw [e, va_up_self, h]
  · exact va_up_ne _ _ e
theorem sI_same {T : MM} {a k : Nat} {v : Int32} (h : mI T a k = v) : sI T a k v = T := by
  unfold sI
  rw [va_same (f := T.2.2.1 a) h, va_same (f := T.2.2.1) rfl]
section PM
variable {t : Nat} {q : Nat → Nat} {S σ : MM}
def mPl (q : Nat → Nat) (S σ : MM) (j : Nat) : Prop := prs S j = true → ¬ mI S 6 j = 1 → mI σ (q 30) j = pg S j ∧ mI σ (q 31) j = pw S j ∧ mI σ (q 32) j = pb S j
theorem M_day_2 (hI : Inv S) (k : Int32 → MM → Prop) (σ0 : MM) (hk : ∀ σ1, RepM t q (dF S (2 * mN S 2)).1 σ1 → FrM q σ0 σ1 → k (nI (dF S (2 * mN S 2)).2) σ1) : ∀ d i (σ : MM), i + d = 2 * mN S 2 → RepM t q (dF S i).1 σ → FrM q σ0 σ → (∀ j, i ≤ j → j < 2 * mN S 2 → mPl q S σ j) → wX4_day_114 k t (d + 1) (nI (dF S i).2) (nI i) σ := by
  have hA := Inv_A hI
  intro d
  induction d with
  | zero =>
    intro i σ hi h hf hm
    have : i = 2 * mN S 2 := by omega
    subst this
    have e2 : mN (dF S (2 * mN S 2)).1 2 = mN S 2 := by rw [(dF_inv hI _).2.1]
    unfold wX4_day_114
    simp only [RepM_K h, RepM_nA h, e2, two_nA hI, show nI (2 * mN S 2) ≤ nI (2 * mN S 2) from nI_le (Nat.le_refl _) (by omega), true_and, and_true, forall_eq, forall_eq', Option.some.injEq, exists_eq_left', false_implies, true_implies, forall_const, not_false_eq_true, not_true_eq_false, implies_true, b2iT, b2iF, i1n0, i0n1, Option.isSome_some, Option.isSome_none, Option.map_some, Option.map_none, reduceCtorEq, b2i_bz]
    exact hk σ h hf
  | succ d ih =>
    intro i σ hi h hf hm
    have hi2 : i < 160 := by omega
    obtain ⟨hT, e2, e3, e4, e5⟩ := dF_inv hI i
    have e1 : ¬ nI (2 * mN S 2) ≤ nI i := nI_ge (by omega) (by omega)
    unfold wX4_day_114
    simp only [RepM_K h, RepM_nA h, e2, two_nA hI, e1, eM_isItem h hT, vT_is hi2, e3, nI_1, true_and, and_true, forall_eq, forall_eq', Option.some.injEq, exists_eq_left', false_implies, true_implies, forall_const, not_false_eq_true, not_true_eq_false, implies_true, b2iT, b2iF, i1n0, i0n1, Option.isSome_some, Option.isSome_none, Option.map_some, Option.map_none, reduceCtorEq, b2i_bz]
    have skip : (prs S i && !decide (mI (dF S i).1 6 i = 1)) = false → wX4_day_114 k t (d + 1) (nI (dF S i).2) (nI (i + 1)) σ := fun hf2 => by
      have gg := ih (i + 1) σ (by omega)
      rw [dF_f hf2] at gg
      exact gg h hf (fun j hj => hm j (by omega))
    by_cases hp : prs S i = true
    · simp only [hp, RepM_r13 h, RepM_k13 h, RepM_n13 h, RepM_i13 h, ix_nI (show i < 2 ^ 31 by omega), vp_in_nI hi2 (by decide), true_and, and_true, forall_eq, forall_eq', Option.some.injEq, exists_eq_left', false_implies, true_implies, forall_const, not_false_eq_true, not_true_eq_false, implies_true, b2iT, b2iF, i1n0, i0n1, Option.isSome_some, Option.isSome_none, Option.map_some, Option.map_none, reduceCtorEq, b2i_bz]
      refine ⟨fun hs => ?_, fun hs => skip (by rw [hs]; simp)⟩
      have ht : (prs S i && !decide (mI (dF S i).1 6 i = 1)) = true := by simp [hp, hs]
      have hs0 : ¬ mI S 6 i = 1 := by rw [← e5 i (Nat.le_refl _)]; exact hs
      obtain ⟨m1, m2, m3⟩ := hm i (Nat.le_refl _) (by omega) hp hs0
      have h1 := RepM_w13 h i 2
      have n0 : mI (sI σ (q 13) i 2) (q 30) = mI σ (q 30) := mI_sI_ne (RepM_ne h 30 13 (by decide) (by decide) (by decide))
      have n1 : mI (sI σ (q 13) i 2) (q 31) = mI σ (q 31) := mI_sI_ne (RepM_ne h 31 13 (by decide) (by decide) (by decide))
      have n2 : mI (sI σ (q 13) i 2) (q 32) = mI σ (q 32) := mI_sI_ne (RepM_ne h 32 13 (by decide) (by decide) (by decide))
      simp only [RepM_r30 h1, RepM_k30 h1, RepM_n30 h1, RepM_r31 h1, RepM_k31 h1, RepM_n31 h1, RepM_r32 h1, RepM_k32 h1, RepM_n32 h1, vp_in_nI hi2 (by decide), n0, n1, n2, m1, m2, m3, true_and, and_true, forall_eq, forall_eq', Option.some.injEq, exists_eq_left', false_implies, true_implies, forall_const, not_false_eq_true, not_true_eq_false, implies_true, b2iT, b2iF, i1n0, i0n1, Option.isSome_some, Option.isSome_none, Option.map_some, Option.map_none, reduceCtorEq, b2i_bz]
      refine ⟨fun hg => ?_, fun hg => ?_⟩
      · refine M_become h1 hi2 _ _ _ _ (fun σ2 g2 f2 f5 => ?_)
        have gg := ih (i + 1) σ2 (by omega)
        rw [dF_t ht (Int32.not_lt.mpr hg)] at gg
        simp only at gg
        have es : stI (sI (dF S i).1 6 i 2) i 1 (pg S i) (pw S i) (pb S i) (-1) = stI (dF S i).1 i 1 (pg S i) (pw S i) (pb S i) (-1) := by
          unfold stI; rw [sI_sI]
        rw [es] at g2
        refine gg g2 (FrM_tr hf (FrM_tr (FrM_I (by decide)) f2)) (fun j hj hj2 hp2 hs2 => ?_)
        have ar : ∀ m, m ∈ slM → m ≠ 13 → m ≠ 14 → m ≠ 15 → m ≠ 16 → m ≠ 17 → mI σ2 (q m) = mI (sI σ (q 13) i 2) (q m) := fun m hm2 z1 z2 z3 z4 z5 => (f5 (q m) (RepM_ne h m 13 hm2 (by decide) z1) (RepM_ne h m 14 hm2 (by decide) z2) (RepM_ne h m 15 hm2 (by decide) z3) (RepM_ne h m 16 hm2 (by decide) z4) (RepM_ne h m 17 hm2 (by decide) z5)).2.2.1
        rw [ar 30 (by decide) (by decide) (by decide) (by decide) (by decide) (by decide), ar 31 (by decide) (by decide) (by decide) (by decide) (by decide) (by decide), ar 32 (by decide) (by decide) (by decide) (by decide) (by decide) (by decide), n0, n1, n2]
        exact hm j (by omega) hj2 hp2 hs2
      · have gg := ih (i + 1) (sI σ (q 13) i 2) (by omega)
        rw [dF_d ht (Int32.not_le.mp hg)] at gg
        simp only at gg
        refine gg h1 (FrM_tr hf (FrM_I (by decide))) (fun j hj hj2 hp2 hs2 => ?_)
        rw [n0, n1, n2]
        exact hm j (by omega) hj2 hp2 hs2
    · have hp2 : prs S i = false := by simpa using hp
      simp only [hp2, true_and, and_true, forall_eq, forall_eq', Option.some.injEq, exists_eq_left', false_implies, true_implies, forall_const, not_false_eq_true, not_true_eq_false, implies_true, b2iT, b2iF, i1n0, i0n1, Option.isSome_some, Option.isSome_none, Option.map_some, Option.map_none, reduceCtorEq, b2i_bz]
      exact skip (by rw [hp2]; rfl)
theorem gm_25 {l : Nat} (hl : l < 2 ^ 31) : mI (gm t σ (nI l)) t 25 = nI l := by
  unfold gm
  rw [if_neg (nI_nm1 hl), mI_sI, if_pos ⟨rfl, rfl⟩]
theorem gm_ne (l : Int32) {a : Nat} (h : a ≠ t) : agr σ (gm t σ l) a := by
  unfold gm
  split
  · exact agr_refl σ a
  · exact agr_sI h
theorem three_w (h : RepM t q S σ) (i : Nat) (x y z : Int32) : RepM t q S (sI (sI (sI σ (q 30) i x) (q 31) i y) (q 32) i z) ∧ FrM q σ (sI (sI (sI σ (q 30) i x) (q 31) i y) (q 32) i z) ∧ (mI (sI (sI (sI σ (q 30) i x) (q 31) i y) (q 32) i z) (q 30) = va_up (mI σ (q 30)) i x) ∧ (mI (sI (sI (sI σ (q 30) i x) (q 31) i y) (q 32) i z) (q 31) = va_up (mI σ (q 31)) i y) ∧ (mI (sI (sI (sI σ (q 30) i x) (q 31) i y) (q 32) i z) (q 32) = va_up (mI σ (q 32)) i z) := by
  have n1 := RepM_ne h 30 31 (by decide) (by decide) (by decide)
  have n2 := RepM_ne h 30 32 (by decide) (by decide) (by decide)
  have n3 := RepM_ne h 31 32 (by decide) (by decide) (by decide)
  refine ⟨RepM_w32 (RepM_w31 (RepM_w30 h i x) i y) i z, FrM_tr (FrM_tr (FrM_I (by decide)) (FrM_I (by decide))) (FrM_I (by decide)), ?_, ?_, ?_⟩
  · rw [mI_sI_ne n2, mI_sI_ne n1, mI_sI_self]
  · rw [mI_sI_ne n3, mI_sI_self, mI_sI_ne (Ne.symm n1)]
  · rw [mI_sI_self, mI_sI_ne (Ne.symm n3), mI_sI_ne (Ne.symm n2)]
theorem M_day_1 (hI : Inv S) (k : Int32 → MM → Prop) (σ0 : MM) (hk : ∀ σ1, RepM t q (dF S (2 * mN S 2)).1 σ1 → FrM q σ0 σ1 → k (nI (dF S (2 * mN S 2)).2) σ1) : ∀ d i (σ : MM), i + d = 2 * mN S 2 → RepM t q S σ → FrM q σ0 σ → (∀ j, j < i → mPl q S σ j) → wX4_day_2 k t (d + 1) (nI i) σ := by
  have hA := Inv_A hI
  have hR := Inv_R hI
  intro d
  induction d with
  | zero =>
    intro i σ hi h hf hm
    have : i = 2 * mN S 2 := by omega
    subst this
    unfold wX4_day_2
    simp only [RepM_K h, RepM_nA h, two_nA hI, show nI (2 * mN S 2) ≤ nI (2 * mN S 2) from nI_le (Nat.le_refl _) (by omega), true_and, and_true, forall_eq, forall_eq', Option.some.injEq, exists_eq_left', false_implies, true_implies, forall_const, not_false_eq_true, not_true_eq_false, implies_true, b2iT, b2iF, i1n0, i0n1, Option.isSome_some, Option.isSome_none, Option.map_some, Option.map_none, reduceCtorEq, b2i_bz]
    exact ⟨2 * mN S 2 + 1, M_day_2 hI k σ0 hk (2 * mN S 2) 0 σ (by omega) h hf (fun j _ hj => hm j hj)⟩
  | succ d ih =>
    intro i σ hi h hf hm
    have hi2 : i < 160 := by omega
    have e1 : ¬ nI (2 * mN S 2) ≤ nI i := nI_ge (by omega) (by omega)
    have upd : ∀ j, j < i + 1 → j ≠ i → ∀ f : Nat → Int32, ∀ v, va_up f i v j = f j := fun j _ hne f v => va_up_ne _ _ hne
    unfold wX4_day_2
    simp only [RepM_K h, RepM_nA h, two_nA hI, e1, eM_isItem h hI, vT_is hi2, nI_1, true_and, and_true, forall_eq, forall_eq', Option.some.injEq, exists_eq_left', false_implies, true_implies, forall_const, not_false_eq_true, not_true_eq_false, implies_true, b2iT, b2iF, i1n0, i0n1, Option.isSome_some, Option.isSome_none, Option.map_some, Option.map_none, reduceCtorEq, b2i_bz]
    by_cases hp : prs S i = true
    · simp only [hp, RepM_r13 h, RepM_k13 h, RepM_n13 h, RepM_i13 h, RepM_r30 h, ix_nI (show i < 2 ^ 31 by omega), vp_in_nI hi2 (by decide), true_and, and_true, forall_eq, forall_eq', Option.some.injEq, exists_eq_left', false_implies, true_implies, forall_const, not_false_eq_true, not_true_eq_false, implies_true, b2iT, b2iF, i1n0, i0n1, Option.isSome_some, Option.isSome_none, Option.map_some, Option.map_none, reduceCtorEq, b2i_bz]
      refine ⟨fun hs => ?_, fun hs => ih (i + 1) σ (by omega) h hf (fun j hj => ?_)⟩
      · refine M_byRules h hI hi2 _ _ ?_
        have h1 := RepM_gm h (lS S i (-1))
        have f1 := FrM_gm h (lS S i (-1))
        have a1 : ∀ m, m ∈ slM → m ≠ 7 → t ≠ q m → mI (gm t σ (lS S i (-1))) (q m) = mI σ (q m) := fun m _ _ z => (gm_ne (lS S i (-1)) (Ne.symm z)).2.2.1
        have b30 := a1 30 (by decide) (by decide) (RepM_tq30 h)
        have b31 := a1 31 (by decide) (by decide) (RepM_tq31 h)
        have b32 := a1 32 (by decide) (by decide) (RepM_tq32 h)
        have h25 : ∀ l, l < mN S 3 → lS S i (-1) = nI l → mI (gm t σ (lS S i (-1))) t 25 = nI l := fun l hl e => by rw [e]; exact gm_25 (by omega)
        generalize hG : gm t σ (lS S i (-1)) = G at h1 f1 b30 b31 b32 h25 ⊢
        have h2 := RepM_w30 h1 i (rS S i (-1))
        have h3 := RepM_w31 h2 i 0
        have e25 : mI (sI (sI G (q 30) i (rS S i (-1))) (q 31) i 0) t 25 = mI G t 25 := by rw [mI_sI_ne (RepM_tq31 h), mI_sI_ne (RepM_tq30 h)]
        obtain ⟨h4, f4, c30, c31, c32⟩ := three_w h1 i (rS S i (-1)) 0 (mI G t 25)
        simp only [RepM_k30 h1, RepM_n30 h1, RepM_K h2, RepM_r31 h2, RepM_k31 h2, RepM_n31 h2, RepM_r32 h3, RepM_k32 h3, RepM_n32 h3, e25, RepM_r30 h4, RepM_k30 h4, RepM_n30 h4, c30, va_up_self, ix_nI (show i < 2 ^ 31 by omega), vp_in_nI hi2 (by decide), true_and, and_true, forall_eq, forall_eq', Option.some.injEq, exists_eq_left', false_implies, true_implies, forall_const, not_false_eq_true, not_true_eq_false, implies_true, b2iT, b2iF, i1n0, i0n1, Option.isSome_some, Option.isSome_none, Option.map_some, Option.map_none, reduceCtorEq, b2i_bz]
        generalize hH : sI (sI (sI G (q 30) i (rS S i (-1))) (q 31) i 0) (q 32) i (mI G t 25) = H at h4 f4 c30 c31 c32 ⊢
        refine ⟨fun er => ?_, fun er => ?_⟩
        · refine M_byLikeness h4 hI hi2 _ (fun σ5 ha => ?_)
          have h5 := ha.1
          have d30 : mI σ5 (q 30) = mI H (q 30) := (ha.2.1 _ (Ne.symm (RepM_tq30 h))).2.2.1
          have d31 : mI σ5 (q 31) = mI H (q 31) := (ha.2.1 _ (Ne.symm (RepM_tq31 h))).2.2.1
          have d32 : mI σ5 (q 32) = mI H (q 32) := (ha.2.1 _ (Ne.symm (RepM_tq32 h))).2.2.1
          have h6 := RepM_w30 h5 i (kS S i)
          have h7 := RepM_w31 h6 i 1
          have e29 : mI (sI (sI σ5 (q 30) i (kS S i)) (q 31) i 1) t 29 = kB S i := by rw [mI_sI_ne (RepM_tq31 h), mI_sI_ne (RepM_tq30 h)]; exact ha.2.2
          obtain ⟨h8, f8, g30, g31, g32⟩ := three_w h5 i (kS S i) 1 (kB S i)
          simp only [RepM_k30 h5, RepM_n30 h5, RepM_K h6, RepM_r31 h6, RepM_k31 h6, RepM_n31 h6, RepM_r32 h7, RepM_k32 h7, RepM_n32 h7, e29, ix_nI (show i < 2 ^ 31 by omega), vp_in_nI hi2 (by decide), true_and, and_true, forall_eq, forall_eq', Option.some.injEq, exists_eq_left', false_implies, true_implies, forall_const, not_false_eq_true, not_true_eq_false, implies_true, b2iT, b2iF, i1n0, i0n1, Option.isSome_some, Option.isSome_none, Option.map_some, Option.map_none, reduceCtorEq, b2i_bz]
          refine ih (i + 1) _ (by omega) h8 (FrM_tr hf (FrM_tr f1 (FrM_tr f4 (FrM_tr (FrM_1 (RepM_K h4) ha.2.1) f8)))) (fun j hj => ?_)
          unfold mPl
          rw [g30, g31, g32, d30, d31, d32, c30, c31, c32, b30, b31, b32]
          by_cases ej : j = i
          · subst ej
            rw [va_up_self, va_up_self, va_up_self]
            intro _ _
            unfold pg pw pb
            rw [if_pos er, if_pos er, if_pos er]
            exact ⟨rfl, rfl, rfl⟩
          · rw [upd j hj ej, upd j hj ej, upd j hj ej, upd j hj ej, upd j hj ej, upd j hj ej]
            exact hm j (by omega)
        · refine ih (i + 1) H (by omega) h4 (FrM_tr hf (FrM_tr f1 f4)) (fun j hj => ?_)
          unfold mPl
          rw [c30, c31, c32, b30, b31, b32]
          by_cases ej : j = i
          · subst ej
            rw [va_up_self, va_up_self, va_up_self]
            intro _ _
            unfold pg pw pb
            rw [if_neg er, if_neg er, if_neg er]
            rcases rS_is hI j (-1) with z | ⟨l, hl, el, _⟩
            · exact absurd z.1 er
            · rw [h25 l hl el, el]; exact ⟨rfl, rfl, rfl⟩
          · rw [upd j hj ej, upd j hj ej, upd j hj ej]
            exact hm j (by omega)
      · by_cases ej : j = i
        · rw [ej]; exact fun _ z => absurd hs z
        · exact hm j (by omega)
    · have hp2 : prs S i = false := by simpa using hp
      simp only [hp2, true_and, and_true, forall_eq, forall_eq', Option.some.injEq, exists_eq_left', false_implies, true_implies, forall_const, not_false_eq_true, not_true_eq_false, implies_true, b2iT, b2iF, i1n0, i0n1, Option.isSome_some, Option.isSome_none, Option.map_some, Option.map_none, reduceCtorEq, b2i_bz]
      refine ih (i + 1) σ (by omega) h hf (fun j hj => ?_)
      by_cases ej : j = i
      · rw [ej]; exact fun z => absurd z hp
      · exact hm j (by omega)
theorem M_day (h : RepM t q S σ) (hI : Inv S) (k : Int32 → MM → Prop) (hk : ∀ σ1, RepM t q (fDay S).2 σ1 → FrM q σ σ1 → k (fDay S).1 σ1) : wX4_day t σ k := by
  unfold fDay at hk
  rw [dF_160 hI] at hk
  simp only at hk
  exact ⟨2 * mN S 2 + 1, M_day_1 hI k σ hk (2 * mN S 2) 0 σ (by omega) h (FrM_refl q σ) (fun _ hj => absurd hj (by omega))⟩
end PM
