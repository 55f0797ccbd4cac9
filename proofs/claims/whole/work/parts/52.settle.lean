theorem lkP_2 (S : MM) (j i : Nat) : lkP S j 2 i = (prs S i && (decide (mI S 6 i = 2) && alk S i j)) := by
  unfold lkP
  rw [show decide ((2 : Int32) < 0) = false by decide, Bool.false_or]
theorem lkP_out {S : MM} {j i : Nat} {v : Int32} (h : 2 * mN S 2 ≤ i) : lkP S j v i = false := by unfold lkP; rw [prs_out h]; rfl
theorem cnt_160 {S : MM} (hI : Inv S) {p : Nat → Bool} (h : ∀ i, 2 * mN S 2 ≤ i → p i = false) : cnt p 160 = cnt p (2 * mN S 2) := by
  have := Inv_A hI
  exact cnt_to (by omega) (fun i hi _ => h i hi)
def rF (S : MM) : Nat → Int32 × Int32
  | 0 => (-2, 0)
  | n + 1 => if prs S n && decide (mI S 6 n = 2) then (if nI (cnt (lkP S n 2) 160) ≤ (rF S n).2 then rF S n else (nI n, nI (cnt (lkP S n 2) 160))) else rF S n
def fFirst (S : MM) : Int32 := (rF S 160).1
theorem rF_f {S : MM} {n : Nat} (h : (prs S n && decide (mI S 6 n = 2)) = false) : rF S (n + 1) = rF S n := by
  show (if _ then _ else _) = _
  rw [h]; rfl
theorem rF_s {S : MM} {n : Nat} (h : nI (cnt (lkP S n 2) 160) ≤ (rF S n).2) : rF S (n + 1) = rF S n := by
  show (if _ then _ else _) = _
  rw [if_pos h]; split <;> rfl
theorem rF_t {S : MM} {n : Nat} (h : (prs S n && decide (mI S 6 n = 2)) = true) (h2 : ¬ nI (cnt (lkP S n 2) 160) ≤ (rF S n).2) : rF S (n + 1) = (nI n, nI (cnt (lkP S n 2) 160)) := by
  show (if _ then _ else _) = _
  rw [h, if_neg h2]; rfl
theorem rF_out {S : MM} : ∀ d, rF S (2 * mN S 2 + d) = rF S (2 * mN S 2)
  | 0 => rfl
  | d + 1 => by
    have hf : (prs S (2 * mN S 2 + d) && decide (mI S 6 (2 * mN S 2 + d) = 2)) = false := by
      rw [prs_out (by omega)]; rfl
    exact (rF_f hf).trans (rF_out d)
theorem rF_160 {S : MM} (hI : Inv S) : rF S 160 = rF S (2 * mN S 2) := by
  have hA := Inv_A hI
  have := rF_out (S := S) (160 - 2 * mN S 2)
  rw [show 2 * mN S 2 + (160 - 2 * mN S 2) = 160 by omega] at this
  exact this
def sF (S : MM) (j : Nat) (c d : Int32) : Nat → MM
  | 0 => S
  | n + 1 => if lkP S j 2 n then stI (sF S j c d n) n 1 c 2 d (-1) else sF S j c d n
def fSettle (S : MM) (x y z : Int32) : Int32 × MM := match vT S x, vI 10 y, vI (mN S 0) z with
  | some j, some _, some _ => if mI S 6 j = 2 then (nI (cnt (lkP S j 2) 160), sF S j z y 160) else (-2, S)
  | _, _, _ => (-1, S)
theorem sF_t {S : MM} {j n : Nat} {c d : Int32} (h : lkP S j 2 n = true) : sF S j c d (n + 1) = stI (sF S j c d n) n 1 c 2 d (-1) := by
  show (if _ then _ else _) = _
  rw [h]; rfl
theorem sF_f {S : MM} {j n : Nat} {c d : Int32} (h : lkP S j 2 n = false) : sF S j c d (n + 1) = sF S j c d n := by
  show (if _ then _ else _) = _
  rw [h]; rfl
theorem sF_inv {S : MM} (hI : Inv S) (j : Nat) {c : Nat} (hc : c < mN S 0) (d : Int32) : ∀ n, Inv (sF S j (nI c) d n) ∧ mN (sF S j (nI c) d n) = mN S ∧ prs (sF S j (nI c) d n) = prs S ∧ setS (sF S j (nI c) d n) = setS S ∧ alk (sF S j (nI c) d n) = alk S ∧ ∀ i, n ≤ i → mI (sF S j (nI c) d n) 6 i = mI S 6 i
  | 0 => ⟨hI, rfl, rfl, rfl, rfl, fun _ _ => rfl⟩
  | n + 1 => by
    obtain ⟨g1, g2, g3, g4, g5, g6⟩ := sF_inv hI j hc d n
    cases h : lkP S j 2 n with
    | true =>
      rw [sF_t h]
      refine ⟨Inv_stI g1 (Or.inl ⟨rfl, ⟨c, by rw [g2]; exact hc, rfl⟩, Or.inr (Or.inr rfl), Or.inl rfl⟩), g2, g3, g4, g5, fun i hi => ?_⟩
      rw [stI_6, if_neg (by omega)]; exact g6 i (by omega)
    | false =>
      rw [sF_f h]
      exact ⟨g1, g2, g3, g4, g5, fun i hi => g6 i (by omega)⟩
theorem sF_out {S : MM} {j : Nat} {c d : Int32} : ∀ e, sF S j c d (2 * mN S 2 + e) = sF S j c d (2 * mN S 2)
  | 0 => rfl
  | e + 1 => by
    have hf : lkP S j 2 (2 * mN S 2 + e) = false := lkP_out (by omega)
    exact (sF_f hf).trans (sF_out e)
theorem sF_160 {S : MM} (hI : Inv S) {j : Nat} {c d : Int32} : sF S j c d 160 = sF S j c d (2 * mN S 2) := by
  have hA := Inv_A hI
  have := sF_out (S := S) (j := j) (c := c) (d := d) (160 - 2 * mN S 2)
  rw [show 2 * mN S 2 + (160 - 2 * mN S 2) = 160 by omega] at this
  exact this
section PM
variable {t : Nat} {q : Nat → Nat} {S σ : MM}
theorem M_first_l (h : RepM t q S σ) (hI : Inv S) (k : Int32 → MM → Prop) (hk : k (rF S (2 * mN S 2)).1 σ) : ∀ d i, i + d = 2 * mN S 2 → wX4_first_7 k t (d + 1) (rF S i).1 (rF S i).2 (nI i) σ := by
  have hA := Inv_A hI
  intro d
  induction d with
  | zero =>
    intro i hi
    have : i = 2 * mN S 2 := by omega
    subst this
    unfold wX4_first_7
    simp only [RepM_K h, RepM_nA h, two_nA hI, show nI (2 * mN S 2) ≤ nI (2 * mN S 2) from nI_le (Nat.le_refl _) (by omega), true_and, and_true, forall_eq, forall_eq', Option.some.injEq, exists_eq_left', false_implies, true_implies, forall_const, not_false_eq_true, not_true_eq_false, implies_true, b2iT, b2iF, i1n0, i0n1, Option.isSome_some, Option.isSome_none, Option.map_some, Option.map_none, reduceCtorEq, b2i_bz]
    exact hk
  | succ d ih =>
    intro i hi
    have hi2 : i < 160 := by omega
    have e1 : ¬ nI (2 * mN S 2) ≤ nI i := nI_ge (by omega) (by omega)
    have gg := ih (i + 1) (by omega)
    unfold wX4_first_7
    simp only [RepM_K h, RepM_nA h, two_nA hI, e1, eM_isItem h hI, vT_is hi2, nI_1, true_and, and_true, forall_eq, forall_eq', Option.some.injEq, exists_eq_left', false_implies, true_implies, forall_const, not_false_eq_true, not_true_eq_false, implies_true, b2iT, b2iF, i1n0, i0n1, Option.isSome_some, Option.isSome_none, Option.map_some, Option.map_none, reduceCtorEq, b2i_bz]
    by_cases hp : prs S i = true
    · simp only [hp, RepM_r13 h, RepM_k13 h, RepM_n13 h, RepM_i13 h, ix_nI (show i < 2 ^ 31 by omega), vp_in_nI hi2 (by decide), true_and, and_true, forall_eq, forall_eq', Option.some.injEq, exists_eq_left', false_implies, true_implies, forall_const, not_false_eq_true, not_true_eq_false, implies_true, b2iT, b2iF, i1n0, i0n1, Option.isSome_some, Option.isSome_none, Option.map_some, Option.map_none, reduceCtorEq, b2i_bz]
      refine ⟨fun hs => ?_, fun hs => ?_⟩
      · refine M_likesOf h hI hi2 2 _ ?_
        refine ⟨fun el => ⟨fun _ => ?_, fun z => absurd el z⟩, fun el => ⟨fun z => absurd z el, fun _ => ?_⟩⟩
        · rw [rF_s el] at gg; exact gg
        · rw [rF_t (by simp [hp, hs]) el] at gg
          simp only at gg
          exact gg
      · rw [rF_f (by simp [hs])] at gg; exact gg
    · have hp2 : prs S i = false := by simpa using hp
      simp only [hp2, true_and, and_true, forall_eq, forall_eq', Option.some.injEq, exists_eq_left', false_implies, true_implies, forall_const, not_false_eq_true, not_true_eq_false, implies_true, b2iT, b2iF, i1n0, i0n1, Option.isSome_some, Option.isSome_none, Option.map_some, Option.map_none, reduceCtorEq, b2i_bz]
      rw [rF_f (by simp [hp2])] at gg; exact gg
theorem M_first (h : RepM t q S σ) (hI : Inv S) (k : Int32 → MM → Prop) (hk : k (fFirst S) σ) : wX4_first t σ k := by
  unfold fFirst at hk
  rw [rF_160 hI] at hk
  exact ⟨2 * mN S 2 + 1, M_first_l h hI k hk (2 * mN S 2) 0 (by omega)⟩
theorem M_set99 (h : RepM t q S σ) {i : Nat} (hi : i < 160) (b : Bool) (n : Nat) (k : Int32 → MM → Prop) (g : Int32 → Int32 → Int32 → Int32 → Int32 → MM → Prop) (x1 x2 x3 : Int32) (hg : ∀ σ1, RepM t q S σ1 → FrM q σ σ1 → mI σ1 (q 33) = va_up (mI σ (q 33)) i (b2i b) → g x1 x2 x3 (nI (n + if b = true then 1 else 0)) (nI (i + 1)) σ1) : wX4_settle_99 k t g x1 x2 x3 (nI n) (nI i) (some (q 33)) (nI i) (b2i b) σ := by
  have h1 := RepM_w33 h i (b2i b)
  unfold wX4_settle_99
  have e : mI (sI σ (q 33) i (b2i b)) (q 33) i = b2i b := by rw [mI_sI, if_pos ⟨rfl, rfl⟩]
  simp only [RepM_k33 h, RepM_n33 h, RepM_K h1, RepM_r33 h1, RepM_k33 h1, RepM_n33 h1, ix_nI (show i < 2 ^ 31 by omega), vp_in_nI hi (by decide), e, nI_1, nI_p0, true_and, and_true, forall_eq, forall_eq', Option.some.injEq, exists_eq_left', false_implies, true_implies, forall_const, not_false_eq_true, not_true_eq_false, implies_true, b2iT, b2iF, i1n0, i0n1, Option.isSome_some, Option.isSome_none, Option.map_some, Option.map_none, reduceCtorEq, b2i_bz]
  have gg := hg _ h1 (FrM_I (by decide)) mI_sI_self
  cases b with
  | true => simp only [true_and, and_true, forall_eq, forall_eq', Option.some.injEq, exists_eq_left', false_implies, true_implies, forall_const, not_false_eq_true, not_true_eq_false, implies_true, b2iT, b2iF, i1n0, i0n1, Option.isSome_some, Option.isSome_none, Option.map_some, Option.map_none, reduceCtorEq, b2i_bz]; exact gg
  | false => simp only [true_and, and_true, forall_eq, forall_eq', Option.some.injEq, exists_eq_left', false_implies, true_implies, forall_const, not_false_eq_true, not_true_eq_false, implies_true, b2iT, b2iF, i1n0, i0n1, Option.isSome_some, Option.isSome_none, Option.map_some, Option.map_none, reduceCtorEq, b2i_bz]; exact gg
theorem M_settle_2 (hI : Inv S) {j : Nat} (hj : j < 160) {c : Nat} (hc : c < mN S 0) (y r : Int32) (k : Int32 → MM → Prop) (σ0 : MM) (hk : ∀ σ1, RepM t q (sF S j (nI c) y (2 * mN S 2)) σ1 → FrM q σ0 σ1 → k r σ1) : ∀ d i (σ : MM), i + d = 2 * mN S 2 → RepM t q (sF S j (nI c) y i) σ → FrM q σ0 σ → (∀ m, i ≤ m → m < 2 * mN S 2 → mI σ (q 33) m = b2i (lkP S j 2 m)) → wX4_settle_129 k t (d + 1) y (nI c) r (nI i) σ := by
  have hA := Inv_A hI
  intro d
  induction d with
  | zero =>
    intro i σ hi h hf hm
    have : i = 2 * mN S 2 := by omega
    subst this
    have e2 : mN (sF S j (nI c) y (2 * mN S 2)) 2 = mN S 2 := by rw [(sF_inv hI j hc y _).2.1]
    unfold wX4_settle_129
    simp only [RepM_K h, RepM_nA h, e2, two_nA hI, show nI (2 * mN S 2) ≤ nI (2 * mN S 2) from nI_le (Nat.le_refl _) (by omega), true_and, and_true, forall_eq, forall_eq', Option.some.injEq, exists_eq_left', false_implies, true_implies, forall_const, not_false_eq_true, not_true_eq_false, implies_true, b2iT, b2iF, i1n0, i0n1, Option.isSome_some, Option.isSome_none, Option.map_some, Option.map_none, reduceCtorEq, b2i_bz]
    exact hk σ h hf
  | succ d ih =>
    intro i σ hi h hf hm
    have hi2 : i < 160 := by omega
    have e2 : mN (sF S j (nI c) y i) 2 = mN S 2 := by rw [(sF_inv hI j hc y _).2.1]
    have e1 : ¬ nI (2 * mN S 2) ≤ nI i := nI_ge (by omega) (by omega)
    unfold wX4_settle_129
    simp only [RepM_K h, RepM_nA h, e2, two_nA hI, e1, RepM_r33 h, RepM_k33 h, RepM_n33 h, ix_nI (show i < 2 ^ 31 by omega), vp_in_nI hi2 (by decide), hm i (Nat.le_refl _) (by omega), nI_1, true_and, and_true, forall_eq, forall_eq', Option.some.injEq, exists_eq_left', false_implies, true_implies, forall_const, not_false_eq_true, not_true_eq_false, implies_true, b2iT, b2iF, i1n0, i0n1, Option.isSome_some, Option.isSome_none, Option.map_some, Option.map_none, reduceCtorEq, b2i_bz]
    cases hl : lkP S j 2 i with
    | true =>
      simp only [true_and, and_true, forall_eq, forall_eq', Option.some.injEq, exists_eq_left', false_implies, true_implies, forall_const, not_false_eq_true, not_true_eq_false, implies_true, b2iT, b2iF, i1n0, i0n1, Option.isSome_some, Option.isSome_none, Option.map_some, Option.map_none, reduceCtorEq, b2i_bz]
      refine M_become h hi2 _ _ _ _ (fun σ2 g2 f2 f5 => ?_)
      have gg := ih (i + 1) σ2 (by omega)
      rw [sF_t hl] at gg
      refine gg g2 (FrM_tr hf f2) (fun m hm1 hm2 => ?_)
      rw [(f5 (q 33) (RepM_ne h 33 13 (by decide) (by decide) (by decide)) (RepM_ne h 33 14 (by decide) (by decide) (by decide)) (RepM_ne h 33 15 (by decide) (by decide) (by decide)) (RepM_ne h 33 16 (by decide) (by decide) (by decide)) (RepM_ne h 33 17 (by decide) (by decide) (by decide))).2.2.1]
      exact hm m (by omega) hm2
    | false =>
      simp only [true_and, and_true, forall_eq, forall_eq', Option.some.injEq, exists_eq_left', false_implies, true_implies, forall_const, not_false_eq_true, not_true_eq_false, implies_true, b2iT, b2iF, i1n0, i0n1, Option.isSome_some, Option.isSome_none, Option.map_some, Option.map_none, reduceCtorEq, b2i_bz]
      have gg := ih (i + 1) σ (by omega)
      rw [sF_f hl] at gg
      exact gg h hf (fun m hm1 hm2 => hm m (by omega) hm2)
theorem M_settle_1 (hI : Inv S) {j : Nat} (hj : j < 160) {c : Nat} (hc : c < mN S 0) (y : Int32) (k : Int32 → MM → Prop) (σ0 : MM) (hk : ∀ σ1, RepM t q (sF S j (nI c) y (2 * mN S 2)) σ1 → FrM q σ0 σ1 → k (nI (cnt (lkP S j 2) (2 * mN S 2))) σ1) : ∀ d i (σ : MM), i + d = 2 * mN S 2 → RepM t q S σ → FrM q σ0 σ → (∀ m, m < i → mI σ (q 33) m = b2i (lkP S j 2 m)) → wX4_settle_47 k t (d + 1) (nI j) y (nI c) (nI (cnt (lkP S j 2) i)) (nI i) σ := by
  have hA := Inv_A hI
  intro d
  induction d with
  | zero =>
    intro i σ hi h hf hm
    have : i = 2 * mN S 2 := by omega
    subst this
    unfold wX4_settle_47
    simp only [RepM_K h, RepM_nA h, two_nA hI, show nI (2 * mN S 2) ≤ nI (2 * mN S 2) from nI_le (Nat.le_refl _) (by omega), true_and, and_true, forall_eq, forall_eq', Option.some.injEq, exists_eq_left', false_implies, true_implies, forall_const, not_false_eq_true, not_true_eq_false, implies_true, b2iT, b2iF, i1n0, i0n1, Option.isSome_some, Option.isSome_none, Option.map_some, Option.map_none, reduceCtorEq, b2i_bz]
    exact ⟨2 * mN S 2 + 1, M_settle_2 hI hj hc y _ k σ0 hk (2 * mN S 2) 0 σ (by omega) h hf (fun m _ hm2 => hm m hm2)⟩
  | succ d ih =>
    intro i σ hi h hf hm
    have hi2 : i < 160 := by omega
    have e1 : ¬ nI (2 * mN S 2) ≤ nI i := nI_ge (by omega) (by omega)
    have go : ∀ b, lkP S j 2 i = b → wX4_settle_99 k t (wX4_settle_47 k t (d + 1)) (nI j) y (nI c) (nI (cnt (lkP S j 2) i)) (nI i) (some (q 33)) (nI i) (b2i b) σ := fun b hb => by
      refine M_set99 h hi2 b _ _ _ _ _ _ (fun σ1 g f hv => ?_)
      have gg := ih (i + 1) σ1 (by omega) g (FrM_tr hf f) (fun m hm2 => by
        rw [hv]
        by_cases em : m = i
        · rw [em, va_up_self, hb]
        · rw [va_up_ne _ _ em]; exact hm m (by omega))
      have ec : cnt (lkP S j 2) (i + 1) = cnt (lkP S j 2) i + if b = true then 1 else 0 := by
        show cnt (lkP S j 2) i + (if lkP S j 2 i = true then 1 else 0) = _
        rw [hb]
      rw [ec] at gg
      exact gg
    unfold wX4_settle_47
    simp only [RepM_K h, RepM_nA h, two_nA hI, e1, RepM_r33 h, eM_isItem h hI, vT_is hi2, true_and, and_true, forall_eq, forall_eq', Option.some.injEq, exists_eq_left', false_implies, true_implies, forall_const, not_false_eq_true, not_true_eq_false, implies_true, b2iT, b2iF, i1n0, i0n1, Option.isSome_some, Option.isSome_none, Option.map_some, Option.map_none, reduceCtorEq, b2i_bz]
    by_cases hp : prs S i = true
    · simp only [hp, RepM_r13 h, RepM_k13 h, RepM_n13 h, RepM_i13 h, ix_nI (show i < 2 ^ 31 by omega), vp_in_nI hi2 (by decide), true_and, and_true, forall_eq, forall_eq', Option.some.injEq, exists_eq_left', false_implies, true_implies, forall_const, not_false_eq_true, not_true_eq_false, implies_true, b2iT, b2iF, i1n0, i0n1, Option.isSome_some, Option.isSome_none, Option.map_some, Option.map_none, reduceCtorEq, b2i_bz]
      refine ⟨fun hs => go false (by rw [lkP_2]; simp [hs]), fun hs => ?_⟩
      refine M_areAlike h hi2 hj _ ?_
      cases ha : alk S i j with
      | true => simp only [true_and, and_true, forall_eq, forall_eq', Option.some.injEq, exists_eq_left', false_implies, true_implies, forall_const, not_false_eq_true, not_true_eq_false, implies_true, b2iT, b2iF, i1n0, i0n1, Option.isSome_some, Option.isSome_none, Option.map_some, Option.map_none, reduceCtorEq, b2i_bz]; exact go true (by rw [lkP_2]; simp [hs, hp, ha])
      | false => simp only [true_and, and_true, forall_eq, forall_eq', Option.some.injEq, exists_eq_left', false_implies, true_implies, forall_const, not_false_eq_true, not_true_eq_false, implies_true, b2iT, b2iF, i1n0, i0n1, Option.isSome_some, Option.isSome_none, Option.map_some, Option.map_none, reduceCtorEq, b2i_bz]; exact go false (by rw [lkP_2]; simp [ha])
    · have hp2 : prs S i = false := by simpa using hp
      simp only [hp2, true_and, and_true, forall_eq, forall_eq', Option.some.injEq, exists_eq_left', false_implies, true_implies, forall_const, not_false_eq_true, not_true_eq_false, implies_true, b2iT, b2iF, i1n0, i0n1, Option.isSome_some, Option.isSome_none, Option.map_some, Option.map_none, reduceCtorEq, b2i_bz]
      exact go false (by rw [lkP_2]; simp [hp2])
theorem M_settle (h : RepM t q S σ) (hI : Inv S) (x y z : Int32) (k : Int32 → MM → Prop) (hk : ∀ σ1, RepM t q (fSettle S x y z).2 σ1 → FrM q σ σ1 → k (fSettle S x y z).1 σ1) : wX4_settle t x y z σ k := by
  unfold wX4_settle
  unfold fSettle at hk
  simp only [eM_isItem h hI, eM_isCode h hI, eM_in0 (n := 10) (h := 9) rfl, RepM_K h, true_and, and_true, forall_eq, forall_eq', Option.some.injEq, exists_eq_left', false_implies, true_implies, forall_const, not_false_eq_true, not_true_eq_false, implies_true, b2iT, b2iF, i1n0, i0n1, Option.isSome_some, Option.isSome_none, Option.map_some, Option.map_none, reduceCtorEq, b2i_bz]
  cases hx : vT S x with
  | none => rw [hx] at hk; simp only [true_and, and_true, forall_eq, forall_eq', Option.some.injEq, exists_eq_left', false_implies, true_implies, forall_const, not_false_eq_true, not_true_eq_false, implies_true, b2iT, b2iF, i1n0, i0n1, Option.isSome_some, Option.isSome_none, Option.map_some, Option.map_none, reduceCtorEq, b2i_bz]; exact hk σ h (FrM_refl q σ)
  | some j =>
    cases hy : vI 10 y with
    | none => rw [hx, hy] at hk; simp only [true_and, and_true, forall_eq, forall_eq', Option.some.injEq, exists_eq_left', false_implies, true_implies, forall_const, not_false_eq_true, not_true_eq_false, implies_true, b2iT, b2iF, i1n0, i0n1, Option.isSome_some, Option.isSome_none, Option.map_some, Option.map_none, reduceCtorEq, b2i_bz]; exact hk σ h (FrM_refl q σ)
    | some v =>
      cases hz : vI (mN S 0) z with
      | none => rw [hx, hy, hz] at hk; simp only [true_and, and_true, forall_eq, forall_eq', Option.some.injEq, exists_eq_left', false_implies, true_implies, forall_const, not_false_eq_true, not_true_eq_false, implies_true, b2iT, b2iF, i1n0, i0n1, Option.isSome_some, Option.isSome_none, Option.map_some, Option.map_none, reduceCtorEq, b2i_bz]; exact hk σ h (FrM_refl q σ)
      | some c =>
        rw [hx, hy, hz] at hk
        obtain ⟨hp, hj, rfl⟩ := vT_some hx
        obtain ⟨hc, rfl⟩ := vI_some hz
        simp only [RepM_r13 h, RepM_k13 h, RepM_n13 h, RepM_i13 h, ix_nI (show j < 2 ^ 31 by omega), vp_in_nI hj (by decide), true_and, and_true, forall_eq, forall_eq', Option.some.injEq, exists_eq_left', false_implies, true_implies, forall_const, not_false_eq_true, not_true_eq_false, implies_true, b2iT, b2iF, i1n0, i0n1, Option.isSome_some, Option.isSome_none, Option.map_some, Option.map_none, reduceCtorEq, b2i_bz]
        simp only at hk
        by_cases hs : mI S 6 j = 2
        · rw [if_pos hs] at hk
          rw [sF_160 hI, cnt_160 hI (fun i hi => lkP_out hi)] at hk
          simp only [hs, true_and, and_true, forall_eq, forall_eq', Option.some.injEq, exists_eq_left', false_implies, true_implies, forall_const, not_false_eq_true, not_true_eq_false, implies_true, b2iT, b2iF, i1n0, i0n1, Option.isSome_some, Option.isSome_none, Option.map_some, Option.map_none, reduceCtorEq, b2i_bz]
          exact ⟨2 * mN S 2 + 1, M_settle_1 hI hj hc y k σ hk (2 * mN S 2) 0 σ (by omega) h (FrM_refl q σ) (fun _ hm => absurd hm (by omega))⟩
        · rw [if_neg hs] at hk
          simp only [hs, true_and, and_true, forall_eq, forall_eq', Option.some.injEq, exists_eq_left', false_implies, true_implies, forall_const, not_false_eq_true, not_true_eq_false, implies_true, b2iT, b2iF, i1n0, i0n1, Option.isSome_some, Option.isSome_none, Option.map_some, Option.map_none, reduceCtorEq, b2i_bz]
          exact hk σ h (FrM_refl q σ)
end PM
section PC
variable {u : Nat} {q ia ra : Nat → Nat} {S σ : MM}
theorem C_doubts_l (h : RepC u q ia ra S (setS S) σ) {j : Nat} (hj : prs S j = true) (k : Int32 → MM → Prop) (hk : k (nI (cnt (lkP S j 2) 160)) σ) : ∀ d i, i + d = 160 → wX3_countDoubtsAlike_4 k u (d + 1) (some (ia j)) (nI (cnt (lkP S j 2) i)) (nI i) σ := by
  intro d
  induction d with
  | zero =>
    intro i hi
    have : i = 160 := by omega
    subst this
    unfold wX3_countDoubtsAlike_4
    simp only [RepC_K h, RepC_r5 h, RepC_k5 h, RepC_n5 h, RepC_i5 h, le160, true_and, and_true, forall_eq, forall_eq', Option.some.injEq, exists_eq_left', false_implies, true_implies, forall_const, not_false_eq_true, not_true_eq_false, implies_true, b2iT, b2iF, i1n0, i0n1, Option.isSome_some, Option.isSome_none, Option.map_some, Option.map_none, reduceCtorEq, b2i_bz]
    exact hk
  | succ d ih =>
    intro i hi
    have e1 : ¬ nI 160 ≤ nI i := nI_ge (by omega) (by decide)
    have gg := ih (i + 1) (by omega)
    unfold wX3_countDoubtsAlike_4
    simp only [e1, RepC_K h, RepC_r5 h, RepC_k5 h, RepC_n5 h, RepC_i5 h, ix_nI (show i < 2 ^ 31 by omega), vp_in_nI (show i < 160 by omega) (by decide), nI_1, true_and, and_true, forall_eq, forall_eq', Option.some.injEq, exists_eq_left', false_implies, true_implies, forall_const, not_false_eq_true, not_true_eq_false, implies_true, b2iT, b2iF, i1n0, i0n1, Option.isSome_some, Option.isSome_none, Option.map_some, Option.map_none, reduceCtorEq, b2i_bz]
    unfold wX3_isInDoubt
    by_cases hp : prs S i = true
    · simp only [hp, if_true, RepC_tK h i hp, RepC_t4 h i hp, true_and, and_true, forall_eq, forall_eq', Option.some.injEq, exists_eq_left', false_implies, true_implies, forall_const, not_false_eq_true, not_true_eq_false, implies_true, b2iT, b2iF, i1n0, i0n1, Option.isSome_some, Option.isSome_none, Option.map_some, Option.map_none, reduceCtorEq, b2i_bz]
      refine ⟨fun hs => ?_, fun hs => ?_⟩
      · rw [cnt_f (by rw [lkP_2]; simp [hs])] at gg; exact gg
      · simp only [RepC_K h, RepC_r5 h, RepC_k5 h, RepC_n5 h, RepC_i5 h, hp, if_true, RepC_tK h j hj, vp_in_nI (show i < 160 by omega) (by decide), true_and, and_true, forall_eq, forall_eq', Option.some.injEq, exists_eq_left', false_implies, true_implies, forall_const, not_false_eq_true, not_true_eq_false, implies_true, b2iT, b2iF, i1n0, i0n1, Option.isSome_some, Option.isSome_none, Option.map_some, Option.map_none, reduceCtorEq, b2i_bz]
        refine C_isAlike h hj hp _ ?_
        rw [alk_comm]
        cases ha : alk S i j with
        | true =>
          simp only [true_and, and_true, forall_eq, forall_eq', Option.some.injEq, exists_eq_left', false_implies, true_implies, forall_const, not_false_eq_true, not_true_eq_false, implies_true, b2iT, b2iF, i1n0, i0n1, Option.isSome_some, Option.isSome_none, Option.map_some, Option.map_none, reduceCtorEq, b2i_bz]
          rw [cnt_t (by rw [lkP_2]; simp [hs, hp, ha])] at gg; exact gg
        | false =>
          simp only [true_and, and_true, forall_eq, forall_eq', Option.some.injEq, exists_eq_left', false_implies, true_implies, forall_const, not_false_eq_true, not_true_eq_false, implies_true, b2iT, b2iF, i1n0, i0n1, Option.isSome_some, Option.isSome_none, Option.map_some, Option.map_none, reduceCtorEq, b2i_bz]
          rw [cnt_f (by rw [lkP_2]; simp [ha])] at gg; exact gg
    · have hp2 : prs S i = false := by simpa using hp
      simp only [hp2, Bool.false_eq_true, if_false, true_and, and_true, forall_eq, forall_eq', Option.some.injEq, exists_eq_left', false_implies, true_implies, forall_const, not_false_eq_true, not_true_eq_false, implies_true, b2iT, b2iF, i1n0, i0n1, Option.isSome_some, Option.isSome_none, Option.map_some, Option.map_none, reduceCtorEq, b2i_bz]
      rw [cnt_f (by rw [lkP_2]; simp [hp2])] at gg; exact gg
theorem C_first_l (h : RepC u q ia ra S (setS S) σ) (k : Int32 → MM → Prop) (hk : k (rF S 160).1 σ) : ∀ d i, i + d = 160 → wX3_first_7 k u (d + 1) (rF S i).1 (rF S i).2 (nI i) σ := by
  intro d
  induction d with
  | zero =>
    intro i hi
    have : i = 160 := by omega
    subst this
    unfold wX3_first_7
    simp only [RepC_K h, RepC_r5 h, RepC_k5 h, RepC_n5 h, RepC_i5 h, le160, true_and, and_true, forall_eq, forall_eq', Option.some.injEq, exists_eq_left', false_implies, true_implies, forall_const, not_false_eq_true, not_true_eq_false, implies_true, b2iT, b2iF, i1n0, i0n1, Option.isSome_some, Option.isSome_none, Option.map_some, Option.map_none, reduceCtorEq, b2i_bz]
    exact hk
  | succ d ih =>
    intro i hi
    have e1 : ¬ nI 160 ≤ nI i := nI_ge (by omega) (by decide)
    have gg := ih (i + 1) (by omega)
    unfold wX3_first_7
    simp only [e1, RepC_K h, RepC_r5 h, RepC_k5 h, RepC_n5 h, RepC_i5 h, ix_nI (show i < 2 ^ 31 by omega), vp_in_nI (show i < 160 by omega) (by decide), nI_1, true_and, and_true, forall_eq, forall_eq', Option.some.injEq, exists_eq_left', false_implies, true_implies, forall_const, not_false_eq_true, not_true_eq_false, implies_true, b2iT, b2iF, i1n0, i0n1, Option.isSome_some, Option.isSome_none, Option.map_some, Option.map_none, reduceCtorEq, b2i_bz]
    unfold wX3_isInDoubt
    by_cases hp : prs S i = true
    · simp only [hp, if_true, RepC_tK h i hp, RepC_t4 h i hp, true_and, and_true, forall_eq, forall_eq', Option.some.injEq, exists_eq_left', false_implies, true_implies, forall_const, not_false_eq_true, not_true_eq_false, implies_true, b2iT, b2iF, i1n0, i0n1, Option.isSome_some, Option.isSome_none, Option.map_some, Option.map_none, reduceCtorEq, b2i_bz]
      refine ⟨fun hs => ?_, fun hs => ?_⟩
      · rw [rF_f (by simp [hs])] at gg; exact gg
      · simp only [RepC_K h, RepC_r5 h, RepC_k5 h, RepC_n5 h, RepC_i5 h, hp, if_true, vp_in_nI (show i < 160 by omega) (by decide), true_and, and_true, forall_eq, forall_eq', Option.some.injEq, exists_eq_left', false_implies, true_implies, forall_const, not_false_eq_true, not_true_eq_false, implies_true, b2iT, b2iF, i1n0, i0n1, Option.isSome_some, Option.isSome_none, Option.map_some, Option.map_none, reduceCtorEq, b2i_bz]
        refine ⟨160 + 1, C_doubts_l h hp _ ?_ 160 0 (by omega)⟩
        refine ⟨fun el => ?_, fun el => ?_⟩
        · rw [rF_s el] at gg; exact gg
        · rw [rF_t (by simp [hp, hs]) el] at gg
          simp only at gg
          exact gg
    · have hp2 : prs S i = false := by simpa using hp
      simp only [hp2, Bool.false_eq_true, if_false, true_and, and_true, forall_eq, forall_eq', Option.some.injEq, exists_eq_left', false_implies, true_implies, forall_const, not_false_eq_true, not_true_eq_false, implies_true, b2iT, b2iF, i1n0, i0n1, Option.isSome_some, Option.isSome_none, Option.map_some, Option.map_none, reduceCtorEq, b2i_bz]
      rw [rF_f (by simp [hp2])] at gg; exact gg
theorem C_first (h : RepC u q ia ra S (setS S) σ) (k : Int32 → MM → Prop) (hk : k (fFirst S) σ) : wX3_first u σ k := by
  unfold fFirst at hk
  refine ⟨160 + 1, ?_⟩
  exact C_first_l h k hk 160 0 (by omega)
theorem C_settle_l (hI : Inv S) {j : Nat} (hj : prs S j = true) {c : Nat} (hc : c < mN S 0) (y : Int32) (k : Int32 → MM → Prop) (σ0 : MM) (hk : ∀ σ1, RepC u q ia ra (sF S j (nI c) y 160) (setS S) σ1 → FrC q σ0 σ1 → k (nI (cnt (lkP S j 2) 160)) σ1) : ∀ d i (σ : MM), i + d = 160 → RepC u q ia ra (sF S j (nI c) y i) (setS S) σ → FrC q σ0 σ → wX3_settle_46 k u (d + 1) y (nI c) (some (ia j)) (nI (cnt (lkP S j 2) i)) (nI i) σ := by
  intro d
  induction d with
  | zero =>
    intro i σ hi h hf
    have : i = 160 := by omega
    subst this
    unfold wX3_settle_46
    simp only [RepC_K h, RepC_r5 h, RepC_k5 h, RepC_n5 h, RepC_i5 h, le160, true_and, and_true, forall_eq, forall_eq', Option.some.injEq, exists_eq_left', false_implies, true_implies, forall_const, not_false_eq_true, not_true_eq_false, implies_true, b2iT, b2iF, i1n0, i0n1, Option.isSome_some, Option.isSome_none, Option.map_some, Option.map_none, reduceCtorEq, b2i_bz]
    exact hk σ h hf
  | succ d ih =>
    intro i σ hi h hf
    obtain ⟨hT, e2, e3, e4, e5, e6⟩ := sF_inv hI j hc y i
    have e1 : ¬ nI 160 ≤ nI i := nI_ge (by omega) (by decide)
    have hjT : prs (sF S j (nI c) y i) j = true := by rw [e3]; exact hj
    have skip : lkP S j 2 i = false → wX3_settle_46 k u (d + 1) y (nI c) (some (ia j)) (nI (cnt (lkP S j 2) i)) (nI (i + 1)) σ := fun hl => by
      have gg := ih (i + 1) σ (by omega)
      rw [sF_f hl, cnt_f hl] at gg
      exact gg h hf
    unfold wX3_settle_46
    simp only [e1, RepC_K h, RepC_r5 h, RepC_k5 h, RepC_n5 h, RepC_i5 h, ix_nI (show i < 2 ^ 31 by omega), vp_in_nI (show i < 160 by omega) (by decide), nI_1, true_and, and_true, forall_eq, forall_eq', Option.some.injEq, exists_eq_left', false_implies, true_implies, forall_const, not_false_eq_true, not_true_eq_false, implies_true, b2iT, b2iF, i1n0, i0n1, Option.isSome_some, Option.isSome_none, Option.map_some, Option.map_none, reduceCtorEq, b2i_bz]
    unfold wX3_isInDoubt
    by_cases hp : prs S i = true
    · have hpT : prs (sF S j (nI c) y i) i = true := by rw [e3]; exact hp
      simp only [hpT, if_true, RepC_tK h i hpT, RepC_t4 h i hpT, e6 i (Nat.le_refl _), true_and, and_true, forall_eq, forall_eq', Option.some.injEq, exists_eq_left', false_implies, true_implies, forall_const, not_false_eq_true, not_true_eq_false, implies_true, b2iT, b2iF, i1n0, i0n1, Option.isSome_some, Option.isSome_none, Option.map_some, Option.map_none, reduceCtorEq, b2i_bz]
      refine ⟨fun hs => skip (by rw [lkP_2]; simp [hs]), fun hs => ?_⟩
      simp only [RepC_K h, RepC_r5 h, RepC_k5 h, RepC_n5 h, RepC_i5 h, hpT, if_true, RepC_tK h j hjT, vp_in_nI (show i < 160 by omega) (by decide), true_and, and_true, forall_eq, forall_eq', Option.some.injEq, exists_eq_left', false_implies, true_implies, forall_const, not_false_eq_true, not_true_eq_false, implies_true, b2iT, b2iF, i1n0, i0n1, Option.isSome_some, Option.isSome_none, Option.map_some, Option.map_none, reduceCtorEq, b2i_bz]
      have hh : RepC u q ia ra (sF S j (nI c) y i) (setS (sF S j (nI c) y i)) σ := by rw [e4]; exact h
      refine C_isAlike hh hjT hpT _ ?_
      rw [alk_comm, e5]
      cases ha : alk S i j with
      | false => simp only [true_and, and_true, forall_eq, forall_eq', Option.some.injEq, exists_eq_left', false_implies, true_implies, forall_const, not_false_eq_true, not_true_eq_false, implies_true, b2iT, b2iF, i1n0, i0n1, Option.isSome_some, Option.isSome_none, Option.map_some, Option.map_none, reduceCtorEq, b2i_bz]; exact skip (by rw [lkP_2]; simp [ha])
      | true =>
        have hl : lkP S j 2 i = true := by rw [lkP_2]; simp [hs, hp, ha]
        simp only [RepC_K h, RepC_r5 h, RepC_k5 h, RepC_n5 h, RepC_i5 h, hpT, if_true, RepC_tK h i hpT, vp_in_nI (show i < 160 by omega) (by decide), true_and, and_true, forall_eq, forall_eq', Option.some.injEq, exists_eq_left', false_implies, true_implies, forall_const, not_false_eq_true, not_true_eq_false, implies_true, b2iT, b2iF, i1n0, i0n1, Option.isSome_some, Option.isSome_none, Option.map_some, Option.map_none, reduceCtorEq, b2i_bz]
        have h10 : mI (sF S j (nI c) y i) 10 i = -1 := by
          rcases Inv_it hT i hpT with z | z
          · rw [e6 i (Nat.le_refl _), hs] at z; exact absurd z.1 (by decide)
          · exact z.2.2.2.2
        refine C_take h hpT h10 _ _ _ _ (fun σ2 g2 f2 => ?_)
        have gg := ih (i + 1) σ2 (by omega)
        rw [sF_t hl, cnt_t hl] at gg
        exact gg g2 (FrC_tr hf (FrC_o (by rw [RepC_tK h i hpT]; decide) f2))
    · have hp2 : prs S i = false := by simpa using hp
      have hpT : prs (sF S j (nI c) y i) i = false := by rw [e3]; exact hp2
      simp only [hpT, Bool.false_eq_true, if_false, true_and, and_true, forall_eq, forall_eq', Option.some.injEq, exists_eq_left', false_implies, true_implies, forall_const, not_false_eq_true, not_true_eq_false, implies_true, b2iT, b2iF, i1n0, i0n1, Option.isSome_some, Option.isSome_none, Option.map_some, Option.map_none, reduceCtorEq, b2i_bz]
      exact skip (by rw [lkP_2]; simp [hp2])
theorem C_settle (h : RepC u q ia ra S (setS S) σ) (hI : Inv S) (x y z : Int32) (k : Int32 → MM → Prop) (hk : ∀ σ1, RepC u q ia ra (fSettle S x y z).2 (setS (fSettle S x y z).2) σ1 → FrC q σ σ1 → k (fSettle S x y z).1 σ1) : wX3_settle u x y z σ k := by
  unfold wX3_settle
  unfold fSettle at hk
  simp only [eC_itemAt h, eC_isCode h hI, eC_isDigit, RepC_K h, true_and, and_true, forall_eq, forall_eq', Option.some.injEq, exists_eq_left', false_implies, true_implies, forall_const, not_false_eq_true, not_true_eq_false, implies_true, b2iT, b2iF, i1n0, i0n1, Option.isSome_some, Option.isSome_none, Option.map_some, Option.map_none, reduceCtorEq, b2i_bz]
  cases hx : vT S x with
  | none => rw [hx] at hk; simp only [true_and, and_true, forall_eq, forall_eq', Option.some.injEq, exists_eq_left', false_implies, true_implies, forall_const, not_false_eq_true, not_true_eq_false, implies_true, b2iT, b2iF, i1n0, i0n1, Option.isSome_some, Option.isSome_none, Option.map_some, Option.map_none, reduceCtorEq, b2i_bz]; exact hk σ h (FrC_refl q σ)
  | some j =>
    cases hy : vI 10 y with
    | none => rw [hx, hy] at hk; simp only [true_and, and_true, forall_eq, forall_eq', Option.some.injEq, exists_eq_left', false_implies, true_implies, forall_const, not_false_eq_true, not_true_eq_false, implies_true, b2iT, b2iF, i1n0, i0n1, Option.isSome_some, Option.isSome_none, Option.map_some, Option.map_none, reduceCtorEq, b2i_bz]; exact hk σ h (FrC_refl q σ)
    | some v =>
      cases hz : vI (mN S 0) z with
      | none => rw [hx, hy, hz] at hk; simp only [true_and, and_true, forall_eq, forall_eq', Option.some.injEq, exists_eq_left', false_implies, true_implies, forall_const, not_false_eq_true, not_true_eq_false, implies_true, b2iT, b2iF, i1n0, i0n1, Option.isSome_some, Option.isSome_none, Option.map_some, Option.map_none, reduceCtorEq, b2i_bz]; exact hk σ h (FrC_refl q σ)
      | some c =>
        rw [hx, hy, hz] at hk
        obtain ⟨hp, hj, rfl⟩ := vT_some hx
        obtain ⟨hc, rfl⟩ := vI_some hz
        unfold wX3_isInDoubt
        simp only [RepC_tK h j hp, RepC_t4 h j hp, true_and, and_true, forall_eq, forall_eq', Option.some.injEq, exists_eq_left', false_implies, true_implies, forall_const, not_false_eq_true, not_true_eq_false, implies_true, b2iT, b2iF, i1n0, i0n1, Option.isSome_some, Option.isSome_none, Option.map_some, Option.map_none, reduceCtorEq, b2i_bz]
        simp only at hk
        by_cases hs : mI S 6 j = 2
        · rw [if_pos hs] at hk
          simp only [hs, true_and, and_true, forall_eq, forall_eq', Option.some.injEq, exists_eq_left', false_implies, true_implies, forall_const, not_false_eq_true, not_true_eq_false, implies_true, b2iT, b2iF, i1n0, i0n1, Option.isSome_some, Option.isSome_none, Option.map_some, Option.map_none, reduceCtorEq, b2i_bz]
          simp only [(sF_inv hI j hc y 160).2.2.2.1] at hk
          refine ⟨160 + 1, ?_⟩
          exact C_settle_l hI hp hc y k σ hk 160 0 σ (by omega) h (FrC_refl q σ)
        · rw [if_neg hs] at hk
          simp only [hs, true_and, and_true, forall_eq, forall_eq', Option.some.injEq, exists_eq_left', false_implies, true_implies, forall_const, not_false_eq_true, not_true_eq_false, implies_true, b2iT, b2iF, i1n0, i0n1, Option.isSome_some, Option.isSome_none, Option.map_some, Option.map_none, reduceCtorEq, b2i_bz]
          exact hk σ h (FrC_refl q σ)
end PC
