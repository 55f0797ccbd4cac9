def fWith (S : MM) (x y z : Int32) : Int32 × MM := match vI (mN S 3) x, vI 60 y, vI 3 z with
  | some r, some w, some h => if mI S 14 r = 0 then
      (if bT (mL S 2 r) w then 1 else if bT (mL S 3 r) w then 2 else 0,
        sL (sL S 2 r (wB (mL S 2 r) w (if h = 1 then 1 else 0))) 3 r (wB (mL S 3 r) w (if h = 2 then 1 else 0))) else (-1, S)
  | _, _, _ => (-1, S)
def fRule (S : MM) (x y z : Int32) : Int32 × MM := match vI 10 x, vI (mN S 0) y, vI 1024 z with
  | some _, some _, some _ => if mN S 3 = 40 then (-3, S) else (nI (mN S 3), sC (sI (sI (sI S 11 (mN S 3) x) 12 (mN S 3) y) 13 (mN S 3) z) 3 (mN S 3 + 1))
  | _, _, _ => (-1, S)
theorem up1_in {n : Nat} (hn : n < 2 ^ 30) (x : Int32) : decide (-1 ≤ x ∧ x ≤ nI n - 1) = up1 n x := by
  have h0 : (-1 : Int32).toInt = -1 := rfl
  unfold up1 vI
  by_cases h1 : x = -1
  · subst h1
    have : -1 ≤ nI n - 1 := by rw [Int32.le_iff_toInt_le, nI_m1 hn, h0]; omega
    simp [this]
  · have h2 : x.toInt ≠ -1 := fun e => h1 (Int32.toInt_inj.mp (by rw [e, h0]))
    by_cases hc : 0 ≤ x.toInt ∧ x.toInt < (n : Int)
    · have : -1 ≤ x ∧ x ≤ nI n - 1 := by
        rw [Int32.le_iff_toInt_le, Int32.le_iff_toInt_le, nI_m1 hn, h0]; omega
      rw [if_pos hc]
      simp [this]
    · have : ¬ (-1 ≤ x ∧ x ≤ nI n - 1) := by
        rw [Int32.le_iff_toInt_le, Int32.le_iff_toInt_le, nI_m1 hn, h0]; omega
      rw [if_neg hc]
      simp [this, h1]
theorem nI_s1 (n : Nat) : nI n + 1 - 1 = nI n := by rw [nI_1]; exact nI_pred n
section PM
variable {t : Nat} {q : Nat → Nat} {S σ : MM}
theorem M_code (h : RepM t q S σ) (hI : Inv S) (x : Int32) (k : Int32 → MM → Prop) (hk : ∀ σ1, RepM t q (fCode S x).2 σ1 → FrM q σ σ1 → k (fCode S x).1 σ1) : wX4_code t x σ k := by
  have hC := Inv_C hI
  unfold wX4_code
  unfold fCode at hk
  simp only [eM_in, RepM_nC h, up1_in (show mN S 0 < 2 ^ 30 by omega), RepM_K h, true_and, and_true, forall_eq, forall_eq', Option.some.injEq, exists_eq_left', false_implies, true_implies, forall_const, not_false_eq_true, not_true_eq_false, implies_true, b2iT, b2iF, i1n0, i0n1, Option.isSome_some, Option.isSome_none, Option.map_some, Option.map_none, reduceCtorEq, b2i_bz]
  cases hx : up1 (mN S 0) x
  · rw [hx] at hk
    simp only [true_and, and_true, forall_eq, forall_eq', Option.some.injEq, exists_eq_left', false_implies, true_implies, forall_const, not_false_eq_true, not_true_eq_false, implies_true, b2iT, b2iF, i1n0, i0n1, Option.isSome_some, Option.isSome_none, Option.map_some, Option.map_none, reduceCtorEq, b2i_bz]
    exact hk σ h (FrM_refl q σ)
  · rw [hx] at hk
    by_cases h40 : mN S 0 = 40
    · rw [h40] at hk ⊢
      simp only [show nI 40 = 40 from rfl, true_and, and_true, forall_eq, forall_eq', Option.some.injEq, exists_eq_left', false_implies, true_implies, forall_const, not_false_eq_true, not_true_eq_false, implies_true, b2iT, b2iF, i1n0, i0n1, Option.isSome_some, Option.isSome_none, Option.map_some, Option.map_none, reduceCtorEq, b2i_bz]
      exact hk σ h (FrM_refl q σ)
    · have h4 : ¬ nI (mN S 0) = 40 := fun e => h40 ((nI_eq (b := 40) (by omega) (by decide)).mp e)
      have h1 := RepM_w3 h (mN S 0) x
      have h2 := RepM_v2 h1 (mN S 0 + 1)
      simp only [h40, if_true, if_false] at hk
      simp only [h4, RepM_r3 h, RepM_k3 h, RepM_n3 h, ix_nI (show mN S 0 < 2 ^ 31 by omega), vp_in_nI (show mN S 0 < 40 by omega) (by decide), RepM_nC h1, mN_sI, nI_1, true_and, and_true, forall_eq, forall_eq', Option.some.injEq, exists_eq_left', false_implies, true_implies, forall_const, not_false_eq_true, not_true_eq_false, implies_true, b2iT, b2iF, i1n0, i0n1, Option.isSome_some, Option.isSome_none, Option.map_some, Option.map_none, reduceCtorEq, b2i_bz]
      simp only [mI_sI, nI_pred, and_self, if_true]
      exact hk _ h2 (FrM_tr (FrM_I (by decide)) (FrM_t (RepM_K h1)))
theorem M_other (h : RepM t q S σ) (hI : Inv S) (x : Int32) (k : Int32 → MM → Prop) (hk : ∀ σ1, RepM t q (fOther S x).2 σ1 → FrM q σ σ1 → k (fOther S x).1 σ1) : wX4_other t x σ k := by
  have hC := Inv_O hI
  unfold wX4_other
  unfold fOther at hk
  simp only [eM_in, RepM_nO h, up1_in (show mN S 1 < 2 ^ 30 by omega), RepM_K h, true_and, and_true, forall_eq, forall_eq', Option.some.injEq, exists_eq_left', false_implies, true_implies, forall_const, not_false_eq_true, not_true_eq_false, implies_true, b2iT, b2iF, i1n0, i0n1, Option.isSome_some, Option.isSome_none, Option.map_some, Option.map_none, reduceCtorEq, b2i_bz]
  cases hx : up1 (mN S 1) x
  · rw [hx] at hk
    simp only [true_and, and_true, forall_eq, forall_eq', Option.some.injEq, exists_eq_left', false_implies, true_implies, forall_const, not_false_eq_true, not_true_eq_false, implies_true, b2iT, b2iF, i1n0, i0n1, Option.isSome_some, Option.isSome_none, Option.map_some, Option.map_none, reduceCtorEq, b2i_bz]
    exact hk σ h (FrM_refl q σ)
  · rw [hx] at hk
    by_cases h40 : mN S 1 = 30
    · rw [h40] at hk ⊢
      simp only [show nI 30 = 30 from rfl, true_and, and_true, forall_eq, forall_eq', Option.some.injEq, exists_eq_left', false_implies, true_implies, forall_const, not_false_eq_true, not_true_eq_false, implies_true, b2iT, b2iF, i1n0, i0n1, Option.isSome_some, Option.isSome_none, Option.map_some, Option.map_none, reduceCtorEq, b2i_bz]
      exact hk σ h (FrM_refl q σ)
    · have h4 : ¬ nI (mN S 1) = 30 := fun e => h40 ((nI_eq (b := 30) (by omega) (by decide)).mp e)
      have h1 := RepM_w6 h (mN S 1) x
      have h2 := RepM_v5 h1 (mN S 1 + 1)
      simp only [h40, if_true, if_false] at hk
      simp only [h4, RepM_r6 h, RepM_k6 h, RepM_n6 h, ix_nI (show mN S 1 < 2 ^ 31 by omega), vp_in_nI (show mN S 1 < 30 by omega) (by decide), RepM_nO h1, mN_sI, nI_1, true_and, and_true, forall_eq, forall_eq', Option.some.injEq, exists_eq_left', false_implies, true_implies, forall_const, not_false_eq_true, not_true_eq_false, implies_true, b2iT, b2iF, i1n0, i0n1, Option.isSome_some, Option.isSome_none, Option.map_some, Option.map_none, reduceCtorEq, b2i_bz]
      simp only [mI_sI, nI_pred, and_self, if_true]
      exact hk _ h2 (FrM_tr (FrM_I (by decide)) (FrM_t (RepM_K h1)))
theorem nI_lit1 {b : Nat} (hb : b < 2 ^ 31) : nI b = 1 ↔ b = 1 := nI_eq (b := 1) hb (by decide)
theorem nI_lit2 {b : Nat} (hb : b < 2 ^ 31) : nI b = 2 ↔ b = 2 := nI_eq (b := 2) hb (by decide)
theorem M_exclude (h : RepM t q S σ) (hI : Inv S) (x y z : Int32) (k : Int32 → MM → Prop) (hk : ∀ σ1, RepM t q (fExclude S x y z).2 σ1 → FrM q σ σ1 → k (fExclude S x y z).1 σ1) : wX4_exclude t x y z σ k := by
  have hC := Inv_C hI
  unfold wX4_exclude
  unfold fExclude at hk
  simp only [eM_isCode h hI, eM_isWord, eM_in0 (show (1 : Int32).toInt = ((2 : Nat) : Int) - 1 from rfl), RepM_K h, true_and, and_true, forall_eq, forall_eq', Option.some.injEq, exists_eq_left', false_implies, true_implies, forall_const, not_false_eq_true, not_true_eq_false, implies_true, b2iT, b2iF, i1n0, i0n1, Option.isSome_some, Option.isSome_none, Option.map_some, Option.map_none, reduceCtorEq, b2i_bz]
  cases hx : vI (mN S 0) x with
  | none => rw [hx] at hk; simp only [true_and, and_true, forall_eq, forall_eq', Option.some.injEq, exists_eq_left', false_implies, true_implies, forall_const, not_false_eq_true, not_true_eq_false, implies_true, b2iT, b2iF, i1n0, i0n1, Option.isSome_some, Option.isSome_none, Option.map_some, Option.map_none, reduceCtorEq, b2i_bz]; exact hk σ h (FrM_refl q σ)
  | some c =>
    cases hy : vI 60 y with
    | none => rw [hx, hy] at hk; simp only [true_and, and_true, forall_eq, forall_eq', Option.some.injEq, exists_eq_left', false_implies, true_implies, forall_const, not_false_eq_true, not_true_eq_false, implies_true, b2iT, b2iF, i1n0, i0n1, Option.isSome_some, Option.isSome_none, Option.map_some, Option.map_none, reduceCtorEq, b2i_bz]; exact hk σ h (FrM_refl q σ)
    | some w =>
      cases hz : vI 2 z with
      | none => rw [hx, hy, hz] at hk; simp only [true_and, and_true, forall_eq, forall_eq', Option.some.injEq, exists_eq_left', false_implies, true_implies, forall_const, not_false_eq_true, not_true_eq_false, implies_true, b2iT, b2iF, i1n0, i0n1, Option.isSome_some, Option.isSome_none, Option.map_some, Option.map_none, reduceCtorEq, b2i_bz]; exact hk σ h (FrM_refl q σ)
      | some b =>
        rw [hx, hy, hz] at hk
        obtain ⟨hc, rfl⟩ := vI_some hx
        obtain ⟨hw, rfl⟩ := vI_some hy
        obtain ⟨hb, rfl⟩ := vI_some hz
        simp only [RepM_r4 h, RepM_k4 h, RepM_n4 h, RepM_i4 h, ix_nI (show c < 2 ^ 31 by omega), vp_in_nI (show c < 40 by omega) (by decide), shr1 (mL S 0 c) (show w < 64 by omega), i32_01, nI_lit1 (show b < 2 ^ 31 by omega), true_and, and_true, forall_eq, forall_eq', Option.some.injEq, exists_eq_left', false_implies, true_implies, forall_const, not_false_eq_true, not_true_eq_false, implies_true, b2iT, b2iF, i1n0, i0n1, Option.isSome_some, Option.isSome_none, Option.map_some, Option.map_none, reduceCtorEq, b2i_bz]
        by_cases hb1 : b = 1
        · subst hb1
          simp only [true_and, and_true, forall_eq, forall_eq', Option.some.injEq, exists_eq_left', false_implies, true_implies, forall_const, not_false_eq_true, not_true_eq_false, implies_true, b2iT, b2iF, i1n0, i0n1, Option.isSome_some, Option.isSome_none, Option.map_some, Option.map_none, reduceCtorEq, b2i_bz]
          exact hk _ (RepM_w4 h c _) (FrM_L (by decide))
        · simp only [hb1, wB, if_false, true_and, and_true, forall_eq, forall_eq', Option.some.injEq, exists_eq_left', false_implies, true_implies, forall_const, not_false_eq_true, not_true_eq_false, implies_true, b2iT, b2iF, i1n0, i0n1, Option.isSome_some, Option.isSome_none, Option.map_some, Option.map_none, reduceCtorEq, b2i_bz] at hk ⊢
          exact hk _ (RepM_w4 h c _) (FrM_L (by decide))
theorem M_drop2 : True := trivial
theorem M_with (h : RepM t q S σ) (hI : Inv S) (x y z : Int32) (k : Int32 → MM → Prop) (hk : ∀ σ1, RepM t q (fWith S x y z).2 σ1 → FrM q σ σ1 → k (fWith S x y z).1 σ1) : wX4_with t x y z σ k := by
  have hR := Inv_R hI
  unfold wX4_with
  unfold fWith at hk
  simp only [eM_isRule h hI, eM_isWord, eM_in0 (show (2 : Int32).toInt = ((3 : Nat) : Int) - 1 from rfl), RepM_K h, true_and, and_true, forall_eq, forall_eq', Option.some.injEq, exists_eq_left', false_implies, true_implies, forall_const, not_false_eq_true, not_true_eq_false, implies_true, b2iT, b2iF, i1n0, i0n1, Option.isSome_some, Option.isSome_none, Option.map_some, Option.map_none, reduceCtorEq, b2i_bz]
  cases hx : vI (mN S 3) x with
  | none => rw [hx] at hk; simp only [true_and, and_true, forall_eq, forall_eq', Option.some.injEq, exists_eq_left', false_implies, true_implies, forall_const, not_false_eq_true, not_true_eq_false, implies_true, b2iT, b2iF, i1n0, i0n1, Option.isSome_some, Option.isSome_none, Option.map_some, Option.map_none, reduceCtorEq, b2i_bz]; exact hk σ h (FrM_refl q σ)
  | some r =>
    cases hy : vI 60 y with
    | none => rw [hx, hy] at hk; simp only [true_and, and_true, forall_eq, forall_eq', Option.some.injEq, exists_eq_left', false_implies, true_implies, forall_const, not_false_eq_true, not_true_eq_false, implies_true, b2iT, b2iF, i1n0, i0n1, Option.isSome_some, Option.isSome_none, Option.map_some, Option.map_none, reduceCtorEq, b2i_bz]; exact hk σ h (FrM_refl q σ)
    | some w =>
      cases hz : vI 3 z with
      | none => rw [hx, hy, hz] at hk; simp only [true_and, and_true, forall_eq, forall_eq', Option.some.injEq, exists_eq_left', false_implies, true_implies, forall_const, not_false_eq_true, not_true_eq_false, implies_true, b2iT, b2iF, i1n0, i0n1, Option.isSome_some, Option.isSome_none, Option.map_some, Option.map_none, reduceCtorEq, b2i_bz]; exact hk σ h (FrM_refl q σ)
      | some b =>
        rw [hx, hy, hz] at hk
        obtain ⟨hr, rfl⟩ := vI_some hx
        obtain ⟨hw, rfl⟩ := vI_some hy
        obtain ⟨hb, rfl⟩ := vI_some hz
        have tail : ∀ z0 : Int32, (∀ σ1, RepM t q (sL (sL S 2 r (wB (mL S 2 r) w (if b = 1 then 1 else 0))) 3 r (wB (mL S 3 r) w (if b = 2 then 1 else 0))) σ1 → FrM q σ σ1 → k z0 σ1) → wX4_with_74 k t (nI r) (nI w) (nI b) z0 σ := by
          intro z0 hz0
          unfold wX4_with_74 wX4_with_113
          have g1 := RepM_w22 h r (wB (mL S 2 r) w (if b = 1 then 1 else 0))
          have g2 := RepM_w23 g1 r (wB (mL S 3 r) w (if b = 2 then 1 else 0))
          have fr : FrM q σ (sL (sL σ (q 22) r (wB (mL S 2 r) w (if b = 1 then 1 else 0))) (q 23) r (wB (mL S 3 r) w (if b = 2 then 1 else 0))) := FrM_tr (FrM_L (by decide)) (FrM_L (by decide))
          have fin := hz0 _ g2 fr
          rcases (show b = 0 ∨ b = 1 ∨ b = 2 by omega) with rfl | rfl | rfl
          all_goals
            simp only [show nI 0 = 0 from rfl, show nI 1 = 1 from rfl, show nI 2 = 2 from rfl, show ¬ ((0 : Int32) = 1) by decide, show ¬ ((0 : Int32) = 2) by decide, show ¬ ((1 : Int32) = 2) by decide, show ¬ ((2 : Int32) = 1) by decide, show ¬ ((0 : Nat) = 1) by decide, show ¬ ((0 : Nat) = 2) by decide, show ¬ ((1 : Nat) = 2) by decide, show ¬ ((2 : Nat) = 1) by decide, if_true, if_false, wB] at g1 g2 fin ⊢
            simp only [RepM_K h, RepM_r22 h, RepM_k22 h, RepM_n22 h, RepM_i22 h, ix_nI (show r < 2 ^ 31 by omega), vp_in_nI (show r < 40 by omega) (by decide), RepM_K g1, RepM_r23 g1, RepM_k23 g1, RepM_n23 g1, RepM_i23 g1, true_and, and_true, forall_eq, forall_eq', Option.some.injEq, exists_eq_left', false_implies, true_implies, forall_const, not_false_eq_true, not_true_eq_false, implies_true, b2iT, b2iF, i1n0, i0n1, Option.isSome_some, Option.isSome_none, Option.map_some, Option.map_none, reduceCtorEq, b2i_bz]
            exact fin
        simp only [RepM_r24 h, RepM_k24 h, RepM_n24 h, RepM_i24 h, RepM_r22 h, RepM_k22 h, RepM_n22 h, RepM_i22 h, RepM_r23 h, RepM_k23 h, RepM_n23 h, RepM_i23 h, ix_nI (show r < 2 ^ 31 by omega), vp_in_nI (show r < 40 by omega) (by decide), shr1 (mL S 2 r) (show w < 64 by omega), shr1 (mL S 3 r) (show w < 64 by omega), i64_01, true_and, and_true, forall_eq, forall_eq', Option.some.injEq, exists_eq_left', false_implies, true_implies, forall_const, not_false_eq_true, not_true_eq_false, implies_true, b2iT, b2iF, i1n0, i0n1, Option.isSome_some, Option.isSome_none, Option.map_some, Option.map_none, reduceCtorEq, b2i_bz]
        by_cases hd : mI S 14 r = 0
        · simp only [hd, if_true] at hk
          refine ⟨fun _ => ⟨fun hn => ⟨fun hm => ?_, fun hm => ?_⟩, fun hn => ?_⟩, fun hn => absurd hd hn⟩
          · have e1 : bT (mL S 2 r) w = false := by simpa using hn
            have e2 : bT (mL S 3 r) w = false := by simpa using hm
            rw [e1, e2] at hk
            exact tail 0 hk
          · have e1 : bT (mL S 2 r) w = false := by simpa using hn
            rw [e1, hm] at hk
            exact tail 2 hk
          · rw [hn] at hk
            exact tail 1 hk
        · simp only [hd, if_false] at hk
          exact ⟨fun e => absurd e hd, fun _ => hk σ h (FrM_refl q σ)⟩
theorem M_rule (h : RepM t q S σ) (hI : Inv S) (x y z : Int32) (k : Int32 → MM → Prop) (hk : ∀ σ1, RepM t q (fRule S x y z).2 σ1 → FrM q σ σ1 → k (fRule S x y z).1 σ1) : wX4_rule t x y z σ k := by
  have hR := Inv_R hI
  unfold wX4_rule
  unfold fRule at hk
  simp only [eM_isCode h hI, eM_in0 (show (9 : Int32).toInt = ((10 : Nat) : Int) - 1 from rfl), eM_in0 (show (1023 : Int32).toInt = ((1024 : Nat) : Int) - 1 from rfl), RepM_K h, true_and, and_true, forall_eq, forall_eq', Option.some.injEq, exists_eq_left', false_implies, true_implies, forall_const, not_false_eq_true, not_true_eq_false, implies_true, b2iT, b2iF, i1n0, i0n1, Option.isSome_some, Option.isSome_none, Option.map_some, Option.map_none, reduceCtorEq, b2i_bz]
  cases hx : vI 10 x with
  | none => rw [hx] at hk; simp only [true_and, and_true, forall_eq, forall_eq', Option.some.injEq, exists_eq_left', false_implies, true_implies, forall_const, not_false_eq_true, not_true_eq_false, implies_true, b2iT, b2iF, i1n0, i0n1, Option.isSome_some, Option.isSome_none, Option.map_some, Option.map_none, reduceCtorEq, b2i_bz]; exact hk σ h (FrM_refl q σ)
  | some r =>
    cases hy : vI (mN S 0) y with
    | none => rw [hx, hy] at hk; simp only [true_and, and_true, forall_eq, forall_eq', Option.some.injEq, exists_eq_left', false_implies, true_implies, forall_const, not_false_eq_true, not_true_eq_false, implies_true, b2iT, b2iF, i1n0, i0n1, Option.isSome_some, Option.isSome_none, Option.map_some, Option.map_none, reduceCtorEq, b2i_bz]; exact hk σ h (FrM_refl q σ)
    | some c =>
      cases hz : vI 1024 z with
      | none => rw [hx, hy, hz] at hk; simp only [true_and, and_true, forall_eq, forall_eq', Option.some.injEq, exists_eq_left', false_implies, true_implies, forall_const, not_false_eq_true, not_true_eq_false, implies_true, b2iT, b2iF, i1n0, i0n1, Option.isSome_some, Option.isSome_none, Option.map_some, Option.map_none, reduceCtorEq, b2i_bz]; exact hk σ h (FrM_refl q σ)
      | some b =>
        rw [hx, hy, hz] at hk
        simp only [RepM_nR h, true_and, and_true, forall_eq, forall_eq', Option.some.injEq, exists_eq_left', false_implies, true_implies, forall_const, not_false_eq_true, not_true_eq_false, implies_true, b2iT, b2iF, i1n0, i0n1, Option.isSome_some, Option.isSome_none, Option.map_some, Option.map_none, reduceCtorEq, b2i_bz]
        by_cases h40 : mN S 3 = 40
        · rw [h40] at hk ⊢
          simp only [show nI 40 = 40 from rfl, true_and, and_true, forall_eq, forall_eq', Option.some.injEq, exists_eq_left', false_implies, true_implies, forall_const, not_false_eq_true, not_true_eq_false, implies_true, b2iT, b2iF, i1n0, i0n1, Option.isSome_some, Option.isSome_none, Option.map_some, Option.map_none, reduceCtorEq, b2i_bz]
          exact hk σ h (FrM_refl q σ)
        · have h4 : ¬ nI (mN S 3) = 40 := fun e => h40 ((nI_eq (b := 40) (by omega) (by decide)).mp e)
          have h1 := RepM_w19 h (mN S 3) x
          have h2 := RepM_w20 h1 (mN S 3) y
          have h3 := RepM_w21 h2 (mN S 3) z
          have h5 := RepM_v18 h3 (mN S 3 + 1)
          simp only [h40, if_false] at hk
          simp only [h4, RepM_r19 h, RepM_k19 h, RepM_n19 h, RepM_r20 h1, RepM_k20 h1, RepM_n20 h, RepM_r21 h2, RepM_k21 h2, RepM_n21 h, RepM_nR h1, RepM_nR h2, RepM_nR h3, ix_nI (show mN S 3 < 2 ^ 31 by omega), vp_in_nI (show mN S 3 < 40 by omega) (by decide), mN_sI, nI_1, true_and, and_true, forall_eq, forall_eq', Option.some.injEq, exists_eq_left', false_implies, true_implies, forall_const, not_false_eq_true, not_true_eq_false, implies_true, b2iT, b2iF, i1n0, i0n1, Option.isSome_some, Option.isSome_none, Option.map_some, Option.map_none, reduceCtorEq, b2i_bz]
          simp only [mI_sI, nI_pred, and_self, if_true]
          exact hk _ h5 (FrM_tr (FrM_tr (FrM_I (by decide)) (FrM_I (by decide))) (FrM_tr (FrM_I (by decide)) (FrM_t (RepM_K h3))))
end PM
