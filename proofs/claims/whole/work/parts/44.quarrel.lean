def qr (S : MM) (a b : Nat) : Bool := (decide (a < mN S 3) && decide (b < mN S 3)) && (decide (mI S 14 a = 0) && (decide (mI S 14 b = 0) && (decide (mI S 11 a = mI S 11 b) && (!decide (mI S 12 a = mI S 12 b) && (!decide (mI S 13 a &&& mI S 13 b = 0) && (decide (mL S 2 a &&& mL S 3 b = 0) && decide (mL S 2 b &&& mL S 3 a = 0)))))))
def qI (S : MM) (i : Int32) (a : Nat) : Nat → Nat → Nat → Option Int32 × Nat
  | 0, _, c => (none, c)
  | d + 1, b, c => if qr S a b then (if nI c = i then (some ((100 : Int32) * nI a + nI b), c) else qI S i a d (b + 1) (c + 1)) else qI S i a d (b + 1) c
def qO (S : MM) (i : Int32) : Nat → Nat → Nat → Int32
  | 0, _, _ => -1
  | d + 1, a, c => match qI S i a d (a + 1) c with
    | (some r, _) => r
    | (none, c2) => qO S i d (a + 1) c2
def fQuarrel (S : MM) (x : Int32) : Int32 := qO S x 40 0 0
def qC (S : MM) : Nat → Nat → Nat → Nat
  | 0, _, c => c
  | d + 1, a, c => qC S d (a + 1) (qI S (-1) a d (a + 1) c).2
theorem qr_out {S : MM} {a b : Nat} (h : mN S 3 ≤ a ∨ mN S 3 ≤ b) : qr S a b = false := by
  unfold qr
  have : (decide (a < mN S 3) && decide (b < mN S 3)) = false := by
    simp only [Bool.and_eq_false_iff, decide_eq_false_iff_not]; omega
  rw [this]; rfl
theorem qI_out {S : MM} {i : Int32} {a : Nat} : ∀ d b c, (mN S 3 ≤ a ∨ mN S 3 ≤ b) → qI S i a d b c = (none, c)
  | 0, _, _, _ => rfl
  | d + 1, b, c, h => by
    show (if qr S a b = true then _ else _) = _
    rw [qr_out h, if_neg (by decide)]
    exact qI_out d (b + 1) c (by omega)
theorem qO_out {S : MM} {i : Int32} : ∀ d a c, mN S 3 ≤ a → qO S i d a c = -1
  | 0, _, _, _ => rfl
  | d + 1, a, c, h => by
    unfold qO
    rw [qI_out d (a + 1) c (Or.inl h)]
    exact qO_out d (a + 1) c (by omega)
theorem qC_out {S : MM} : ∀ d a c, mN S 3 ≤ a → qC S d a c = c
  | 0, _, _, _ => rfl
  | d + 1, a, c, h => by
    unfold qC
    rw [qI_out d (a + 1) c (Or.inl h)]
    exact qC_out d (a + 1) c (by omega)
theorem i_left (x : Int32) (c : Nat) : x - nI c + (-1) = x - nI (c + 1) := by
  rw [nI_succ, Int32.sub_eq_add_neg, Int32.sub_eq_add_neg, Int32.neg_add, Int32.sub_eq_add_neg, Int32.add_assoc]
theorem i_zero {x : Int32} {c : Nat} : x - nI c = 0 ↔ nI c = x := by
  constructor
  · intro h
    have := Int32.sub_add_cancel x (nI c)
    rw [h] at this
    rw [Int32.zero_add] at this
    exact this
  · intro h
    rw [h, Int32.sub_self]
section PM
variable {t : Nat} {q : Nat → Nat} {S σ : MM}
theorem M_quarrels (h : RepM t q S σ) (hI : Inv S) {a b : Nat} (ha : a < mN S 3) (hb : b < mN S 3) (k : Int32 → MM → Prop) (hk : k (b2i (qr S a b)) σ) : wX4_quarrels t (nI a) (nI b) σ k := by
  have hR := Inv_R hI
  unfold wX4_quarrels
  unfold qr at hk
  simp only [ha, hb, decide_true, Bool.true_and] at hk
  simp only [RepM_K h, RepM_r24 h, RepM_k24 h, RepM_n24 h, RepM_i24 h, RepM_r19 h, RepM_k19 h, RepM_n19 h, RepM_i19 h, RepM_r20 h, RepM_k20 h, RepM_n20 h, RepM_i20 h, RepM_r21 h, RepM_k21 h, RepM_n21 h, RepM_i21 h, RepM_r22 h, RepM_k22 h, RepM_n22 h, RepM_i22 h, RepM_r23 h, RepM_k23 h, RepM_n23 h, RepM_i23 h, ix_nI (show a < 2 ^ 31 by omega), vp_in_nI (show a < 40 by omega) (by decide), ix_nI (show b < 2 ^ 31 by omega), vp_in_nI (show b < 40 by omega) (by decide), true_and, and_true, forall_eq, forall_eq', Option.some.injEq, exists_eq_left', false_implies, true_implies, forall_const, not_false_eq_true, not_true_eq_false, implies_true, b2iT, b2iF, i1n0, i0n1, Option.isSome_some, Option.isSome_none, Option.map_some, Option.map_none, reduceCtorEq, b2i_bz]
  by_cases e1 : mI S 14 a = 0
  · by_cases e2 : mI S 14 b = 0
    · by_cases e3 : mI S 11 a = mI S 11 b
      · by_cases e4 : mI S 12 a = mI S 12 b
        · simp only [e1, e2, e3, e4, decide_true, Bool.true_and, Bool.not_true, Bool.false_and, true_and, and_true, forall_eq, forall_eq', Option.some.injEq, exists_eq_left', false_implies, true_implies, forall_const, not_false_eq_true, not_true_eq_false, implies_true, b2iT, b2iF, i1n0, i0n1, Option.isSome_some, Option.isSome_none, Option.map_some, Option.map_none, reduceCtorEq, b2i_bz] at hk ⊢; exact hk
        · by_cases e5 : mI S 13 a &&& mI S 13 b = 0
          · simp only [e1, e2, e3, e4, e5, decide_true, decide_false, Bool.true_and, Bool.not_true, Bool.not_false, Bool.false_and, true_and, and_true, forall_eq, forall_eq', Option.some.injEq, exists_eq_left', false_implies, true_implies, forall_const, not_false_eq_true, not_true_eq_false, implies_true, b2iT, b2iF, i1n0, i0n1, Option.isSome_some, Option.isSome_none, Option.map_some, Option.map_none, reduceCtorEq, b2i_bz] at hk ⊢; exact hk
          · by_cases e6 : mL S 2 a &&& mL S 3 b = 0
            · by_cases e7 : mL S 2 b &&& mL S 3 a = 0
              · simp only [e1, e2, e3, e4, e5, e6, e7, decide_true, decide_false, Bool.true_and, Bool.not_false, true_and, and_true, forall_eq, forall_eq', Option.some.injEq, exists_eq_left', false_implies, true_implies, forall_const, not_false_eq_true, not_true_eq_false, implies_true, b2iT, b2iF, i1n0, i0n1, Option.isSome_some, Option.isSome_none, Option.map_some, Option.map_none, reduceCtorEq, b2i_bz] at hk ⊢; exact hk
              · simp only [e1, e2, e3, e4, e5, e6, e7, decide_true, decide_false, Bool.true_and, Bool.not_false, true_and, and_true, forall_eq, forall_eq', Option.some.injEq, exists_eq_left', false_implies, true_implies, forall_const, not_false_eq_true, not_true_eq_false, implies_true, b2iT, b2iF, i1n0, i0n1, Option.isSome_some, Option.isSome_none, Option.map_some, Option.map_none, reduceCtorEq, b2i_bz] at hk ⊢; exact hk
            · simp only [e1, e2, e3, e4, e5, e6, decide_true, decide_false, Bool.true_and, Bool.not_false, Bool.false_and, true_and, and_true, forall_eq, forall_eq', Option.some.injEq, exists_eq_left', false_implies, true_implies, forall_const, not_false_eq_true, not_true_eq_false, implies_true, b2iT, b2iF, i1n0, i0n1, Option.isSome_some, Option.isSome_none, Option.map_some, Option.map_none, reduceCtorEq, b2i_bz] at hk ⊢; exact hk
      · simp only [e1, e2, e3, decide_true, decide_false, Bool.true_and, Bool.false_and, true_and, and_true, forall_eq, forall_eq', Option.some.injEq, exists_eq_left', false_implies, true_implies, forall_const, not_false_eq_true, not_true_eq_false, implies_true, b2iT, b2iF, i1n0, i0n1, Option.isSome_some, Option.isSome_none, Option.map_some, Option.map_none, reduceCtorEq, b2i_bz] at hk ⊢; exact hk
    · simp only [e1, e2, decide_true, decide_false, Bool.true_and, Bool.false_and, true_and, and_true, forall_eq, forall_eq', Option.some.injEq, exists_eq_left', false_implies, true_implies, forall_const, not_false_eq_true, not_true_eq_false, implies_true, b2iT, b2iF, i1n0, i0n1, Option.isSome_some, Option.isSome_none, Option.map_some, Option.map_none, reduceCtorEq, b2i_bz] at hk ⊢; exact hk
  · simp only [e1, decide_false, Bool.false_and, true_and, and_true, forall_eq, forall_eq', Option.some.injEq, exists_eq_left', false_implies, true_implies, forall_const, not_false_eq_true, not_true_eq_false, implies_true, b2iT, b2iF, i1n0, i0n1, Option.isSome_some, Option.isSome_none, Option.map_some, Option.map_none, reduceCtorEq, b2i_bz] at hk ⊢; exact hk
def qGo (k : Int32 → MM → Prop) (go : Nat → Prop) (σ : MM) (p : Option Int32 × Nat) : Prop := match p with
  | (some r, _) => k r σ
  | (none, c) => go c
theorem M_q21 (h : RepM t q S σ) (hI : Inv S) (i : Int32) (k : Int32 → MM → Prop) (g4 : Int32 → Int32 → Int32 → MM → Prop) {a : Nat} (ha : a < mN S 3) : ∀ e b c d, b + e = mN S 3 → b + d = 40 → qGo k (fun c2 => g4 i (i - nI c2) (nI (a + 1)) σ) σ (qI S i a d b c) → wX4_quarrel_21 k t g4 (e + 1) i (i - nI c) (nI a) (nI b) σ := by
  have hR := Inv_R hI
  intro e
  induction e with
  | zero =>
    intro b c d hb hd hk
    have hb2 : b = mN S 3 := by omega
    rw [qI_out d b c (Or.inr (by omega))] at hk
    subst hb2
    unfold wX4_quarrel_21
    simp only [RepM_K h, RepM_nR h, show nI (mN S 3) ≤ nI (mN S 3) from nI_le (Nat.le_refl _) (by omega), nI_1, true_and, and_true, forall_eq, forall_eq', Option.some.injEq, exists_eq_left', false_implies, true_implies, forall_const, not_false_eq_true, not_true_eq_false, implies_true, b2iT, b2iF, i1n0, i0n1, Option.isSome_some, Option.isSome_none, Option.map_some, Option.map_none, reduceCtorEq, b2i_bz]
    exact hk
  | succ e ih =>
    intro b c d hb hd hk
    obtain ⟨d, rfl⟩ : ∃ d2, d = d2 + 1 := ⟨d - 1, by omega⟩
    have e1 : ¬ nI (mN S 3) ≤ nI b := nI_ge (by omega) (by omega)
    unfold wX4_quarrel_21
    simp only [RepM_K h, RepM_nR h, e1, true_and, and_true, forall_eq, forall_eq', Option.some.injEq, exists_eq_left', false_implies, true_implies, forall_const, not_false_eq_true, not_true_eq_false, implies_true, b2iT, b2iF, i1n0, i0n1, Option.isSome_some, Option.isSome_none, Option.map_some, Option.map_none, reduceCtorEq, b2i_bz]
    refine M_quarrels h hI ha (by omega) _ ?_
    have un : qI S i a (d + 1) b c = if qr S a b then (if nI c = i then (some ((100 : Int32) * nI a + nI b), c) else qI S i a d (b + 1) (c + 1)) else qI S i a d (b + 1) c := rfl
    rw [un] at hk
    cases hq : qr S a b with
    | true =>
      rw [hq] at hk
      simp only [i_zero, i_left, nI_1, true_and, and_true, forall_eq, forall_eq', Option.some.injEq, exists_eq_left', false_implies, true_implies, forall_const, not_false_eq_true, not_true_eq_false, implies_true, b2iT, b2iF, i1n0, i0n1, Option.isSome_some, Option.isSome_none, Option.map_some, Option.map_none, reduceCtorEq, b2i_bz]
      by_cases hc : nI c = i
      · simp only [hc, if_true, true_and, and_true, forall_eq, forall_eq', Option.some.injEq, exists_eq_left', false_implies, true_implies, forall_const, not_false_eq_true, not_true_eq_false, implies_true, b2iT, b2iF, i1n0, i0n1, Option.isSome_some, Option.isSome_none, Option.map_some, Option.map_none, reduceCtorEq, b2i_bz] at hk ⊢
        exact hk
      · simp only [hc, if_true, if_false, true_and, and_true, forall_eq, forall_eq', Option.some.injEq, exists_eq_left', false_implies, true_implies, forall_const, not_false_eq_true, not_true_eq_false, implies_true, b2iT, b2iF, i1n0, i0n1, Option.isSome_some, Option.isSome_none, Option.map_some, Option.map_none, reduceCtorEq, b2i_bz] at hk ⊢
        exact ih (b + 1) (c + 1) d (by omega) (by omega) hk
    | false =>
      rw [hq] at hk
      simp only [nI_1, Bool.false_eq_true, if_false, true_and, and_true, forall_eq, forall_eq', Option.some.injEq, exists_eq_left', false_implies, true_implies, forall_const, not_false_eq_true, not_true_eq_false, implies_true, b2iT, b2iF, i1n0, i0n1, Option.isSome_some, Option.isSome_none, Option.map_some, Option.map_none, reduceCtorEq, b2i_bz] at hk ⊢
      exact ih (b + 1) c d (by omega) (by omega) hk
theorem M_quarrel_l (h : RepM t q S σ) (hI : Inv S) {i : Int32} (hi : ¬ i < 0) (k : Int32 → MM → Prop) : ∀ e a c d, a + e = mN S 3 → a + d = 40 → k (qO S i d a c) σ → wX4_quarrel_4 k t (e + 1) i (i - nI c) (nI a) σ := by
  have hR := Inv_R hI
  intro e
  induction e with
  | zero =>
    intro a c d ha hd hk
    have ha2 : a = mN S 3 := by omega
    rw [qO_out d a c (by omega)] at hk
    subst ha2
    unfold wX4_quarrel_4
    simp only [RepM_K h, RepM_nR h, show nI (mN S 3) ≤ nI (mN S 3) from nI_le (Nat.le_refl _) (by omega), true_and, and_true, forall_eq, forall_eq', Option.some.injEq, exists_eq_left', false_implies, true_implies, forall_const, not_false_eq_true, not_true_eq_false, implies_true, b2iT, b2iF, i1n0, i0n1, Option.isSome_some, Option.isSome_none, Option.map_some, Option.map_none, reduceCtorEq, b2i_bz]
    exact hk
  | succ e ih =>
    intro a c d ha hd hk
    obtain ⟨d, rfl⟩ : ∃ d2, d = d2 + 1 := ⟨d - 1, by omega⟩
    have e1 : ¬ nI (mN S 3) ≤ nI a := nI_ge (by omega) (by omega)
    unfold wX4_quarrel_4
    simp only [RepM_K h, RepM_nR h, e1, hi, nI_1, true_and, and_true, forall_eq, forall_eq', Option.some.injEq, exists_eq_left', false_implies, true_implies, forall_const, not_false_eq_true, not_true_eq_false, implies_true, b2iT, b2iF, i1n0, i0n1, Option.isSome_some, Option.isSome_none, Option.map_some, Option.map_none, reduceCtorEq, b2i_bz]
    refine ⟨e + 1, M_q21 h hI i k _ (show a < mN S 3 by omega) e (a + 1) c d (by omega) (by omega) ?_⟩
    unfold qO at hk
    unfold qGo
    cases hq : qI S i a d (a + 1) c with
    | mk o c2 =>
      rw [hq] at hk
      cases o with
      | some r => exact hk
      | none => exact ih (a + 1) c2 d (by omega) (by omega) hk
theorem i_sub0 (x : Int32) : x - nI 0 = x := by rw [nI_0]; exact Int32.sub_zero x
theorem qI_neg {i : Int32} (hi : i < 0) {a : Nat} : ∀ d b c, c + d ≤ 2000 → (qI S i a d b c).1 = none ∧ (qI S i a d b c).2 ≤ c + d
  | 0, _, c, _ => ⟨rfl, Nat.le_refl _⟩
  | d + 1, b, c, hc => by
    have un : qI S i a (d + 1) b c = if qr S a b then (if nI c = i then (some ((100 : Int32) * nI a + nI b), c) else qI S i a d (b + 1) (c + 1)) else qI S i a d (b + 1) c := rfl
    have hne : ¬ nI c = i := fun e => by rw [← e] at hi; exact absurd hi (nI_pos (by omega))
    rw [un]
    split
    · obtain ⟨h1, h2⟩ := qI_neg hi (a := a) d (b + 1) (c + 1) (by omega)
      exact ⟨h1, by omega⟩
    · obtain ⟨h1, h2⟩ := qI_neg hi (a := a) d (b + 1) c (by omega)
      exact ⟨h1, by omega⟩
theorem qO_neg {i : Int32} (hi : i < 0) : ∀ d a c, d ≤ 40 → c + d * 40 ≤ 2000 → qO S i d a c = -1
  | 0, _, _, _, _ => rfl
  | d + 1, a, c, hd, hc => by
    unfold qO
    obtain ⟨h1, h2⟩ := qI_neg (S := S) hi (a := a) d (a + 1) c (by omega)
    cases hq : qI S i a d (a + 1) c with
    | mk o c2 =>
      rw [hq] at h1 h2
      simp only at h1 h2
      subst h1
      exact qO_neg hi d (a + 1) c2 (by omega) (by omega)
theorem M_quarrel (h : RepM t q S σ) (hI : Inv S) (i : Int32) (k : Int32 → MM → Prop) (hk : k (fQuarrel S i) σ) : wX4_quarrel t i σ k := by
  have hR := Inv_R hI
  unfold wX4_quarrel
  by_cases hi : i < 0
  · unfold fQuarrel at hk
    rw [qO_neg hi 40 0 0 (by decide) (by decide)] at hk
    refine ⟨1, ?_⟩
    unfold wX4_quarrel_4
    simp only [RepM_K h, hi, true_and, and_true, forall_eq, forall_eq', Option.some.injEq, exists_eq_left', false_implies, true_implies, forall_const, not_false_eq_true, not_true_eq_false, implies_true, b2iT, b2iF, i1n0, i0n1, Option.isSome_some, Option.isSome_none, Option.map_some, Option.map_none, reduceCtorEq, b2i_bz]
    exact ⟨fun _ => hk, fun _ => hk⟩
  · refine ⟨mN S 3 + 1, ?_⟩
    have := M_quarrel_l h hI hi k (mN S 3) 0 0 40 (by omega) rfl hk
    rw [i_sub0] at this
    exact this
end PM
section PC
variable {u : Nat} {q ia ra : Nat → Nat} {S σ : MM} {sf : Nat → Int64}
theorem C_doQuarrel (h : RepC u q ia ra S sf σ) (hI : Inv S) {a b : Nat} (ha : a < 40) (hb : b < 40) (k : Int32 → MM → Prop) (hk : k (b2i (qr S a b)) σ) : wX3_doQuarrel u (nI a) (nI b) σ k := by
  have hR := Inv_R hI
  unfold wX3_doQuarrel
  simp only [eC_ruleAt h hI, RepC_K h, true_and, and_true, forall_eq, forall_eq', Option.some.injEq, exists_eq_left', false_implies, true_implies, forall_const, not_false_eq_true, not_true_eq_false, implies_true, b2iT, b2iF, i1n0, i0n1, Option.isSome_some, Option.isSome_none, Option.map_some, Option.map_none, reduceCtorEq, b2i_bz]
  by_cases ha2 : a < mN S 3
  · by_cases hb2 : b < mN S 3
    · rw [vI_nI ha2 (by omega), vI_nI hb2 (by omega)]
      simp only [RepC_uK h a ha2, true_and, and_true, forall_eq, forall_eq', Option.some.injEq, exists_eq_left', false_implies, true_implies, forall_const, not_false_eq_true, not_true_eq_false, implies_true, b2iT, b2iF, i1n0, i0n1, Option.isSome_some, Option.isSome_none, Option.map_some, Option.map_none, reduceCtorEq, b2i_bz]
      unfold wX1_quarrelsWith
      unfold qr at hk
      simp only [ha2, hb2, decide_true, Bool.true_and] at hk
      simp only [RepC_uK h a ha2, RepC_uK h b hb2, RepC_u0 h a ha2, RepC_u0 h b hb2, RepC_u1 h a ha2, RepC_u1 h b hb2, RepC_u2 h a ha2, RepC_u2 h b hb2, RepC_u3 h a ha2, RepC_u3 h b hb2, RepC_u4 h a ha2, RepC_u4 h b hb2, RepC_u5 h a ha2, RepC_u5 h b hb2, true_and, and_true, forall_eq, forall_eq', Option.some.injEq, exists_eq_left', false_implies, true_implies, forall_const, not_false_eq_true, not_true_eq_false, implies_true, b2iT, b2iF, i1n0, i0n1, Option.isSome_some, Option.isSome_none, Option.map_some, Option.map_none, reduceCtorEq, b2i_bz]
      rw [Int64.and_comm (mL S 3 a) (mL S 2 b)]
      by_cases e1 : mI S 14 a = 0
      · by_cases e2 : mI S 14 b = 0
        · by_cases e3 : mI S 11 a = mI S 11 b
          · by_cases e4 : mI S 12 a = mI S 12 b
            · simp only [e1, e2, e3, e4, decide_true, Bool.true_and, Bool.not_true, Bool.false_and, true_and, and_true, forall_eq, forall_eq', Option.some.injEq, exists_eq_left', false_implies, true_implies, forall_const, not_false_eq_true, not_true_eq_false, implies_true, b2iT, b2iF, i1n0, i0n1, Option.isSome_some, Option.isSome_none, Option.map_some, Option.map_none, reduceCtorEq, b2i_bz] at hk ⊢; exact hk
            · by_cases e5 : mI S 13 a &&& mI S 13 b = 0
              · simp only [e1, e2, e3, e4, e5, decide_true, decide_false, Bool.true_and, Bool.not_true, Bool.not_false, Bool.false_and, true_and, and_true, forall_eq, forall_eq', Option.some.injEq, exists_eq_left', false_implies, true_implies, forall_const, not_false_eq_true, not_true_eq_false, implies_true, b2iT, b2iF, i1n0, i0n1, Option.isSome_some, Option.isSome_none, Option.map_some, Option.map_none, reduceCtorEq, b2i_bz] at hk ⊢; exact hk
              · by_cases e6 : mL S 2 a &&& mL S 3 b = 0
                · by_cases e7 : mL S 2 b &&& mL S 3 a = 0
                  · simp only [e1, e2, e3, e4, e5, e6, e7, decide_true, decide_false, Bool.true_and, Bool.not_false, true_and, and_true, forall_eq, forall_eq', Option.some.injEq, exists_eq_left', false_implies, true_implies, forall_const, not_false_eq_true, not_true_eq_false, implies_true, b2iT, b2iF, i1n0, i0n1, Option.isSome_some, Option.isSome_none, Option.map_some, Option.map_none, reduceCtorEq, b2i_bz] at hk ⊢; exact hk
                  · simp only [e1, e2, e3, e4, e5, e6, e7, decide_true, decide_false, Bool.true_and, Bool.not_false, true_and, and_true, forall_eq, forall_eq', Option.some.injEq, exists_eq_left', false_implies, true_implies, forall_const, not_false_eq_true, not_true_eq_false, implies_true, b2iT, b2iF, i1n0, i0n1, Option.isSome_some, Option.isSome_none, Option.map_some, Option.map_none, reduceCtorEq, b2i_bz] at hk ⊢; exact hk
                · simp only [e1, e2, e3, e4, e5, e6, decide_true, decide_false, Bool.true_and, Bool.not_false, Bool.false_and, true_and, and_true, forall_eq, forall_eq', Option.some.injEq, exists_eq_left', false_implies, true_implies, forall_const, not_false_eq_true, not_true_eq_false, implies_true, b2iT, b2iF, i1n0, i0n1, Option.isSome_some, Option.isSome_none, Option.map_some, Option.map_none, reduceCtorEq, b2i_bz] at hk ⊢; exact hk
          · simp only [e1, e2, e3, decide_true, decide_false, Bool.true_and, Bool.false_and, true_and, and_true, forall_eq, forall_eq', Option.some.injEq, exists_eq_left', false_implies, true_implies, forall_const, not_false_eq_true, not_true_eq_false, implies_true, b2iT, b2iF, i1n0, i0n1, Option.isSome_some, Option.isSome_none, Option.map_some, Option.map_none, reduceCtorEq, b2i_bz] at hk ⊢; exact hk
        · simp only [e1, e2, decide_true, decide_false, Bool.true_and, Bool.false_and, true_and, and_true, forall_eq, forall_eq', Option.some.injEq, exists_eq_left', false_implies, true_implies, forall_const, not_false_eq_true, not_true_eq_false, implies_true, b2iT, b2iF, i1n0, i0n1, Option.isSome_some, Option.isSome_none, Option.map_some, Option.map_none, reduceCtorEq, b2i_bz] at hk ⊢; exact hk
      · simp only [e1, decide_false, Bool.false_and, true_and, and_true, forall_eq, forall_eq', Option.some.injEq, exists_eq_left', false_implies, true_implies, forall_const, not_false_eq_true, not_true_eq_false, implies_true, b2iT, b2iF, i1n0, i0n1, Option.isSome_some, Option.isSome_none, Option.map_some, Option.map_none, reduceCtorEq, b2i_bz] at hk ⊢; exact hk
    · rw [qr_out (Or.inr (by omega))] at hk
      rw [vI_nI ha2 (by omega), vI_big (by omega) (nI_le (by omega) (by omega))]
      simp only [true_and, and_true, forall_eq, forall_eq', Option.some.injEq, exists_eq_left', false_implies, true_implies, forall_const, not_false_eq_true, not_true_eq_false, implies_true, b2iT, b2iF, i1n0, i0n1, Option.isSome_some, Option.isSome_none, Option.map_some, Option.map_none, reduceCtorEq, b2i_bz]
      exact hk
  · rw [qr_out (Or.inl (by omega))] at hk
    rw [vI_big (by omega) (nI_le (by omega) (by omega))]
    simp only [true_and, and_true, forall_eq, forall_eq', Option.some.injEq, exists_eq_left', false_implies, true_implies, forall_const, not_false_eq_true, not_true_eq_false, implies_true, b2iT, b2iF, i1n0, i0n1, Option.isSome_some, Option.isSome_none, Option.map_some, Option.map_none, reduceCtorEq, b2i_bz]
    exact hk
theorem C_q18 (h : RepC u q ia ra S sf σ) (hI : Inv S) (i : Int32) (k : Int32 → MM → Prop) (g4 : Int32 → Int32 → Int32 → MM → Prop) {a : Nat} (ha : a < 40) : ∀ d b c, b + d = 40 → qGo k (fun c2 => g4 i (nI c2) (nI (a + 1)) σ) σ (qI S i a d b c) → wX3_quarrel_18 k u g4 (d + 1) i (nI c) (nI a) (nI b) σ := by
  intro d
  induction d with
  | zero =>
    intro b c hb hk
    have hb2 : b = 40 := by omega
    subst hb2
    unfold wX3_quarrel_18
    simp only [RepC_K h, RepC_r7 h, RepC_k7 h, RepC_n7 h, le40, nI_1, true_and, and_true, forall_eq, forall_eq', Option.some.injEq, exists_eq_left', false_implies, true_implies, forall_const, not_false_eq_true, not_true_eq_false, implies_true, b2iT, b2iF, i1n0, i0n1, Option.isSome_some, Option.isSome_none, Option.map_some, Option.map_none, reduceCtorEq, b2i_bz]
    exact hk
  | succ d ih =>
    intro b c hb hk
    have e1 : ¬ nI 40 ≤ nI b := nI_ge (by omega) (by decide)
    unfold wX3_quarrel_18
    simp only [RepC_K h, RepC_r7 h, RepC_k7 h, RepC_n7 h, e1, true_and, and_true, forall_eq, forall_eq', Option.some.injEq, exists_eq_left', false_implies, true_implies, forall_const, not_false_eq_true, not_true_eq_false, implies_true, b2iT, b2iF, i1n0, i0n1, Option.isSome_some, Option.isSome_none, Option.map_some, Option.map_none, reduceCtorEq, b2i_bz]
    refine C_doQuarrel h hI ha (by omega) _ ?_
    have un : qI S i a (d + 1) b c = if qr S a b then (if nI c = i then (some ((100 : Int32) * nI a + nI b), c) else qI S i a d (b + 1) (c + 1)) else qI S i a d (b + 1) c := rfl
    rw [un] at hk
    cases hq : qr S a b with
    | true =>
      rw [hq] at hk
      simp only [nI_1, true_and, and_true, forall_eq, forall_eq', Option.some.injEq, exists_eq_left', false_implies, true_implies, forall_const, not_false_eq_true, not_true_eq_false, implies_true, b2iT, b2iF, i1n0, i0n1, Option.isSome_some, Option.isSome_none, Option.map_some, Option.map_none, reduceCtorEq, b2i_bz]
      by_cases hc : nI c = i
      · simp only [hc, if_true, true_and, and_true, forall_eq, forall_eq', Option.some.injEq, exists_eq_left', false_implies, true_implies, forall_const, not_false_eq_true, not_true_eq_false, implies_true, b2iT, b2iF, i1n0, i0n1, Option.isSome_some, Option.isSome_none, Option.map_some, Option.map_none, reduceCtorEq, b2i_bz] at hk ⊢
        exact hk
      · simp only [hc, if_true, if_false, true_and, and_true, forall_eq, forall_eq', Option.some.injEq, exists_eq_left', false_implies, true_implies, forall_const, not_false_eq_true, not_true_eq_false, implies_true, b2iT, b2iF, i1n0, i0n1, Option.isSome_some, Option.isSome_none, Option.map_some, Option.map_none, reduceCtorEq, b2i_bz] at hk ⊢
        exact ih (b + 1) (c + 1) (by omega) hk
    | false =>
      rw [hq] at hk
      simp only [nI_1, Bool.false_eq_true, if_false, true_and, and_true, forall_eq, forall_eq', Option.some.injEq, exists_eq_left', false_implies, true_implies, forall_const, not_false_eq_true, not_true_eq_false, implies_true, b2iT, b2iF, i1n0, i0n1, Option.isSome_some, Option.isSome_none, Option.map_some, Option.map_none, reduceCtorEq, b2i_bz] at hk ⊢
      exact ih (b + 1) c (by omega) hk
theorem C_quarrel_l (h : RepC u q ia ra S sf σ) (hI : Inv S) (i : Int32) (k : Int32 → MM → Prop) : ∀ d a c, a + d = 40 → k (qO S i d a c) σ → wX3_quarrel_4 k u (d + 1) i (nI c) (nI a) σ := by
  intro d
  induction d with
  | zero =>
    intro a c ha hk
    have ha2 : a = 40 := by omega
    subst ha2
    unfold wX3_quarrel_4
    simp only [RepC_K h, RepC_r7 h, RepC_k7 h, RepC_n7 h, le40, true_and, and_true, forall_eq, forall_eq', Option.some.injEq, exists_eq_left', false_implies, true_implies, forall_const, not_false_eq_true, not_true_eq_false, implies_true, b2iT, b2iF, i1n0, i0n1, Option.isSome_some, Option.isSome_none, Option.map_some, Option.map_none, reduceCtorEq, b2i_bz]
    exact hk
  | succ d ih =>
    intro a c ha hk
    have e1 : ¬ nI 40 ≤ nI a := nI_ge (by omega) (by decide)
    unfold wX3_quarrel_4
    simp only [RepC_K h, RepC_r7 h, RepC_k7 h, RepC_n7 h, e1, nI_1, true_and, and_true, forall_eq, forall_eq', Option.some.injEq, exists_eq_left', false_implies, true_implies, forall_const, not_false_eq_true, not_true_eq_false, implies_true, b2iT, b2iF, i1n0, i0n1, Option.isSome_some, Option.isSome_none, Option.map_some, Option.map_none, reduceCtorEq, b2i_bz]
    refine ⟨d + 1, C_q18 h hI i k _ (show a < 40 by omega) d (a + 1) c (by omega) ?_⟩
    unfold qO at hk
    unfold qGo
    cases hq : qI S i a d (a + 1) c with
    | mk o c2 =>
      rw [hq] at hk
      cases o with
      | some r => exact hk
      | none => exact ih (a + 1) c2 (by omega) hk
theorem C_quarrel (h : RepC u q ia ra S sf σ) (hI : Inv S) (i : Int32) (k : Int32 → MM → Prop) (hk : k (fQuarrel S i) σ) : wX3_quarrel u i σ k := ⟨41, C_quarrel_l h hI i k 40 0 0 rfl hk⟩
end PC
