/-! what one side's work leaves of the other's -/
def agr (σ σ1 : MM) (a : Nat) : Prop := mK σ1 a = mK σ a ∧ mN σ1 a = mN σ a ∧ mI σ1 a = mI σ a ∧ mL σ1 a = mL σ a ∧ mR σ1 a = mR σ a
theorem agr_refl (σ : MM) (a : Nat) : agr σ σ a := ⟨rfl, rfl, rfl, rfl, rfl⟩
theorem agr_tr {σ σ1 σ2 : MM} {a : Nat} (h : agr σ σ1 a) (h2 : agr σ1 σ2 a) : agr σ σ2 a := ⟨h2.1.trans h.1, h2.2.1.trans h.2.1, h2.2.2.1.trans h.2.2.1, h2.2.2.2.1.trans h.2.2.2.1, h2.2.2.2.2.trans h.2.2.2.2⟩
theorem agr_sI {σ : MM} {a b k : Nat} {v : Int32} (h : b ≠ a) : agr σ (sI σ a k v) b := ⟨rfl, rfl, mI_sI_ne h, rfl, rfl⟩
theorem agr_sL {σ : MM} {a b k : Nat} {v : Int64} (h : b ≠ a) : agr σ (sL σ a k v) b := ⟨rfl, rfl, rfl, mL_sL_ne h, rfl⟩
theorem agr_sR {σ : MM} {a b k : Nat} {v : Option Nat} (h : b ≠ a) : agr σ (sR σ a k v) b := ⟨rfl, rfl, rfl, rfl, mR_sR_ne h⟩
theorem agr_sN {σ : MM} {a b kd n : Nat} (h : b ≠ a) : agr σ (sN σ a kd n) b := ⟨va_up_ne _ _ h, va_up_ne _ _ h, va_up_ne _ _ h, va_up_ne _ _ h, va_up_ne _ _ h⟩
def FrM (q : Nat → Nat) (σ σ1 : MM) : Prop := ∀ a, mK σ a ≠ 5 → (∀ i, i ∈ slM → a ≠ q i) → agr σ σ1 a
theorem FrM_refl (q : Nat → Nat) (σ : MM) : FrM q σ σ := fun a _ _ => agr_refl σ a
theorem FrM_tr {q : Nat → Nat} {σ σ1 σ2 : MM} (h : FrM q σ σ1) (h2 : FrM q σ1 σ2) : FrM q σ σ2 := fun a h5 hq => agr_tr (h a h5 hq) (h2 a (by rw [(h a h5 hq).1]; exact h5) hq)
theorem FrM_t {q : Nat → Nat} {σ : MM} {t k : Nat} {v : Int32} (h : mK σ t = 5) : FrM q σ (sI σ t k v) := fun a h5 _ => agr_sI (fun e => h5 (by rw [e]; exact h))
theorem FrM_I {q : Nat → Nat} {σ : MM} {i k : Nat} {v : Int32} (h : i ∈ slM) : FrM q σ (sI σ (q i) k v) := fun a _ hq => agr_sI (hq i h)
theorem FrM_L {q : Nat → Nat} {σ : MM} {i k : Nat} {v : Int64} (h : i ∈ slM) : FrM q σ (sL σ (q i) k v) := fun a _ hq => agr_sL (hq i h)
def FrC (q : Nat → Nat) (σ σ1 : MM) : Prop := ∀ a, 5 ≤ mK σ a → (∀ i, i ∈ slC → a ≠ q i) → agr σ σ1 a
theorem FrC_refl (q : Nat → Nat) (σ : MM) : FrC q σ σ := fun a _ _ => agr_refl σ a
theorem FrC_tr {q : Nat → Nat} {σ σ1 σ2 : MM} (h : FrC q σ σ1) (h2 : FrC q σ1 σ2) : FrC q σ σ2 := fun a h5 hq => agr_tr (h a h5 hq) (h2 a (by rw [(h a h5 hq).1]; exact h5) hq)
theorem FrC_oI {q : Nat → Nat} {σ : MM} {b k : Nat} {v : Int32} (h : mK σ b < 5) : FrC q σ (sI σ b k v) := fun a h5 _ => agr_sI (fun e => by rw [e] at h5; omega)
theorem FrC_oL {q : Nat → Nat} {σ : MM} {b k : Nat} {v : Int64} (h : mK σ b < 5) : FrC q σ (sL σ b k v) := fun a h5 _ => agr_sL (fun e => by rw [e] at h5; omega)
theorem FrC_I {q : Nat → Nat} {σ : MM} {i k : Nat} {v : Int32} (h : i ∈ slC) : FrC q σ (sI σ (q i) k v) := fun a _ hq => agr_sI (hq i h)
theorem FrC_L {q : Nat → Nat} {σ : MM} {i k : Nat} {v : Int64} (h : i ∈ slC) : FrC q σ (sL σ (q i) k v) := fun a _ hq => agr_sL (hq i h)
theorem FrC_R {q : Nat → Nat} {σ : MM} {i k : Nat} {v : Option Nat} (h : i ∈ slC) : FrC q σ (sR σ (q i) k v) := fun a _ hq => agr_sR (hq i h)
theorem FrC_N {q : Nat → Nat} {σ : MM} {b kd n : Nat} (h : mK σ b = 0) : FrC q σ (sN σ b kd n) := fun a h5 _ => agr_sN (fun e => by rw [e] at h5; omega)
/-! the abstract calls: answer and next state -/
def up1 (n : Nat) (x : Int32) : Bool := decide (x = -1) || (vI n x).isSome
def fCode (S : MM) (x : Int32) : Int32 × MM := if up1 (mN S 0) x then (if mN S 0 = 40 then (-3, S) else (nI (mN S 0), sC (sI S 0 (mN S 0) x) 0 (mN S 0 + 1))) else (-1, S)
def fOther (S : MM) (x : Int32) : Int32 × MM := if up1 (mN S 1) x then (if mN S 1 = 30 then (-3, S) else (nI (mN S 1), sC (sI S 1 (mN S 1) x) 1 (mN S 1 + 1))) else (-1, S)
def fExclude (S : MM) (x y z : Int32) : Int32 × MM := match vI (mN S 0) x, vI 60 y, vI 2 z with
  | some c, some w, some b => (b2i (bT (mL S 0 c) w), sL S 0 c (wB (mL S 0 c) w b))
  | _, _, _ => (-1, S)
def fGap (S : MM) (x y : Int32) : Int32 × MM := if decide (1 ≤ x ∧ x ≤ 1000) && decide (0 ≤ y ∧ y ≤ 1000) then (1, sI (sI S 15 0 x) 15 1 y) else (-1, S)
def fDrop (S : MM) (x : Int32) : Int32 × MM := match vI (mN S 3) x with
  | some r => if mI S 14 r = 0 then (1, sI S 14 r 1) else (-2, S)
  | none => (-1, S)
section PM
variable {t : Nat} {q : Nat → Nat} {S σ : MM}
theorem M_gap (h : RepM t q S σ) (x y : Int32) (k : Int32 → MM → Prop) (hk : ∀ σ1, RepM t q (fGap S x y).2 σ1 → FrM q σ σ1 → k (fGap S x y).1 σ1) : wX4_gap t x y σ k := by
  unfold wX4_gap
  unfold fGap at hk
  simp only [eM_in, RepM_K h, true_and, and_true, forall_eq, forall_eq', Option.some.injEq, exists_eq_left', false_implies, true_implies, forall_const, not_false_eq_true, not_true_eq_false, implies_true, b2iT, b2iF, i1n0, i0n1, Option.isSome_some, Option.isSome_none, Option.map_some, Option.map_none, reduceCtorEq, b2i_bz]
  cases hx : decide (1 ≤ x ∧ x ≤ 1000)
  · rw [hx] at hk
    simp only [true_and, and_true, forall_eq, forall_eq', Option.some.injEq, exists_eq_left', false_implies, true_implies, forall_const, not_false_eq_true, not_true_eq_false, implies_true, b2iT, b2iF, i1n0, i0n1, Option.isSome_some, Option.isSome_none, Option.map_some, Option.map_none, reduceCtorEq, b2i_bz]
    exact hk σ h (FrM_refl q σ)
  · cases hy : decide (0 ≤ y ∧ y ≤ 1000)
    · rw [hx, hy] at hk
      simp only [true_and, and_true, forall_eq, forall_eq', Option.some.injEq, exists_eq_left', false_implies, true_implies, forall_const, not_false_eq_true, not_true_eq_false, implies_true, b2iT, b2iF, i1n0, i0n1, Option.isSome_some, Option.isSome_none, Option.map_some, Option.map_none, reduceCtorEq, b2i_bz]
      exact hk σ h (FrM_refl q σ)
    · rw [hx, hy] at hk
      simp only [true_and, and_true, forall_eq, forall_eq', Option.some.injEq, exists_eq_left', false_implies, true_implies, forall_const, not_false_eq_true, not_true_eq_false, implies_true, b2iT, b2iF, i1n0, i0n1, Option.isSome_some, Option.isSome_none, Option.map_some, Option.map_none, reduceCtorEq, b2i_bz]
      exact hk _ (RepM_v27 (RepM_v26 h x) y) (FrM_tr (FrM_t (RepM_K h)) (FrM_t (RepM_K (RepM_v26 h x))))
theorem M_drop (h : RepM t q S σ) (hI : Inv S) (x : Int32) (k : Int32 → MM → Prop) (hk : ∀ σ1, RepM t q (fDrop S x).2 σ1 → FrM q σ σ1 → k (fDrop S x).1 σ1) : wX4_drop t x σ k := by
  unfold wX4_drop
  simp only [eM_isRule h hI, RepM_K h, true_and, and_true, forall_eq, forall_eq', Option.some.injEq, exists_eq_left', false_implies, true_implies, forall_const, not_false_eq_true, not_true_eq_false, implies_true, b2iT, b2iF, i1n0, i0n1, Option.isSome_some, Option.isSome_none, Option.map_some, Option.map_none, reduceCtorEq, b2i_bz]
  unfold fDrop at hk
  cases hx : vI (mN S 3) x with
  | none =>
    rw [hx] at hk
    simp only [true_and, and_true, forall_eq, forall_eq', Option.some.injEq, exists_eq_left', false_implies, true_implies, forall_const, not_false_eq_true, not_true_eq_false, implies_true, b2iT, b2iF, i1n0, i0n1, Option.isSome_some, Option.isSome_none, Option.map_some, Option.map_none, reduceCtorEq, b2i_bz]
    exact hk σ h (FrM_refl q σ)
  | some r =>
    rw [hx] at hk
    obtain ⟨hr, rfl⟩ := vI_some hx
    have hR := Inv_R hI
    simp only [RepM_r24 h, RepM_k24 h, RepM_n24 h, RepM_i24 h, ix_nI (show r < 2 ^ 31 by omega), vp_in_nI (show r < 40 by omega) (by decide), true_and, and_true, forall_eq, forall_eq', Option.some.injEq, exists_eq_left', false_implies, true_implies, forall_const, not_false_eq_true, not_true_eq_false, implies_true, b2iT, b2iF, i1n0, i0n1, Option.isSome_some, Option.isSome_none, Option.map_some, Option.map_none, reduceCtorEq, b2i_bz]
    by_cases h0 : mI S 14 r = 0
    · simp only [h0, if_true, true_and, and_true, forall_eq, forall_eq', Option.some.injEq, exists_eq_left', false_implies, true_implies, forall_const, not_false_eq_true, not_true_eq_false, implies_true, b2iT, b2iF, i1n0, i0n1, Option.isSome_some, Option.isSome_none, Option.map_some, Option.map_none, reduceCtorEq, b2i_bz] at hk ⊢
      exact hk _ (RepM_w24 h r 1) (FrM_I (by decide))
    · simp only [h0, if_false, true_and, and_true, forall_eq, forall_eq', Option.some.injEq, exists_eq_left', false_implies, true_implies, forall_const, not_false_eq_true, not_true_eq_false, implies_true, b2iT, b2iF, i1n0, i0n1, Option.isSome_some, Option.isSome_none, Option.map_some, Option.map_none, reduceCtorEq, b2i_bz] at hk ⊢
      exact hk σ h (FrM_refl q σ)
end PM
