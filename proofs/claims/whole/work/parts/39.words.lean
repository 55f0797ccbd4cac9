def fSpell (S : MM) (x y : Int32) : Int32 × MM := match vI 60 x, vI 60 y with
  | some w, some _ => (mI S 2 w, sI S 2 w y)
  | _, _ => (-1, S)
def fPut (S : MM) (x y : Int32) : Int32 × MM := match vT S x, vI 60 y with
  | some j, some w => if mI S 6 j = 0 then (if bT (mL S 1 j) w then (-2, S) else (nI (pop (wB (mL S 1 j) w 1)), sL S 1 j (wB (mL S 1 j) w 1))) else (-2, S)
  | _, _ => (-1, S)
def fSet (S : MM) (x y : Int32) : Int32 := match vT S x, vI 2 y with
  | some j, some b => if b = 0 then nI (pop (setS S j)) else nI (cnt (lkP S j (-1)) 160)
  | _, _ => -1
section PM
variable {t : Nat} {q : Nat → Nat} {S σ : MM}
theorem M_spell (h : RepM t q S σ) (x y : Int32) (k : Int32 → MM → Prop) (hk : ∀ σ1, RepM t q (fSpell S x y).2 σ1 → FrM q σ σ1 → k (fSpell S x y).1 σ1) : wX4_spell t x y σ k := by
  unfold wX4_spell
  unfold fSpell at hk
  simp only [eM_isWord, RepM_K h, true_and, and_true, forall_eq, forall_eq', Option.some.injEq, exists_eq_left', false_implies, true_implies, forall_const, not_false_eq_true, not_true_eq_false, implies_true, b2iT, b2iF, i1n0, i0n1, Option.isSome_some, Option.isSome_none, Option.map_some, Option.map_none, reduceCtorEq, b2i_bz]
  cases hx : vI 60 x with
  | none => rw [hx] at hk; simp only [true_and, and_true, forall_eq, forall_eq', Option.some.injEq, exists_eq_left', false_implies, true_implies, forall_const, not_false_eq_true, not_true_eq_false, implies_true, b2iT, b2iF, i1n0, i0n1, Option.isSome_some, Option.isSome_none, Option.map_some, Option.map_none, reduceCtorEq, b2i_bz]; exact hk σ h (FrM_refl q σ)
  | some w =>
    cases hy : vI 60 y with
    | none => rw [hx, hy] at hk; simp only [true_and, and_true, forall_eq, forall_eq', Option.some.injEq, exists_eq_left', false_implies, true_implies, forall_const, not_false_eq_true, not_true_eq_false, implies_true, b2iT, b2iF, i1n0, i0n1, Option.isSome_some, Option.isSome_none, Option.map_some, Option.map_none, reduceCtorEq, b2i_bz]; exact hk σ h (FrM_refl q σ)
    | some v =>
      rw [hx, hy] at hk
      obtain ⟨hw, rfl⟩ := vI_some hx
      simp only [RepM_r1 h, RepM_k1 h, RepM_n1 h, RepM_i1 h, ix_nI (show w < 2 ^ 31 by omega), vp_in_nI hw (by decide), true_and, and_true, forall_eq, forall_eq', Option.some.injEq, exists_eq_left', false_implies, true_implies, forall_const, not_false_eq_true, not_true_eq_false, implies_true, b2iT, b2iF, i1n0, i0n1, Option.isSome_some, Option.isSome_none, Option.map_some, Option.map_none, reduceCtorEq, b2i_bz]
      exact hk _ (RepM_w1 h w y) (FrM_I (by decide))
theorem M_put (h : RepM t q S σ) (hI : Inv S) (x y : Int32) (k : Int32 → MM → Prop) (hk : ∀ σ1, RepM t q (fPut S x y).2 σ1 → FrM q σ σ1 → k (fPut S x y).1 σ1) : wX4_put t x y σ k := by
  unfold wX4_put
  unfold fPut at hk
  simp only [eM_isItem h hI, eM_isWord, RepM_K h, true_and, and_true, forall_eq, forall_eq', Option.some.injEq, exists_eq_left', false_implies, true_implies, forall_const, not_false_eq_true, not_true_eq_false, implies_true, b2iT, b2iF, i1n0, i0n1, Option.isSome_some, Option.isSome_none, Option.map_some, Option.map_none, reduceCtorEq, b2i_bz]
  cases hx : vT S x with
  | none => rw [hx] at hk; simp only [true_and, and_true, forall_eq, forall_eq', Option.some.injEq, exists_eq_left', false_implies, true_implies, forall_const, not_false_eq_true, not_true_eq_false, implies_true, b2iT, b2iF, i1n0, i0n1, Option.isSome_some, Option.isSome_none, Option.map_some, Option.map_none, reduceCtorEq, b2i_bz]; exact hk σ h (FrM_refl q σ)
  | some j =>
    cases hy : vI 60 y with
    | none => rw [hx, hy] at hk; simp only [true_and, and_true, forall_eq, forall_eq', Option.some.injEq, exists_eq_left', false_implies, true_implies, forall_const, not_false_eq_true, not_true_eq_false, implies_true, b2iT, b2iF, i1n0, i0n1, Option.isSome_some, Option.isSome_none, Option.map_some, Option.map_none, reduceCtorEq, b2i_bz]; exact hk σ h (FrM_refl q σ)
    | some w =>
      rw [hx, hy] at hk
      obtain ⟨hp, hj, rfl⟩ := vT_some hx
      obtain ⟨hw, rfl⟩ := vI_some hy
      have g := RepM_w12 h j (mL S 1 j ||| lShl 1 (nI w))
      simp only [RepM_r13 h, RepM_k13 h, RepM_n13 h, RepM_i13 h, RepM_r12 h, RepM_k12 h, RepM_n12 h, RepM_i12 h, ix_nI (show j < 2 ^ 31 by omega), vp_in_nI hj (by decide), shr1 (mL S 1 j) (show w < 64 by omega), i64_01, true_and, and_true, forall_eq, forall_eq', Option.some.injEq, exists_eq_left', false_implies, true_implies, forall_const, not_false_eq_true, not_true_eq_false, implies_true, b2iT, b2iF, i1n0, i0n1, Option.isSome_some, Option.isSome_none, Option.map_some, Option.map_none, reduceCtorEq, b2i_bz]
      simp only [RepM_r12 g, RepM_k12 g, RepM_n12 g, RepM_i12 g, vp_in_nI hj (by decide), mL_sL_self, va_up_self, true_and, and_true, forall_eq, forall_eq', Option.some.injEq, exists_eq_left', false_implies, true_implies, forall_const, not_false_eq_true, not_true_eq_false, implies_true, b2iT, b2iF, i1n0, i0n1, Option.isSome_some, Option.isSome_none, Option.map_some, Option.map_none, reduceCtorEq, b2i_bz]
      by_cases hs : mI S 6 j = 0
      · simp only [hs, if_true, true_and, and_true, forall_eq, forall_eq', Option.some.injEq, exists_eq_left', false_implies, true_implies, forall_const, not_false_eq_true, not_true_eq_false, implies_true, b2iT, b2iF, i1n0, i0n1, Option.isSome_some, Option.isSome_none, Option.map_some, Option.map_none, reduceCtorEq, b2i_bz] at hk ⊢
        cases hb : bT (mL S 1 j) w with
        | true =>
          rw [hb] at hk
          simp only [true_and, and_true, forall_eq, forall_eq', Option.some.injEq, exists_eq_left', false_implies, true_implies, forall_const, not_false_eq_true, not_true_eq_false, implies_true, b2iT, b2iF, i1n0, i0n1, Option.isSome_some, Option.isSome_none, Option.map_some, Option.map_none, reduceCtorEq, b2i_bz]
          exact hk σ h (FrM_refl q σ)
        | false =>
          rw [hb] at hk
          simp only [Bool.false_eq_true, true_and, and_true, forall_eq, forall_eq', Option.some.injEq, exists_eq_left', false_implies, true_implies, forall_const, not_false_eq_true, not_true_eq_false, implies_true, b2iT, b2iF, i1n0, i0n1, Option.isSome_some, Option.isSome_none, Option.map_some, Option.map_none, reduceCtorEq, b2i_bz]
          exact M_bits _ _ _ (hk _ g (FrM_L (by decide)))
      · simp only [hs, if_false, true_and, and_true, forall_eq, forall_eq', Option.some.injEq, exists_eq_left', false_implies, true_implies, forall_const, not_false_eq_true, not_true_eq_false, implies_true, b2iT, b2iF, i1n0, i0n1, Option.isSome_some, Option.isSome_none, Option.map_some, Option.map_none, reduceCtorEq, b2i_bz] at hk ⊢
        exact hk σ h (FrM_refl q σ)
theorem M_set (h : RepM t q S σ) (hI : Inv S) (x y : Int32) (k : Int32 → MM → Prop) (hk : k (fSet S x y) σ) : wX4_set t x y σ k := by
  unfold wX4_set
  unfold fSet at hk
  simp only [eM_isItem h hI, eM_in0 (show (1 : Int32).toInt = ((2 : Nat) : Int) - 1 from rfl), RepM_K h, true_and, and_true, forall_eq, forall_eq', Option.some.injEq, exists_eq_left', false_implies, true_implies, forall_const, not_false_eq_true, not_true_eq_false, implies_true, b2iT, b2iF, i1n0, i0n1, Option.isSome_some, Option.isSome_none, Option.map_some, Option.map_none, reduceCtorEq, b2i_bz]
  cases hx : vT S x with
  | none => rw [hx] at hk; simp only [true_and, and_true, forall_eq, forall_eq', Option.some.injEq, exists_eq_left', false_implies, true_implies, forall_const, not_false_eq_true, not_true_eq_false, implies_true, b2iT, b2iF, i1n0, i0n1, Option.isSome_some, Option.isSome_none, Option.map_some, Option.map_none, reduceCtorEq, b2i_bz]; exact hk
  | some j =>
    cases hy : vI 2 y with
    | none => rw [hx, hy] at hk; simp only [true_and, and_true, forall_eq, forall_eq', Option.some.injEq, exists_eq_left', false_implies, true_implies, forall_const, not_false_eq_true, not_true_eq_false, implies_true, b2iT, b2iF, i1n0, i0n1, Option.isSome_some, Option.isSome_none, Option.map_some, Option.map_none, reduceCtorEq, b2i_bz]; exact hk
    | some b =>
      rw [hx, hy] at hk
      obtain ⟨hp, hj, rfl⟩ := vT_some hx
      obtain ⟨hb, rfl⟩ := vI_some hy
      simp only [nI_z (show b < 2 ^ 31 by omega), true_and, and_true, forall_eq, forall_eq', Option.some.injEq, exists_eq_left', false_implies, true_implies, forall_const, not_false_eq_true, not_true_eq_false, implies_true, b2iT, b2iF, i1n0, i0n1, Option.isSome_some, Option.isSome_none, Option.map_some, Option.map_none, reduceCtorEq, b2i_bz]
      by_cases hb0 : b = 0
      · simp only [hb0, if_true, true_and, and_true, forall_eq, forall_eq', Option.some.injEq, exists_eq_left', false_implies, true_implies, forall_const, not_false_eq_true, not_true_eq_false, implies_true, b2iT, b2iF, i1n0, i0n1, Option.isSome_some, Option.isSome_none, Option.map_some, Option.map_none, reduceCtorEq, b2i_bz] at hk ⊢
        exact M_setOf h hj _ (M_bits _ _ _ hk)
      · simp only [hb0, if_false, true_and, and_true, forall_eq, forall_eq', Option.some.injEq, exists_eq_left', false_implies, true_implies, forall_const, not_false_eq_true, not_true_eq_false, implies_true, b2iT, b2iF, i1n0, i0n1, Option.isSome_some, Option.isSome_none, Option.map_some, Option.map_none, reduceCtorEq, b2i_bz] at hk ⊢
        exact M_likesOf h hI hj (-1) _ hk
end PM
section PC
variable {u : Nat} {q ia ra : Nat → Nat} {S σ : MM} {sf : Nat → Int64}
theorem C_spell_l (hI : Inv S) (so : Nat → Int64) (r : Int32) (k : Int32 → MM → Prop) (σ0 : MM) : ∀ d i (σ : MM), i + d = 160 → RepC u q ia ra S (fun j => if j < i then setS S j else so j) σ → FrC q σ0 σ → (∀ σ1, RepC u q ia ra S (setS S) σ1 → FrC q σ0 σ1 → k r σ1) → wX3_spell_35 k u (d + 1) r (nI i) σ := by
  intro d
  induction d with
  | zero =>
    intro i σ hi h hf hk
    have : i = 160 := by omega
    subst this
    unfold wX3_spell_35
    simp only [RepC_K h, RepC_r5 h, RepC_k5 h, RepC_n5 h, RepC_i5 h, le160, true_and, and_true, forall_eq, forall_eq', Option.some.injEq, exists_eq_left', false_implies, true_implies, forall_const, not_false_eq_true, not_true_eq_false, implies_true, b2iT, b2iF, i1n0, i0n1, Option.isSome_some, Option.isSome_none, Option.map_some, Option.map_none, reduceCtorEq, b2i_bz]
    exact hk σ (RepC_sf h (fun j hj => if_pos (prs_160 hI hj))) hf
  | succ d ih =>
    intro i σ hi h hf hk
    unfold wX3_spell_35
    have e1 : ¬ nI 160 ≤ nI i := nI_ge (by omega) (by decide)
    simp only [e1, RepC_K h, RepC_r5 h, RepC_k5 h, RepC_n5 h, RepC_i5 h, ix_nI (show i < 2 ^ 31 by omega), vp_in_nI (show i < 160 by omega) (by decide), nI_1, true_and, and_true, forall_eq, forall_eq', Option.some.injEq, exists_eq_left', false_implies, true_implies, forall_const, not_false_eq_true, not_true_eq_false, implies_true, b2iT, b2iF, i1n0, i0n1, Option.isSome_some, Option.isSome_none, Option.map_some, Option.map_none, reduceCtorEq, b2i_bz]
    by_cases hp : prs S i = true
    · simp only [hp, if_true, RepC_tK h i hp, RepC_t2 h i hp, true_and, and_true, forall_eq, forall_eq', Option.some.injEq, exists_eq_left', false_implies, true_implies, forall_const, not_false_eq_true, not_true_eq_false, implies_true, b2iT, b2iF, i1n0, i0n1, Option.isSome_some, Option.isSome_none, Option.map_some, Option.map_none, reduceCtorEq, b2i_bz]
      refine C_setOf h _ _ ?_
      simp only [RepC_tK h i hp, true_and, and_true, forall_eq, forall_eq', Option.some.injEq, exists_eq_left', false_implies, true_implies, forall_const, not_false_eq_true, not_true_eq_false, implies_true, b2iT, b2iF, i1n0, i0n1, Option.isSome_some, Option.isSome_none, Option.map_some, Option.map_none, reduceCtorEq, b2i_bz]
      refine ih (i + 1) _ (by omega) (RepC_sf (RepC_t3w h hp (setF (mI S 2) (mL S 1 i) 60)) (fun j hj => ?_)) (FrC_tr hf (FrC_oL (by rw [RepC_tK h i hp]; decide))) hk
      by_cases e : j = i
      · subst e
        rw [va_up_self, if_pos (by omega)]; rfl
      · rw [va_up_ne _ _ e]
        by_cases e2 : j < i
        · rw [if_pos e2, if_pos (by omega)]
        · rw [if_neg e2, if_neg (by omega)]
    · have hp2 : prs S i = false := by simpa using hp
      simp only [hp2, Bool.false_eq_true, if_false, true_and, and_true, forall_eq, forall_eq', Option.some.injEq, exists_eq_left', false_implies, true_implies, forall_const, not_false_eq_true, not_true_eq_false, implies_true, b2iT, b2iF, i1n0, i0n1, Option.isSome_some, Option.isSome_none, Option.map_some, Option.map_none, reduceCtorEq, b2i_bz]
      refine ih (i + 1) σ (by omega) (RepC_sf h (fun j hj => ?_)) hf hk
      have : j ≠ i := fun e => by rw [e, hp2] at hj; cases hj
      by_cases e2 : j < i
      · rw [if_pos e2, if_pos (by omega)]
      · rw [if_neg e2, if_neg (by omega)]
theorem Inv_spell (hI : Inv S) (x y : Int32) : Inv (fSpell S x y).2 := by
  unfold fSpell
  cases hx : vI 60 x with
  | none => exact hI
  | some w =>
    cases hy : vI 60 y with
    | none => exact hI
    | some v =>
      obtain ⟨hw, rfl⟩ := vI_some hx
      obtain ⟨hv, rfl⟩ := vI_some hy
      show Inv (sI S 2 w (nI v))
      refine ⟨(by have e := Inv_C hI; exact e), (by have e := Inv_O hI; exact e), (by have e := Inv_A hI; exact e), (by have e := Inv_R hI; exact e), (by have e := Inv_ab hI; exact e), (by have e := Inv_ob hI; exact e), ?_, (by have e := Inv_so hI; exact e), (by have e := Inv_tr hI; exact e), (by have e := Inv_sc hI; exact e), (by have e := Inv_it hI; exact e), (by have e := Inv_ra hI; exact e), (by have e := Inv_rc hI; exact e), (by have e := Inv_rt hI; exact e), (by have e := Inv_rd hI; exact e), (by have e := Inv_rz hI; exact e), (by have e := Inv_le hI; exact e), (by have e := Inv_ga hI; exact e), (by have e := Inv_ca hI; exact e)⟩
      intro z hz
      rw [mI_sI]
      by_cases e : z = w
      · exact ⟨v, hv, if_pos ⟨rfl, e⟩⟩
      · rw [if_neg (fun q => e q.2)]
        exact Inv_st hI z hz
theorem C_spell (h : RepC u q ia ra S (setS S) σ) (hI : Inv S) (x y : Int32) (k : Int32 → MM → Prop) (hk : ∀ σ1, RepC u q ia ra (fSpell S x y).2 (setS (fSpell S x y).2) σ1 → FrC q σ σ1 → k (fSpell S x y).1 σ1) : wX3_spell u x y σ k := by
  have hI2 := Inv_spell hI x y
  unfold wX3_spell
  unfold fSpell at hk hI2
  simp only [eC_isWord h, RepC_K h, true_and, and_true, forall_eq, forall_eq', Option.some.injEq, exists_eq_left', false_implies, true_implies, forall_const, not_false_eq_true, not_true_eq_false, implies_true, b2iT, b2iF, i1n0, i0n1, Option.isSome_some, Option.isSome_none, Option.map_some, Option.map_none, reduceCtorEq, b2i_bz]
  cases hx : vI 60 x with
  | none => rw [hx] at hk; simp only [true_and, and_true, forall_eq, forall_eq', Option.some.injEq, exists_eq_left', false_implies, true_implies, forall_const, not_false_eq_true, not_true_eq_false, implies_true, b2iT, b2iF, i1n0, i0n1, Option.isSome_some, Option.isSome_none, Option.map_some, Option.map_none, reduceCtorEq, b2i_bz]; exact hk σ h (FrC_refl q σ)
  | some w =>
    cases hy : vI 60 y with
    | none => rw [hx, hy] at hk; simp only [true_and, and_true, forall_eq, forall_eq', Option.some.injEq, exists_eq_left', false_implies, true_implies, forall_const, not_false_eq_true, not_true_eq_false, implies_true, b2iT, b2iF, i1n0, i0n1, Option.isSome_some, Option.isSome_none, Option.map_some, Option.map_none, reduceCtorEq, b2i_bz]; exact hk σ h (FrC_refl q σ)
    | some v =>
      rw [hx, hy] at hk hI2
      obtain ⟨hw, rfl⟩ := vI_some hx
      simp only [RepC_r4 h, RepC_k4 h, RepC_n4 h, RepC_i4 h, ix_nI (show w < 2 ^ 31 by omega), vp_in_nI hw (by decide), true_and, and_true, forall_eq, forall_eq', Option.some.injEq, exists_eq_left', false_implies, true_implies, forall_const, not_false_eq_true, not_true_eq_false, implies_true, b2iT, b2iF, i1n0, i0n1, Option.isSome_some, Option.isSome_none, Option.map_some, Option.map_none, reduceCtorEq, b2i_bz]
      refine ⟨161, C_spell_l hI2 (setS S) _ k σ 160 0 _ rfl (RepC_sf (RepC_q4w h w y) (fun j _ => ?_)) (FrC_I (by decide)) hk⟩
      rw [if_neg (by omega)]
theorem C_put (h : RepC u q ia ra S (setS S) σ) (hI : Inv S) (x y : Int32) (k : Int32 → MM → Prop) (hk : ∀ σ1, RepC u q ia ra (fPut S x y).2 (setS (fPut S x y).2) σ1 → FrC q σ σ1 → k (fPut S x y).1 σ1) : wX3_put u x y σ k := by
  unfold wX3_put
  unfold fPut at hk
  simp only [eC_itemAt h, eC_isWord h, RepC_K h, true_and, and_true, forall_eq, forall_eq', Option.some.injEq, exists_eq_left', false_implies, true_implies, forall_const, not_false_eq_true, not_true_eq_false, implies_true, b2iT, b2iF, i1n0, i0n1, Option.isSome_some, Option.isSome_none, Option.map_some, Option.map_none, reduceCtorEq, b2i_bz]
  cases hx : vT S x with
  | none => rw [hx] at hk; simp only [true_and, and_true, forall_eq, forall_eq', Option.some.injEq, exists_eq_left', false_implies, true_implies, forall_const, not_false_eq_true, not_true_eq_false, implies_true, b2iT, b2iF, i1n0, i0n1, Option.isSome_some, Option.isSome_none, Option.map_some, Option.map_none, reduceCtorEq, b2i_bz]; exact hk σ h (FrC_refl q σ)
  | some j =>
    cases hy : vI 60 y with
    | none => rw [hx, hy] at hk; simp only [true_and, and_true, forall_eq, forall_eq', Option.some.injEq, exists_eq_left', false_implies, true_implies, forall_const, not_false_eq_true, not_true_eq_false, implies_true, b2iT, b2iF, i1n0, i0n1, Option.isSome_some, Option.isSome_none, Option.map_some, Option.map_none, reduceCtorEq, b2i_bz]; exact hk σ h (FrC_refl q σ)
    | some w =>
      rw [hx, hy] at hk
      obtain ⟨hp, hj, rfl⟩ := vT_some hx
      obtain ⟨hw, rfl⟩ := vI_some hy
      simp only [RepC_tK h j hp, RepC_t4 h j hp, RepC_t2 h j hp, eC_bit (mL S 1 j) (show w < 64 by omega), b2i_1, true_and, and_true, forall_eq, forall_eq', Option.some.injEq, exists_eq_left', false_implies, true_implies, forall_const, not_false_eq_true, not_true_eq_false, implies_true, b2iT, b2iF, i1n0, i0n1, Option.isSome_some, Option.isSome_none, Option.map_some, Option.map_none, reduceCtorEq, b2i_bz]
      by_cases hs : mI S 6 j = 0
      · simp only [hs, if_true, true_and, and_true, forall_eq, forall_eq', Option.some.injEq, exists_eq_left', false_implies, true_implies, forall_const, not_false_eq_true, not_true_eq_false, implies_true, b2iT, b2iF, i1n0, i0n1, Option.isSome_some, Option.isSome_none, Option.map_some, Option.map_none, reduceCtorEq, b2i_bz] at hk ⊢
        cases hb : bT (mL S 1 j) w with
        | true =>
          rw [hb] at hk
          simp only [true_and, and_true, forall_eq, forall_eq', Option.some.injEq, exists_eq_left', false_implies, true_implies, forall_const, not_false_eq_true, not_true_eq_false, implies_true, b2iT, b2iF, i1n0, i0n1, Option.isSome_some, Option.isSome_none, Option.map_some, Option.map_none, reduceCtorEq, b2i_bz]
          exact hk σ h (FrC_refl q σ)
        | false =>
          rw [hb] at hk
          simp only [Bool.false_eq_true, true_and, and_true, forall_eq, forall_eq', Option.some.injEq, exists_eq_left', false_implies, true_implies, forall_const, not_false_eq_true, not_true_eq_false, implies_true, b2iT, b2iF, i1n0, i0n1, Option.isSome_some, Option.isSome_none, Option.map_some, Option.map_none, reduceCtorEq, b2i_bz]
          rw [show (1 : Int32) = nI 1 from rfl, eC_withBit _ w (by decide)]
          have g1 := RepC_t2w h hp (wB (mL S 1 j) w 1)
          have g2 := RepC_t3w (j := j) g1 hp (setF (mI S 2) (wB (mL S 1 j) w 1) 60)
          have k1 := RepC_tK g1 j hp
          have w1 : mL (sL σ (ia j) 2 (wB (mL S 1 j) w 1)) (ia j) 2 = wB (mL S 1 j) w 1 := by rw [mL_sL, if_pos ⟨rfl, rfl⟩]
          refine ⟨RepC_tK h j hp, RepC_K g1, ?_⟩
          rw [w1]
          refine C_setOf g1 _ _ ?_
          refine ⟨k1, ?_⟩
          have w2 : mL (sL (sL σ (ia j) 2 (wB (mL S 1 j) w 1)) (ia j) 3 (setF (mI (sL S 1 j (wB (mL S 1 j) w 1)) 2) (wB (mL S 1 j) w 1) 60)) (ia j) 2 = wB (mL S 1 j) w 1 := by rw [mL_sL, if_neg (fun z => absurd z.2 (by decide))]; exact w1
          rw [w2]
          refine C_bitCount _ _ _ (hk _ (RepC_sf g2 (fun i hi => ?_)) (FrC_tr (FrC_oL (by rw [RepC_tK h j hp]; decide)) (FrC_oL (by rw [k1]; decide))))
          by_cases e : i = j
          · subst e
            rw [va_up_self]
            show _ = setF (mI S 2) (mL (sL S 1 i (wB (mL S 1 i) w 1)) 1 i) 60
            rw [mL_sL, if_pos ⟨rfl, rfl⟩]
          · rw [va_up_ne _ _ e]
            show setS S i = setF (mI S 2) (mL (sL S 1 j (wB (mL S 1 j) w 1)) 1 i) 60
            rw [mL_sL, if_neg (fun z => e z.2)]
            rfl
      · simp only [hs, if_false, true_and, and_true, forall_eq, forall_eq', Option.some.injEq, exists_eq_left', false_implies, true_implies, forall_const, not_false_eq_true, not_true_eq_false, implies_true, b2iT, b2iF, i1n0, i0n1, Option.isSome_some, Option.isSome_none, Option.map_some, Option.map_none, reduceCtorEq, b2i_bz] at hk ⊢
        exact hk σ h (FrC_refl q σ)
theorem C_set (h : RepC u q ia ra S (setS S) σ) (x y : Int32) (k : Int32 → MM → Prop) (hk : k (fSet S x y) σ) : wX3_set u x y σ k := by
  unfold wX3_set
  unfold fSet at hk
  simp only [eC_itemAt h, eC_isIn0 (show (1 : Int32).toInt = ((2 : Nat) : Int) - 1 from rfl), RepC_K h, true_and, and_true, forall_eq, forall_eq', Option.some.injEq, exists_eq_left', false_implies, true_implies, forall_const, not_false_eq_true, not_true_eq_false, implies_true, b2iT, b2iF, i1n0, i0n1, Option.isSome_some, Option.isSome_none, Option.map_some, Option.map_none, reduceCtorEq, b2i_bz]
  cases hx : vT S x with
  | none => rw [hx] at hk; simp only [true_and, and_true, forall_eq, forall_eq', Option.some.injEq, exists_eq_left', false_implies, true_implies, forall_const, not_false_eq_true, not_true_eq_false, implies_true, b2iT, b2iF, i1n0, i0n1, Option.isSome_some, Option.isSome_none, Option.map_some, Option.map_none, reduceCtorEq, b2i_bz]; exact hk
  | some j =>
    cases hy : vI 2 y with
    | none => rw [hx, hy] at hk; simp only [true_and, and_true, forall_eq, forall_eq', Option.some.injEq, exists_eq_left', false_implies, true_implies, forall_const, not_false_eq_true, not_true_eq_false, implies_true, b2iT, b2iF, i1n0, i0n1, Option.isSome_some, Option.isSome_none, Option.map_some, Option.map_none, reduceCtorEq, b2i_bz]; exact hk
    | some b =>
      rw [hx, hy] at hk
      obtain ⟨hp, hj, rfl⟩ := vT_some hx
      obtain ⟨hb, rfl⟩ := vI_some hy
      simp only [nI_z (show b < 2 ^ 31 by omega), RepC_tK h j hp, RepC_t3 h j hp, true_and, and_true, forall_eq, forall_eq', Option.some.injEq, exists_eq_left', false_implies, true_implies, forall_const, not_false_eq_true, not_true_eq_false, implies_true, b2iT, b2iF, i1n0, i0n1, Option.isSome_some, Option.isSome_none, Option.map_some, Option.map_none, reduceCtorEq, b2i_bz]
      by_cases hb0 : b = 0
      · simp only [hb0, if_true, true_and, and_true, forall_eq, forall_eq', Option.some.injEq, exists_eq_left', false_implies, true_implies, forall_const, not_false_eq_true, not_true_eq_false, implies_true, b2iT, b2iF, i1n0, i0n1, Option.isSome_some, Option.isSome_none, Option.map_some, Option.map_none, reduceCtorEq, b2i_bz] at hk ⊢
        exact C_bitCount _ _ _ hk
      · simp only [hb0, if_false, true_and, and_true, forall_eq, forall_eq', Option.some.injEq, exists_eq_left', false_implies, true_implies, forall_const, not_false_eq_true, not_true_eq_false, implies_true, b2iT, b2iF, i1n0, i0n1, Option.isSome_some, Option.isSome_none, Option.map_some, Option.map_none, reduceCtorEq, b2i_bz] at hk ⊢
        exact C_countAlike h hp _ hk
end PC
