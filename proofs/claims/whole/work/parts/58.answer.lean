theorem w1_init {a : Nat} {x y z : Int32} {σ : MM} {k : MM → Prop} (hK : mK σ a = 2) (hk : ∀ σ1, (∀ b, b ≠ a → agr σ σ1 b) → mK σ1 a = 2 → mI σ1 a 0 = x → mI σ1 a 1 = y → mI σ1 a 2 = z → mL σ1 a 3 = 0 → mL σ1 a 4 = 0 → mI σ1 a 5 = 0 → k σ1) : wX1_init a x y z σ k := by
  unfold wX1_init
  refine ⟨hK, ?_⟩
  simp only [forall_eq]
  refine hk _ (fun b hb => agr_tr (agr_sL hb) (agr_tr (agr_sL hb) (agr_tr (agr_sI hb) (agr_tr (agr_sI hb) (agr_tr (agr_sI hb) (agr_sI hb)))))) hK ?_ ?_ ?_ ?_ ?_ ?_
  · simp [mI_sI]
  · simp [mI_sI]
  · simp [mI_sI]
  · simp [mL_sI, mL_sL]
  · simp [mL_sI, mL_sL]
  · simp [mI_sI]
theorem w0_init {a : Nat} {x y : Int32} {σ : MM} {k : MM → Prop} (hK : mK σ a = 1) (hk : ∀ σ1, (∀ b, b ≠ a → agr σ σ1 b) → mK σ1 a = 1 → mI σ1 a 0 = x → mI σ1 a 1 = y → mL σ1 a 2 = 0 → mL σ1 a 3 = 0 → mI σ1 a 4 = 0 → mI σ1 a 5 = -1 → mI σ1 a 6 = -1 → mI σ1 a 7 = -1 → mI σ1 a 8 = -1 → k σ1) : wX0_init a x y σ k := by
  unfold wX0_init
  refine ⟨hK, ?_⟩
  simp only [forall_eq]
  refine hk _ (fun b hb => agr_tr (agr_sL hb) (agr_tr (agr_sL hb) (agr_tr (agr_sI hb) (agr_tr (agr_sI hb) (agr_tr (agr_sI hb) (agr_tr (agr_sI hb) (agr_tr (agr_sI hb) (agr_tr (agr_sI hb) (agr_tr (agr_sI hb) (agr_tr (agr_sI hb) (agr_tr (agr_sI hb) (agr_sI hb)))))))))))) hK ?_ ?_ ?_ ?_ ?_ ?_ ?_ ?_ ?_
  · simp [mI_sI]
  · simp [mI_sI]
  · simp [mL_sI, mL_sL]
  · simp [mL_sI, mL_sL]
  · simp [mI_sI]
  · simp [mI_sI]
  · simp [mI_sI]
  · simp [mI_sI]
  · simp [mI_sI]
def fAnswer (S : MM) (x y z : Int32) : Int32 × MM := match vI 2 x, vI 10 y, vI 10 z with
  | some _, some _, some _ => if mN S 2 = 80 then (-3, S) else (nI (mN S 2), ansS S x y z)
  | _, _, _ => (-1, S)
section PC
variable {u : Nat} {q ia ra : Nat → Nat} {S σ : MM} {sf : Nat → Int64}
theorem C_rule (h : RepC u q ia ra S sf σ) (hI : Inv S) (x y z : Int32) (k : Int32 → MM → Prop) (hk : ∀ ra1 σ1, RepC u q ia ra1 (fRule S x y z).2 sf σ1 → FrC q σ σ1 → k (fRule S x y z).1 σ1) : wX3_rule u x y z σ k := by
  have hR := Inv_R hI
  unfold wX3_rule
  unfold fRule at hk
  simp only [eC_isDigit, eC_isCode h hI, eC_isIn0 (n := 1024) (h := 1023) rfl, RepC_K h, true_and, and_true, forall_eq, forall_eq', Option.some.injEq, exists_eq_left', false_implies, true_implies, forall_const, not_false_eq_true, not_true_eq_false, implies_true, b2iT, b2iF, i1n0, i0n1, Option.isSome_some, Option.isSome_none, Option.map_some, Option.map_none, reduceCtorEq, b2i_bz]
  cases hx : vI 10 x with
  | none => rw [hx] at hk; simp only [true_and, and_true, forall_eq, forall_eq', Option.some.injEq, exists_eq_left', false_implies, true_implies, forall_const, not_false_eq_true, not_true_eq_false, implies_true, b2iT, b2iF, i1n0, i0n1, Option.isSome_some, Option.isSome_none, Option.map_some, Option.map_none, reduceCtorEq, b2i_bz]; exact hk ra σ h (FrC_refl q σ)
  | some r =>
    cases hy : vI (mN S 0) y with
    | none => rw [hx, hy] at hk; simp only [true_and, and_true, forall_eq, forall_eq', Option.some.injEq, exists_eq_left', false_implies, true_implies, forall_const, not_false_eq_true, not_true_eq_false, implies_true, b2iT, b2iF, i1n0, i0n1, Option.isSome_some, Option.isSome_none, Option.map_some, Option.map_none, reduceCtorEq, b2i_bz]; exact hk ra σ h (FrC_refl q σ)
    | some c =>
      cases hz : vI 1024 z with
      | none => rw [hx, hy, hz] at hk; simp only [true_and, and_true, forall_eq, forall_eq', Option.some.injEq, exists_eq_left', false_implies, true_implies, forall_const, not_false_eq_true, not_true_eq_false, implies_true, b2iT, b2iF, i1n0, i0n1, Option.isSome_some, Option.isSome_none, Option.map_some, Option.map_none, reduceCtorEq, b2i_bz]; exact hk ra σ h (FrC_refl q σ)
      | some b =>
        rw [hx, hy, hz] at hk
        simp only [RepC_nR h, RepC_r7 h, RepC_k7 h, RepC_n7 h, true_and, and_true, forall_eq, forall_eq', Option.some.injEq, exists_eq_left', false_implies, true_implies, forall_const, not_false_eq_true, not_true_eq_false, implies_true, b2iT, b2iF, i1n0, i0n1, Option.isSome_some, Option.isSome_none, Option.map_some, Option.map_none, reduceCtorEq, b2i_bz]
        by_cases h40 : mN S 3 = 40
        · have e1 : ¬ nI 40 < nI 40 := Int32.not_lt.mpr (nI_le (Nat.le_refl _) (by decide))
          rw [h40] at hk ⊢
          simp only [if_true] at hk
          exact ⟨fun e => absurd e e1, fun _ => hk ra σ h (FrC_refl q σ)⟩
        · have e1 : nI (mN S 3) < nI 40 := nI_lt (by omega) (by decide)
          simp only [h40, if_false] at hk
          refine ⟨fun _ => ?_, fun e => absurd e1 e⟩
          intro a ha
          refine w1_init (mK_new ha) (fun σ1 hag1 k1 a0 a1 a2 a3 a4 a5 => ?_)
          have g : ∀ b, b ≠ a → agr σ σ1 b := fun b hb => agr_tr (agr_sN hb) (hag1 b hb)
          have gu := g u (ne_new ha (RepC_K h) (by decide))
          have g7 := g (q 7) (ne_new ha (RepC_k7 h) (by decide))
          have hu7 : u ≠ q 7 := ne_k (RepC_K h) (RepC_k7 h) (by decide)
          have hau : a ≠ u := Ne.symm (ne_new ha (RepC_K h) (by decide))
          refine ⟨by rw [g7.1]; exact RepC_k7 h, k1, by rw [g7.2.1, RepC_n7 h]; exact vp_in_nI (show mN S 3 < 40 by omega) (by decide), by rw [mK_sR, gu.1]; exact RepC_K h, ?_⟩
          have e8 : mI (sR σ1 (q 7) (ix (nI (mN S 3))) (some a)) u 8 = nI (mN S 3) := by rw [mI_sR, gu.2.2.1]; exact RepC_nR h
          rw [e8, nI_1, ix_nI (show mN S 3 < 2 ^ 31 by omega)]
          generalize e30 : sI (sR σ1 (q 7) (mN S 3) (some a)) u 8 (nI (mN S 3 + 1)) = σ3
          have e3 := e30.symm
          have e9 : mI σ3 u 8 - 1 = nI (mN S 3) := by rw [e3, mI_sI, if_pos ⟨rfl, rfl⟩, nI_pred]
          rw [e9]
          have z0 := Inv_rz hI (mN S 3) (Nat.le_refl _)
          refine hk (va_up ra (mN S 3) a) σ3 (RepC_addrule h (a := a) ?_ ?_ ?_ ?_ ?_ ?_ ?_ ha ?_ ?_ ?_ ?_ ?_ ?_ ?_) ?_
          · intro b hb h1 h2
            rw [e3]
            exact agr_tr (agr_tr (g b (fun e => hb (by rw [e]; exact ha))) (agr_sR h2)) (agr_sI h1)
          · rw [e3]; exact gu.1
          · rw [e3]; exact (mR_sR_ne hu7).trans gu.2.2.2.2
          · intro k2
            rw [e3, mI_sI]
            by_cases ek : k2 = 8
            · rw [if_pos ⟨rfl, ek⟩, if_pos ek]
            · rw [if_neg (fun z => ek z.2), if_neg ek, mI_sR, gu.2.2.1]
          · rw [e3]; exact g7.1.trans (RepC_k7 h)
          · rw [e3]; exact g7.2.1.trans (RepC_n7 h)
          · intro j
            rw [e3, mR_sI, mR_sR, g7.2.2.2.2]
            by_cases ej : j = mN S 3
            · rw [if_pos ⟨rfl, ej⟩, if_pos ej]
            · rw [if_neg (fun z => ej z.2), if_neg ej]
          · rw [e3]; exact k1
          · rw [e3, mI_sI_ne hau]; exact a0
          · rw [e3, mI_sI_ne hau]; exact a1
          · rw [e3, mI_sI_ne hau]; exact a2
          · rw [e3, z0.1]; exact a3
          · rw [e3, z0.2.1]; exact a4
          · rw [e3, mI_sI_ne hau, z0.2.2]; exact a5
          · intro b h5 hq
            rw [e3]
            exact agr_tr (agr_tr (g b (fun e => by rw [e, ha] at h5; omega)) (agr_sR (hq 7 (by decide)))) (agr_sI (fun e => by rw [e, RepC_K h] at h5; omega))
theorem C_answer (h : RepC u q ia ra S (setS S) σ) (hI : Inv S) (x y z : Int32) (k : Int32 → MM → Prop) (hk : ∀ ia1 σ1, RepC u q ia1 ra (fAnswer S x y z).2 (setS (fAnswer S x y z).2) σ1 → FrC q σ σ1 → k (fAnswer S x y z).1 σ1) : wX3_answer u x y z σ k := by
  have hA := Inv_A hI
  unfold wX3_answer
  unfold fAnswer at hk
  simp only [eC_isDigit, eC_isIn0 (n := 2) (h := 1) rfl, RepC_K h, true_and, and_true, forall_eq, forall_eq', Option.some.injEq, exists_eq_left', false_implies, true_implies, forall_const, not_false_eq_true, not_true_eq_false, implies_true, b2iT, b2iF, i1n0, i0n1, Option.isSome_some, Option.isSome_none, Option.map_some, Option.map_none, reduceCtorEq, b2i_bz]
  cases hx : vI 2 x with
  | none => rw [hx] at hk; simp only [true_and, and_true, forall_eq, forall_eq', Option.some.injEq, exists_eq_left', false_implies, true_implies, forall_const, not_false_eq_true, not_true_eq_false, implies_true, b2iT, b2iF, i1n0, i0n1, Option.isSome_some, Option.isSome_none, Option.map_some, Option.map_none, reduceCtorEq, b2i_bz]; exact hk ia σ h (FrC_refl q σ)
  | some s0 =>
    cases hy : vI 10 y with
    | none => rw [hx, hy] at hk; simp only [true_and, and_true, forall_eq, forall_eq', Option.some.injEq, exists_eq_left', false_implies, true_implies, forall_const, not_false_eq_true, not_true_eq_false, implies_true, b2iT, b2iF, i1n0, i0n1, Option.isSome_some, Option.isSome_none, Option.map_some, Option.map_none, reduceCtorEq, b2i_bz]; exact hk ia σ h (FrC_refl q σ)
    | some c =>
      cases hz : vI 10 z with
      | none => rw [hx, hy, hz] at hk; simp only [true_and, and_true, forall_eq, forall_eq', Option.some.injEq, exists_eq_left', false_implies, true_implies, forall_const, not_false_eq_true, not_true_eq_false, implies_true, b2iT, b2iF, i1n0, i0n1, Option.isSome_some, Option.isSome_none, Option.map_some, Option.map_none, reduceCtorEq, b2i_bz]; exact hk ia σ h (FrC_refl q σ)
      | some b0 =>
        rw [hx, hy, hz] at hk
        simp only [RepC_nA h, two_nA hI, RepC_r5 h, RepC_k5 h, RepC_n5 h, nI_1, true_and, and_true, forall_eq, forall_eq', Option.some.injEq, exists_eq_left', false_implies, true_implies, forall_const, not_false_eq_true, not_true_eq_false, implies_true, b2iT, b2iF, i1n0, i0n1, Option.isSome_some, Option.isSome_none, Option.map_some, Option.map_none, reduceCtorEq, b2i_bz]
        by_cases h80 : mN S 2 = 80
        · have e1 : (80 : Int32) ≤ nI 80 := nI_le (a := 80) (Nat.le_refl _) (by decide)
          rw [h80] at hk ⊢
          simp only [if_true] at hk
          exact ⟨fun _ => hk ia σ h (FrC_refl q σ), fun e => absurd e1 e⟩
        · have e1 : ¬ (80 : Int32) ≤ nI (mN S 2) := nI_ge (b := 80) (by omega) (by decide)
          have e2 : nI (2 * mN S 2 + 1) < nI 160 := nI_lt (by omega) (by decide)
          simp only [h80, if_false] at hk
          refine ⟨fun e => absurd e e1, fun _ => ⟨fun _ => ?_, fun e => absurd e2 e⟩⟩
          intro a ha
          refine w0_init (mK_new ha) (fun σ1 hag1 k1 a0 a1 a2 a3 a4 a5 a6 a7 a8 => ?_)
          have g : ∀ b, b ≠ a → agr σ σ1 b := fun b hb => agr_tr (agr_sN hb) (hag1 b hb)
          have gu := g u (ne_new ha (RepC_K h) (by decide))
          have g5 := g (q 5) (ne_new ha (RepC_k5 h) (by decide))
          have hu5 : u ≠ q 5 := ne_k (RepC_K h) (RepC_k5 h) (by decide)
          have hau : a ≠ u := Ne.symm (ne_new ha (RepC_K h) (by decide))
          have ha5 : a ≠ q 5 := Ne.symm (ne_new ha (RepC_k5 h) (by decide))
          refine ⟨by rw [g5.1]; exact RepC_k5 h, k1, by rw [g5.2.1, RepC_n5 h]; exact vp_in_nI (show 2 * mN S 2 < 160 by omega) (by decide), ?_⟩
          rw [ix_nI (show 2 * mN S 2 < 2 ^ 31 by omega)]
          generalize e20 : sR σ1 (q 5) (2 * mN S 2) (some a) = σ2
          have e2 := e20.symm
          have q2 : ∀ b, b ≠ a → b ≠ q 5 → agr σ σ2 b := fun b hb h5 => by rw [e2]; exact agr_tr (g b hb) (agr_sR h5)
          have qu := q2 u (Ne.symm hau) hu5
          have q5k : mK σ2 (q 5) = 9 := by rw [e2]; exact g5.1.trans (RepC_k5 h)
          have q5n : mN σ2 (q 5) = 160 := by rw [e2]; exact g5.2.1.trans (RepC_n5 h)
          have q5r : ∀ j, mR σ2 (q 5) j = if j = 2 * mN S 2 then some a else mR σ (q 5) j := fun j => by
            rw [e2, mR_sR, g5.2.2.2.2]
            by_cases ej : j = 2 * mN S 2
            · rw [if_pos ⟨rfl, ej⟩, if_pos ej]
            · rw [if_neg (fun z => ej z.2), if_neg ej]
          have m1 : agr σ1 σ2 a := by rw [e2]; exact agr_sR ha5
          have uK2 : mK σ2 u = 4 := by rw [qu.1]; exact RepC_K h
          have u6 : mI σ2 u 6 = nI (mN S 2) := by rw [qu.2.2.1]; exact RepC_nA h
          refine ⟨fun ex => ⟨uK2, ?_⟩, fun ex => ⟨uK2, ?_⟩⟩
          · rw [u6, nI_1]
            generalize e30 : sI σ2 u 6 (nI (mN S 2 + 1)) = σ3
            have e3 := e30.symm
            have e9 : mI σ3 u 6 - 1 = nI (mN S 2) := by rw [e3, mI_sI, if_pos ⟨rfl, rfl⟩, nI_pred]
            rw [e9]
            have w3 : agr σ2 σ3 a := by rw [e3]; exact agr_sI hau
            have w4 := agr_tr m1 w3
            refine hk _ σ3 (RepC_addans h (a := a) (b := a) (x := x) ?_ ?_ ?_ ?_ ?_ ?_ ?_ ha (fun e => absurd e ex) (fun e => absurd e ex) ?_ (fun e => absurd e ex) ?_ (fun e => absurd e ex) ?_ (fun e => absurd e ex) ?_ (fun e => absurd e ex) ?_ (fun e => absurd e ex) ?_ (fun e => absurd e ex) ?_ (fun e => absurd e ex) ?_ (fun e => absurd e ex) ?_ (fun e => absurd e ex) ?_ (fun e => absurd e ex)) ?_
            · intro b hb h1 h2
              rw [e3]
              exact agr_tr (q2 b (fun e => hb (by rw [e]; exact ha)) h2) (agr_sI h1)
            · rw [e3]; exact qu.1
            · rw [e3]; exact qu.2.2.2.2
            · intro k2
              rw [e3, mI_sI]
              by_cases ek : k2 = 6
              · rw [if_pos ⟨rfl, ek⟩, if_pos ek]
              · rw [if_neg (fun z => ek z.2), if_neg ek, qu.2.2.1]
            · rw [e3]; exact q5k
            · rw [e3]; exact q5n
            · intro j; rw [e3, mR_sI, q5r, if_neg (c := j = 2 * mN S 2 + 1 ∧ x = 1) (fun e => ex e.2)]
            · exact w4.1.trans k1
            · rw [w4.2.2.1]; exact a0
            · rw [w4.2.2.1]; exact a1
            · rw [w4.2.2.2.1]; exact a2
            · rw [w4.2.2.2.1]; exact a3
            · rw [w4.2.2.1]; exact a4
            · rw [w4.2.2.1]; exact a5
            · rw [w4.2.2.1]; exact a6
            · rw [w4.2.2.1]; exact a7
            · rw [w4.2.2.1]; exact a8
            · intro b h5 hq
              rw [e3]
              exact agr_tr (q2 b (fun e => by rw [e, ha] at h5; omega) (hq 5 (by decide))) (agr_sI (fun e => by rw [e, RepC_K h] at h5; omega))
          · have r5 : mR σ2 u 5 = some (q 5) := by rw [qu.2.2.2.2]; exact RepC_r5 h
            rw [r5]
            intro b hb
            have hba : b ≠ a := fun e => by rw [e, m1.1, k1] at hb; exact absurd hb (by decide)
            have hbu : b ≠ u := fun e => by rw [e, uK2] at hb; exact absurd hb (by decide)
            have hb5 : b ≠ q 5 := fun e => by rw [e, q5k] at hb; exact absurd hb (by decide)
            have hb0 : mK σ b = 0 := by rw [← (q2 b hba hb5).1]; exact hb
            refine w0_init (mK_new hb) (fun σ3 hag3 l1 b0 b1 b2 b3 b4 b5 b6 b7 b8 => ?_)
            have g3 : ∀ c, c ≠ b → agr σ2 σ3 c := fun c hc => agr_tr (agr_sN hc) (hag3 c hc)
            have pu0 := g3 u (Ne.symm hbu)
            refine ⟨q 5, rfl, by rw [(g3 _ (Ne.symm hb5)).1]; exact q5k, l1, by rw [(g3 _ (Ne.symm hb5)).2.1, q5n]; exact vp_in_nI (show 2 * mN S 2 + 1 < 160 by omega) (by decide), by rw [mK_sR, pu0.1]; exact uK2, ?_⟩
            rw [ix_nI (show 2 * mN S 2 + 1 < 2 ^ 31 by omega)]
            generalize e40 : sR σ3 (q 5) (2 * mN S 2 + 1) (some b) = σ4
            have e4 := e40.symm
            have q4 : ∀ c, c ≠ b → c ≠ q 5 → agr σ2 σ4 c := fun c hc h5 => by rw [e4]; exact agr_tr (g3 c hc) (agr_sR h5)
            have pu := q4 u (Ne.symm hbu) hu5
            rw [pu.2.2.1, u6, nI_1]
            generalize e50 : sI σ4 u 6 (nI (mN S 2 + 1)) = σ5
            have e5 := e50.symm
            have e9 : mI σ5 u 6 - 1 = nI (mN S 2) := by rw [e5, mI_sI, if_pos ⟨rfl, rfl⟩, nI_pred]
            rw [e9]
            have wa : agr σ1 σ5 a := agr_tr m1 (agr_tr (q4 a (Ne.symm hba) ha5) (by rw [e5]; exact agr_sI hau))
            have wb : agr σ3 σ5 b := agr_tr (show agr σ3 σ4 b by rw [e4]; exact agr_sR hb5) (by rw [e5]; exact agr_sI hbu)
            refine hk _ σ5 (RepC_addans h (a := a) (b := b) (x := x) ?_ ?_ ?_ ?_ ?_ ?_ ?_ ha (fun _ => hb0) (fun _ => Ne.symm hba) ?_ ?_ ?_ ?_ ?_ ?_ ?_ ?_ ?_ ?_ ?_ ?_ ?_ ?_ ?_ ?_ ?_ ?_ ?_ ?_) ?_
            · intro c hc h1 h2
              rw [e5]
              exact agr_tr (agr_tr (q2 c (fun e => hc (by rw [e]; exact ha)) h2) (q4 c (fun e => hc (by rw [e]; exact hb0)) h2)) (agr_sI h1)
            · rw [e5]; exact pu.1.trans qu.1
            · rw [e5]; exact pu.2.2.2.2.trans qu.2.2.2.2
            · intro k2
              rw [e5, mI_sI]
              by_cases ek : k2 = 6
              · rw [if_pos ⟨rfl, ek⟩, if_pos ek]
              · rw [if_neg (fun z => ek z.2), if_neg ek, pu.2.2.1, qu.2.2.1]
            · rw [e5, e4]; exact (g3 _ (Ne.symm hb5)).1.trans q5k
            · rw [e5, e4]; exact (g3 _ (Ne.symm hb5)).2.1.trans q5n
            · intro j
              rw [e5, mR_sI, e4, mR_sR, (g3 _ (Ne.symm hb5)).2.2.2.2, q5r]
              by_cases ej : j = 2 * mN S 2 + 1
              · rw [if_pos ⟨rfl, ej⟩, if_neg (by omega), if_pos ⟨ej, ex⟩]
              · rw [if_neg (fun z => ej z.2)]
                by_cases ej2 : j = 2 * mN S 2
                · rw [if_pos ej2, if_pos ej2]
                · rw [if_neg ej2, if_neg ej2, if_neg (fun z => ej z.1)]
            · exact wa.1.trans k1
            · exact fun _ => wb.1.trans l1
            · rw [wa.2.2.1]; exact a0
            · intro _; rw [wb.2.2.1]; exact b0
            · rw [wa.2.2.1]; exact a1
            · intro _; rw [wb.2.2.1]; exact b1
            · rw [wa.2.2.2.1]; exact a2
            · intro _; rw [wb.2.2.2.1]; exact b2
            · rw [wa.2.2.2.1]; exact a3
            · intro _; rw [wb.2.2.2.1]; exact b3
            · rw [wa.2.2.1]; exact a4
            · intro _; rw [wb.2.2.1]; exact b4
            · rw [wa.2.2.1]; exact a5
            · intro _; rw [wb.2.2.1]; exact b5
            · rw [wa.2.2.1]; exact a6
            · intro _; rw [wb.2.2.1]; exact b6
            · rw [wa.2.2.1]; exact a7
            · intro _; rw [wb.2.2.1]; exact b7
            · rw [wa.2.2.1]; exact a8
            · intro _; rw [wb.2.2.1]; exact b8
            · intro c h5 hq
              rw [e5]
              exact agr_tr (agr_tr (q2 c (fun e => by rw [e, ha] at h5; omega) (hq 5 (by decide))) (q4 c (fun e => by rw [e, hb0] at h5; omega) (hq 5 (by decide)))) (agr_sI (fun e => by rw [e, RepC_K h] at h5; omega))
end PC
section PM
variable {t : Nat} {q : Nat → Nat} {S σ : MM}
theorem M_answer (h : RepM t q S σ) (hI : Inv S) (x y z : Int32) (k : Int32 → MM → Prop) (hk : ∀ σ1, RepM t q (fAnswer S x y z).2 σ1 → FrM q σ σ1 → k (fAnswer S x y z).1 σ1) : wX4_answer t x y z σ k := by
  have hA := Inv_A hI
  unfold wX4_answer
  unfold fAnswer at hk
  simp only [eM_in0 (n := 2) (h := 1) rfl, eM_in0 (n := 10) (h := 9) rfl, RepM_K h, true_and, and_true, forall_eq, forall_eq', Option.some.injEq, exists_eq_left', false_implies, true_implies, forall_const, not_false_eq_true, not_true_eq_false, implies_true, b2iT, b2iF, i1n0, i0n1, Option.isSome_some, Option.isSome_none, Option.map_some, Option.map_none, reduceCtorEq, b2i_bz]
  cases hx : vI 2 x with
  | none => rw [hx] at hk; simp only [true_and, and_true, forall_eq, forall_eq', Option.some.injEq, exists_eq_left', false_implies, true_implies, forall_const, not_false_eq_true, not_true_eq_false, implies_true, b2iT, b2iF, i1n0, i0n1, Option.isSome_some, Option.isSome_none, Option.map_some, Option.map_none, reduceCtorEq, b2i_bz]; exact hk σ h (FrM_refl q σ)
  | some s0 =>
    cases hy : vI 10 y with
    | none => rw [hx, hy] at hk; simp only [true_and, and_true, forall_eq, forall_eq', Option.some.injEq, exists_eq_left', false_implies, true_implies, forall_const, not_false_eq_true, not_true_eq_false, implies_true, b2iT, b2iF, i1n0, i0n1, Option.isSome_some, Option.isSome_none, Option.map_some, Option.map_none, reduceCtorEq, b2i_bz]; exact hk σ h (FrM_refl q σ)
    | some c =>
      cases hz : vI 10 z with
      | none => rw [hx, hy, hz] at hk; simp only [true_and, and_true, forall_eq, forall_eq', Option.some.injEq, exists_eq_left', false_implies, true_implies, forall_const, not_false_eq_true, not_true_eq_false, implies_true, b2iT, b2iF, i1n0, i0n1, Option.isSome_some, Option.isSome_none, Option.map_some, Option.map_none, reduceCtorEq, b2i_bz]; exact hk σ h (FrM_refl q σ)
      | some b0 =>
        rw [hx, hy, hz] at hk
        simp only [RepM_nA h, true_and, and_true, forall_eq, forall_eq', Option.some.injEq, exists_eq_left', false_implies, true_implies, forall_const, not_false_eq_true, not_true_eq_false, implies_true, b2iT, b2iF, i1n0, i0n1, Option.isSome_some, Option.isSome_none, Option.map_some, Option.map_none, reduceCtorEq, b2i_bz]
        by_cases h80 : mN S 2 = 80
        · rw [h80] at hk ⊢
          simp only [show nI 80 = 80 from rfl, true_and, and_true, forall_eq, forall_eq', Option.some.injEq, exists_eq_left', false_implies, true_implies, forall_const, not_false_eq_true, not_true_eq_false, implies_true, b2iT, b2iF, i1n0, i0n1, Option.isSome_some, Option.isSome_none, Option.map_some, Option.map_none, reduceCtorEq, b2i_bz]
          exact hk σ h (FrM_refl q σ)
        · have h4 : ¬ nI (mN S 2) = 80 := fun e => h80 ((nI_eq (b := 80) (by omega) (by decide)).mp e)
          have h1 := RepM_w9 h (mN S 2) x
          have h2 := RepM_w10 h1 (mN S 2) y
          have h3 := RepM_w11 h2 (mN S 2) z
          simp only [h80, if_false] at hk
          simp only [h4, two_nA hI, RepM_r9 h, RepM_k9 h, RepM_n9 h, RepM_r10 h1, RepM_k10 h1, RepM_n10 h, RepM_r11 h2, RepM_k11 h2, RepM_n11 h, ix_nI (show mN S 2 < 2 ^ 31 by omega), vp_in_nI (show mN S 2 < 80 by omega) (by decide), mN_sI, true_and, and_true, forall_eq, forall_eq', Option.some.injEq, exists_eq_left', false_implies, true_implies, forall_const, not_false_eq_true, not_true_eq_false, implies_true, b2iT, b2iF, i1n0, i0n1, Option.isSome_some, Option.isSome_none, Option.map_some, Option.map_none, reduceCtorEq, b2i_bz]
          have f3 : FrM q σ _ := FrM_tr (FrM_tr (FrM_I (i := 9) (k := mN S 2) (v := x) (by decide)) (FrM_I (i := 10) (k := mN S 2) (v := y) (by decide))) (FrM_I (i := 11) (k := mN S 2) (v := z) (by decide))
          have e22 : nI (2 * mN S 2) + 2 = nI (2 * mN S 2 + 2) := by rw [← nI_1 (2 * mN S 2 + 1), ← nI_1 (2 * mN S 2), Int32.add_assoc]; rfl
          refine ⟨3, ?_⟩
          unfold wX4_answer_79
          simp only [two_nA hI, e22, show ¬ nI (2 * mN S 2 + 2) ≤ nI (2 * mN S 2) from nI_ge (by omega) (by omega), RepM_K h3, RepM_r12 h3, RepM_k12 h3, RepM_n12 h3, ix_nI (show 2 * mN S 2 < 2 ^ 31 by omega), vp_in_nI (show 2 * mN S 2 < 160 by omega) (by decide), nI_1, true_and, and_true, forall_eq, forall_eq', Option.some.injEq, exists_eq_left', false_implies, true_implies, forall_const, not_false_eq_true, not_true_eq_false, implies_true, b2iT, b2iF, i1n0, i0n1, Option.isSome_some, Option.isSome_none, Option.map_some, Option.map_none, reduceCtorEq, b2i_bz]
          have h5 := RepM_w12 h3 (2 * mN S 2) 0
          refine M_anew h5 (show 2 * mN S 2 < 160 by omega) _ (fun σ6 h6 f6 => ?_)
          unfold wX4_answer_79
          simp only [two_nA hI, e22, show ¬ nI (2 * mN S 2 + 2) ≤ nI (2 * mN S 2 + 1) from nI_ge (by omega) (by omega), RepM_K h6, RepM_r12 h6, RepM_k12 h6, RepM_n12 h6, ix_nI (show 2 * mN S 2 + 1 < 2 ^ 31 by omega), vp_in_nI (show 2 * mN S 2 + 1 < 160 by omega) (by decide), nI_1, true_and, and_true, forall_eq, forall_eq', Option.some.injEq, exists_eq_left', false_implies, true_implies, forall_const, not_false_eq_true, not_true_eq_false, implies_true, b2iT, b2iF, i1n0, i0n1, Option.isSome_some, Option.isSome_none, Option.map_some, Option.map_none, reduceCtorEq, b2i_bz]
          have h7 := RepM_w12 h6 (2 * mN S 2 + 1) 0
          refine M_anew h7 (show 2 * mN S 2 + 1 < 160 by omega) _ (fun σ8 h8 f8 => ?_)
          unfold wX4_answer_79
          have n8 : mI σ8 t 8 = nI (mN S 2) := by
            have n := RepM_nA h8
            rw [stI_N, mN_sL, stI_N, mN_sL, mN_sI, mN_sI, mN_sI] at n
            exact n
          simp only [two_nA hI, e22, show nI (2 * mN S 2 + 2) ≤ nI (2 * mN S 2 + 1 + 1) from nI_le (by omega) (by omega), RepM_K h8, n8, nI_1, true_and, and_true, forall_eq, forall_eq', Option.some.injEq, exists_eq_left', false_implies, true_implies, forall_const, not_false_eq_true, not_true_eq_false, implies_true, b2iT, b2iF, i1n0, i0n1, Option.isSome_some, Option.isSome_none, Option.map_some, Option.map_none, reduceCtorEq, b2i_bz]
          exact hk _ (RepM_v8 h8 (mN S 2 + 1)) (FrM_tr f3 (FrM_tr (FrM_L (by decide)) (FrM_tr f6 (FrM_tr (FrM_L (by decide)) (FrM_tr f8 (FrM_t (RepM_K h8)))))))
end PM
