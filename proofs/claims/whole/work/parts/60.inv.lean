theorem bT_wB_ne {y : Int64} {w b k : Nat} (hw : w < 64) (h : k ≠ w) : bT (wB y w b) k = bT y k := by
  unfold wB
  by_cases hk : k < 64
  · split
    · rw [bT_or, bT_shl1 hw]; simp [h]
    · rw [bT_and, bT_not _ hk, bT_shl1 hw]; simp [h]
  · rw [bT_big _ (by omega), bT_big _ (by omega)]
theorem up1_is {n : Nat} {x : Int32} (h : up1 n x = true) : x = -1 ∨ ∃ p, p < n ∧ x = nI p := by
  unfold up1 at h
  rcases Bool.or_eq_true _ _ ▸ h with e | e
  · exact Or.inl (of_decide_eq_true e)
  · obtain ⟨p, hp⟩ := Option.isSome_iff_exists.mp e
    exact Or.inr ⟨p, vI_some hp⟩
section II
variable {S : MM}
theorem Inv_code (hI : Inv S) (x : Int32) : Inv (fCode S x).2 := by
  unfold fCode
  by_cases hx : up1 (mN S 0) x = true
  · rw [if_pos hx]
    by_cases h40 : mN S 0 = 40
    · rw [if_pos h40]; exact hI
    · rw [if_neg h40]
      have hC := Inv_C hI
      show Inv (sC (sI S 0 (mN S 0) x) 0 (mN S 0 + 1))
      refine ⟨?_, (by have e := Inv_O hI; exact e), (by have e := Inv_A hI; exact e), (by have e := Inv_R hI; exact e), ?_, (by have e := Inv_ob hI; exact e), (by have e := Inv_st hI; exact e), (by have e := Inv_so hI; exact e), (by have e := Inv_tr hI; exact e), (by have e := Inv_sc hI; exact e), ?_, (by have e := Inv_ra hI; exact e), ?_, (by have e := Inv_rt hI; exact e), (by have e := Inv_rd hI; exact e), (by have e := Inv_rz hI; exact e), (by have e := Inv_le hI; exact e), (by have e := Inv_ga hI; exact e), (by have e := Inv_ca hI; exact e)⟩
      · show mN S 0 + 1 ≤ 40
        omega
      · intro c hc
        have hc2 : c < mN S 0 + 1 := hc
        rw [mI_sC, mI_sI]
        by_cases e : c = mN S 0
        · rw [if_pos ⟨rfl, e⟩, e]; exact up1_is hx
        · rw [if_neg (fun z => e z.2)]; exact Inv_ab hI c (by omega)
      · intro j hj
        rcases Inv_it hI j hj with ⟨z1, ⟨c, hc, z2⟩, z3, z4⟩ | z
        · refine Or.inl ⟨z1, ⟨c, Nat.lt_succ_of_lt hc, z2⟩, z3, ?_⟩
          rcases z4 with z4 | ⟨c, hc, z4⟩
          · exact Or.inl z4
          · exact Or.inr ⟨c, Nat.lt_succ_of_lt hc, z4⟩
        · exact Or.inr z
      · intro r hr
        obtain ⟨c, hc, e⟩ := Inv_rc hI r hr
        exact ⟨c, Nat.lt_succ_of_lt hc, e⟩
  · rw [if_neg hx]; exact hI
theorem Inv_other (hI : Inv S) (x : Int32) : Inv (fOther S x).2 := by
  unfold fOther
  by_cases hx : up1 (mN S 1) x = true
  · rw [if_pos hx]
    by_cases h30 : mN S 1 = 30
    · rw [if_pos h30]; exact hI
    · rw [if_neg h30]
      have hC := Inv_O hI
      show Inv (sC (sI S 1 (mN S 1) x) 1 (mN S 1 + 1))
      refine ⟨(by have e := Inv_C hI; exact e), ?_, (by have e := Inv_A hI; exact e), (by have e := Inv_R hI; exact e), (by have e := Inv_ab hI; exact e), ?_, (by have e := Inv_st hI; exact e), (by have e := Inv_so hI; exact e), (by have e := Inv_tr hI; exact e), (by have e := Inv_sc hI; exact e), (by have e := Inv_it hI; exact e), (by have e := Inv_ra hI; exact e), (by have e := Inv_rc hI; exact e), (by have e := Inv_rt hI; exact e), (by have e := Inv_rd hI; exact e), (by have e := Inv_rz hI; exact e), (by have e := Inv_le hI; exact e), (by have e := Inv_ga hI; exact e), ?_⟩
      · show mN S 1 + 1 ≤ 30
        omega
      · intro c hc
        have hc2 : c < mN S 1 + 1 := hc
        rw [mI_sC, mI_sI]
        by_cases e : c = mN S 1
        · rw [if_pos ⟨rfl, e⟩, e]; exact up1_is hx
        · rw [if_neg (fun z => e z.2)]; exact Inv_ob hI c (by omega)
      · intro c k hk
        have hk2 : mN S 1 + 1 ≤ k := hk
        exact Inv_ca hI c k (by omega)
  · rw [if_neg hx]; exact hI
theorem Inv_exclude (hI : Inv S) (x y z : Int32) : Inv (fExclude S x y z).2 := by
  unfold fExclude
  split
  · refine ⟨(by have e := Inv_C hI; exact e), (by have e := Inv_O hI; exact e), (by have e := Inv_A hI; exact e), (by have e := Inv_R hI; exact e), (by have e := Inv_ab hI; exact e), (by have e := Inv_ob hI; exact e), (by have e := Inv_st hI; exact e), (by have e := Inv_so hI; exact e), (by have e := Inv_tr hI; exact e), (by have e := Inv_sc hI; exact e), (by have e := Inv_it hI; exact e), (by have e := Inv_ra hI; exact e), (by have e := Inv_rc hI; exact e), (by have e := Inv_rt hI; exact e), (by have e := Inv_rd hI; exact e), (by have e := Inv_rz hI; exact e), (by have e := Inv_le hI; exact e), (by have e := Inv_ga hI; exact e), (by have e := Inv_ca hI; exact e)⟩
  · exact hI
theorem Inv_carry (hI : Inv S) (x y z : Int32) : Inv (fCarry S x y z).2 := by
  unfold fCarry
  split
  next c o b hx hy hz =>
    have hO := Inv_O hI
    obtain ⟨ho, -⟩ := vI_some hy
    show Inv (sL S 4 c (wB (mL S 4 c) o b))
    refine ⟨(by have e := Inv_C hI; exact e), (by have e := Inv_O hI; exact e), (by have e := Inv_A hI; exact e), (by have e := Inv_R hI; exact e), (by have e := Inv_ab hI; exact e), (by have e := Inv_ob hI; exact e), (by have e := Inv_st hI; exact e), (by have e := Inv_so hI; exact e), (by have e := Inv_tr hI; exact e), (by have e := Inv_sc hI; exact e), (by have e := Inv_it hI; exact e), (by have e := Inv_ra hI; exact e), (by have e := Inv_rc hI; exact e), (by have e := Inv_rt hI; exact e), (by have e := Inv_rd hI; exact e), (by have e := Inv_rz hI; exact e), (by have e := Inv_le hI; exact e), (by have e := Inv_ga hI; exact e), ?_⟩
    intro c2 k hk
    have hk2 : mN S 1 ≤ k := hk
    rw [mL_sL]
    split
    · rw [bT_wB_ne (by omega) (by omega)]; exact Inv_ca hI c k hk2
    · exact Inv_ca hI c2 k hk2
  next => exact hI
theorem Inv_put (hI : Inv S) (x y : Int32) : Inv (fPut S x y).2 := by
  unfold fPut
  split
  next j w hx hy =>
    split
    · split
      · exact hI
      · show Inv (sL S 1 j (wB (mL S 1 j) w 1))
        refine ⟨(by have e := Inv_C hI; exact e), (by have e := Inv_O hI; exact e), (by have e := Inv_A hI; exact e), (by have e := Inv_R hI; exact e), (by have e := Inv_ab hI; exact e), (by have e := Inv_ob hI; exact e), (by have e := Inv_st hI; exact e), (by have e := Inv_so hI; exact e), (by have e := Inv_tr hI; exact e), (by have e := Inv_sc hI; exact e), (by have e := Inv_it hI; exact e), (by have e := Inv_ra hI; exact e), (by have e := Inv_rc hI; exact e), (by have e := Inv_rt hI; exact e), (by have e := Inv_rd hI; exact e), (by have e := Inv_rz hI; exact e), (by have e := Inv_le hI; exact e), (by have e := Inv_ga hI; exact e), (by have e := Inv_ca hI; exact e)⟩
    · exact hI
  next => exact hI
theorem Inv_rule (hI : Inv S) (x y z : Int32) : Inv (fRule S x y z).2 := by
  unfold fRule
  split
  next a c b hx hy hz =>
    have hR := Inv_R hI
    split
    · exact hI
    · rename_i h40
      show Inv (sC (sI (sI (sI S 11 (mN S 3) x) 12 (mN S 3) y) 13 (mN S 3) z) 3 (mN S 3 + 1))
      have z0 := Inv_rz hI (mN S 3) (Nat.le_refl _)
      refine ⟨(by have e := Inv_C hI; exact e), (by have e := Inv_O hI; exact e), (by have e := Inv_A hI; exact e), ?_, (by have e := Inv_ab hI; exact e), (by have e := Inv_ob hI; exact e), (by have e := Inv_st hI; exact e), (by have e := Inv_so hI; exact e), (by have e := Inv_tr hI; exact e), (by have e := Inv_sc hI; exact e), (by have e := Inv_it hI; exact e), ?_, ?_, ?_, ?_, ?_, (by have e := Inv_le hI; exact e), (by have e := Inv_ga hI; exact e), (by have e := Inv_ca hI; exact e)⟩
      · show mN S 3 + 1 ≤ 40
        omega
      · intro r hr
        have hr2 : r < mN S 3 + 1 := hr
        show ∃ v, v < 10 ∧ (if r = mN S 3 then x else mI S 11 r) = nI v
        by_cases e : r = mN S 3
        · rw [if_pos e]; exact ⟨a, (vI_some hx).1, (vI_some hx).2⟩
        · rw [if_neg e]; exact Inv_ra hI r (by omega)
      · intro r hr
        have hr2 : r < mN S 3 + 1 := hr
        show ∃ v, v < mN S 0 ∧ (if r = mN S 3 then y else mI S 12 r) = nI v
        by_cases e : r = mN S 3
        · rw [if_pos e]; exact ⟨c, (vI_some hy).1, (vI_some hy).2⟩
        · rw [if_neg e]; exact Inv_rc hI r (by omega)
      · intro r hr
        have hr2 : r < mN S 3 + 1 := hr
        show ∃ v, v < 1024 ∧ (if r = mN S 3 then z else mI S 13 r) = nI v
        by_cases e : r = mN S 3
        · rw [if_pos e]; exact ⟨b, (vI_some hz).1, (vI_some hz).2⟩
        · rw [if_neg e]; exact Inv_rt hI r (by omega)
      · intro r hr
        have hr2 : r < mN S 3 + 1 := hr
        show mI S 14 r = 0 ∨ mI S 14 r = 1
        by_cases e : r = mN S 3
        · rw [e]; exact Or.inl z0.2.2
        · exact Inv_rd hI r (by omega)
      · intro r hr
        have hr2 : mN S 3 + 1 ≤ r := hr
        exact Inv_rz hI r (by omega)
  next => exact hI
theorem Inv_with (hI : Inv S) (x y z : Int32) : Inv (fWith S x y z).2 := by
  unfold fWith
  split
  next r w b hx hy hz =>
    obtain ⟨hr, -⟩ := vI_some hx
    split
    · show Inv (sL (sL S 2 r _) 3 r _)
      refine ⟨(by have e := Inv_C hI; exact e), (by have e := Inv_O hI; exact e), (by have e := Inv_A hI; exact e), (by have e := Inv_R hI; exact e), (by have e := Inv_ab hI; exact e), (by have e := Inv_ob hI; exact e), (by have e := Inv_st hI; exact e), (by have e := Inv_so hI; exact e), (by have e := Inv_tr hI; exact e), (by have e := Inv_sc hI; exact e), (by have e := Inv_it hI; exact e), (by have e := Inv_ra hI; exact e), (by have e := Inv_rc hI; exact e), (by have e := Inv_rt hI; exact e), (by have e := Inv_rd hI; exact e), ?_, (by have e := Inv_le hI; exact e), (by have e := Inv_ga hI; exact e), (by have e := Inv_ca hI; exact e)⟩
      intro r2 hr2
      have hr3 : mN S 3 ≤ r2 := hr2
      have hne : ¬ r2 = r := by omega
      rw [mL_sL, if_neg (fun z => absurd z.1 (by decide)), mL_sL, if_neg (fun z => hne z.2), mL_sL, if_neg (fun z => hne z.2), mL_sL, if_neg (fun z => absurd z.1 (by decide))]
      exact Inv_rz hI r2 hr3
    · exact hI
  next => exact hI
theorem Inv_drop (hI : Inv S) (x : Int32) : Inv (fDrop S x).2 := by
  unfold fDrop
  split
  next r hx =>
    obtain ⟨hr, -⟩ := vI_some hx
    split
    · show Inv (sI S 14 r 1)
      refine ⟨(by have e := Inv_C hI; exact e), (by have e := Inv_O hI; exact e), (by have e := Inv_A hI; exact e), (by have e := Inv_R hI; exact e), (by have e := Inv_ab hI; exact e), (by have e := Inv_ob hI; exact e), (by have e := Inv_st hI; exact e), (by have e := Inv_so hI; exact e), (by have e := Inv_tr hI; exact e), (by have e := Inv_sc hI; exact e), (by have e := Inv_it hI; exact e), (by have e := Inv_ra hI; exact e), (by have e := Inv_rc hI; exact e), (by have e := Inv_rt hI; exact e), ?_, ?_, (by have e := Inv_le hI; exact e), (by have e := Inv_ga hI; exact e), (by have e := Inv_ca hI; exact e)⟩
      · intro r2 hr2
        rw [mI_sI]
        split
        · exact Or.inr rfl
        · exact Inv_rd hI r2 hr2
      · intro r2 hr2
        have hr3 : mN S 3 ≤ r2 := hr2
        have hne : ¬ r2 = r := by omega
        rw [mI_sI, if_neg (fun z => hne z.2)]
        exact Inv_rz hI r2 hr3
    · exact hI
  next => exact hI
theorem in_nat {x : Int32} {a b : Nat} (ha : a < 2 ^ 30) (hb : b < 2 ^ 30) (h1 : nI a ≤ x) (h2 : x ≤ nI b) : ∃ v, a ≤ v ∧ v ≤ b ∧ x = nI v := by
  rw [Int32.le_iff_toInt_le, nI_toInt (by omega)] at h1 h2
  refine ⟨x.toInt.toNat, by omega, by omega, ?_⟩
  apply Int32.toInt_inj.mp
  rw [nI_toInt (by omega)]
  omega
theorem Inv_gap (hI : Inv S) (x y : Int32) : Inv (fGap S x y).2 := by
  unfold fGap
  split
  next hc =>
    rw [Bool.and_eq_true] at hc
    have h1 := of_decide_eq_true hc.1
    have h2 := of_decide_eq_true hc.2
    obtain ⟨v, v1, v2, v3⟩ := in_nat (a := 1) (b := 1000) (by decide) (by decide) h1.1 h1.2
    obtain ⟨w, w1, w2, w3⟩ := in_nat (a := 0) (b := 1000) (by decide) (by decide) h2.1 h2.2
    show Inv (sI (sI S 15 0 x) 15 1 y)
    refine ⟨(by have e := Inv_C hI; exact e), (by have e := Inv_O hI; exact e), (by have e := Inv_A hI; exact e), (by have e := Inv_R hI; exact e), (by have e := Inv_ab hI; exact e), (by have e := Inv_ob hI; exact e), (by have e := Inv_st hI; exact e), (by have e := Inv_so hI; exact e), (by have e := Inv_tr hI; exact e), (by have e := Inv_sc hI; exact e), (by have e := Inv_it hI; exact e), (by have e := Inv_ra hI; exact e), (by have e := Inv_rc hI; exact e), (by have e := Inv_rt hI; exact e), (by have e := Inv_rd hI; exact e), (by have e := Inv_rz hI; exact e), ?_, ?_, (by have e := Inv_ca hI; exact e)⟩
    · exact ⟨v, v1, v2, v3⟩
    · exact ⟨w, w2, w3⟩
  next => exact hI
theorem Inv_second (hI : Inv S) (x y z : Int32) : Inv (fSecond S x y z).2 := by
  unfold fSecond
  split
  next j b c hx hy hz =>
    obtain ⟨hp, -, -⟩ := vT_some hx
    split
    next hc =>
      show Inv (sI S 10 j z)
      refine ⟨(by have e := Inv_C hI; exact e), (by have e := Inv_O hI; exact e), (by have e := Inv_A hI; exact e), (by have e := Inv_R hI; exact e), (by have e := Inv_ab hI; exact e), (by have e := Inv_ob hI; exact e), (by have e := Inv_st hI; exact e), (by have e := Inv_so hI; exact e), (by have e := Inv_tr hI; exact e), (by have e := Inv_sc hI; exact e), ?_, (by have e := Inv_ra hI; exact e), (by have e := Inv_rc hI; exact e), (by have e := Inv_rt hI; exact e), (by have e := Inv_rd hI; exact e), (by have e := Inv_rz hI; exact e), (by have e := Inv_le hI; exact e), (by have e := Inv_ga hI; exact e), (by have e := Inv_ca hI; exact e)⟩
      intro j2 hj2
      have hj3 : prs S j2 = true := hj2
      show (mI S 6 j2 = 1 ∧ (∃ c, c < mN S 0 ∧ mI S 7 j2 = nI c) ∧ (mI S 8 j2 = 0 ∨ mI S 8 j2 = 1 ∨ mI S 8 j2 = 2) ∧ ((if j2 = j then z else mI S 10 j2) = -1 ∨ ∃ c, c < mN S 0 ∧ (if j2 = j then z else mI S 10 j2) = nI c)) ∨ ((mI S 6 j2 = 0 ∨ mI S 6 j2 = 2) ∧ mI S 7 j2 = -1 ∧ mI S 8 j2 = -1 ∧ mI S 9 j2 = -1 ∧ (if j2 = j then z else mI S 10 j2) = -1)
      by_cases e : j2 = j
      · subst e
        rw [if_pos rfl]
        rcases Inv_it hI j2 hj3 with ⟨z1, z2, z3, z4⟩ | ⟨z1, _⟩
        · exact Or.inl ⟨z1, z2, z3, Or.inr ⟨c, (vI_some hz).1, (vI_some hz).2⟩⟩
        · rw [hc.1] at z1
          rcases z1 with z1 | z1
          · exact absurd z1 (by decide)
          · exact absurd z1 (by decide)
      · rw [if_neg e]; exact Inv_it hI j2 hj3
    next => exact hI
  next => exact hI
theorem Inv_answer (hI : Inv S) (x y z : Int32) : Inv (fAnswer S x y z).2 := by
  unfold fAnswer
  split
  next a b c hx hy hz =>
    have hA := Inv_A hI
    split
    · exact hI
    · rename_i h80
      show Inv (ansS S x y z)
      refine ⟨by rw [ansS_Nd S x y z (d := 0) (by decide)]; exact Inv_C hI, by rw [ansS_Nd S x y z (d := 1) (by decide)]; exact Inv_O hI, by rw [ansS_N, if_pos rfl]; omega, by rw [ansS_Nd S x y z (d := 3) (by decide)]; exact Inv_R hI,
        fun c hc => by rw [ansS_Nd S x y z (d := 0) (by decide)] at hc; rw [ansS_I S x y z (c := 0) (by decide)]; exact Inv_ab hI c hc, fun c hc => by rw [ansS_Nd S x y z (d := 1) (by decide)] at hc; rw [ansS_I S x y z (c := 1) (by decide)]; exact Inv_ob hI c hc, fun c hc => by rw [ansS_2]; exact Inv_st hI c hc,
        ?_, ?_, ?_, ?_,
        fun r hr => by rw [ansS_Nd S x y z (d := 3) (by decide)] at hr; rw [ansS_I S x y z (c := 11) (by decide)]; exact Inv_ra hI r hr, fun r hr => by rw [ansS_Nd S x y z (d := 3) (by decide)] at hr; rw [ansS_Nd S x y z (d := 0) (by decide), ansS_I S x y z (c := 12) (by decide)]; exact Inv_rc hI r hr, fun r hr => by rw [ansS_Nd S x y z (d := 3) (by decide)] at hr; rw [ansS_I S x y z (c := 13) (by decide)]; exact Inv_rt hI r hr, fun r hr => by rw [ansS_Nd S x y z (d := 3) (by decide)] at hr; rw [ansS_I S x y z (c := 14) (by decide)]; exact Inv_rd hI r hr,
        fun r hr => by rw [ansS_Nd S x y z (d := 3) (by decide)] at hr; rw [ansS_L S x y z (c := 2) (by decide), ansS_L S x y z (c := 3) (by decide), ansS_I S x y z (c := 14) (by decide)]; exact Inv_rz hI r hr, by rw [ansS_I S x y z (c := 15) (by decide)]; exact Inv_le hI, by rw [ansS_I S x y z (c := 15) (by decide)]; exact Inv_ga hI, fun c k hk => by rw [ansS_Nd S x y z (d := 1) (by decide)] at hk; rw [ansS_L S x y z (c := 4) (by decide)]; exact Inv_ca hI c k hk⟩
      · intro i hi
        rw [ansS_N, if_pos rfl] at hi
        rw [ansS_3]
        by_cases e : i = mN S 2
        · rw [if_pos e]
          obtain ⟨h1, h2⟩ := vI_some hx
          rcases (show a = 0 ∨ a = 1 by omega) with e2 | e2
          · rw [h2, e2]; exact Or.inl rfl
          · rw [h2, e2]; exact Or.inr rfl
        · rw [if_neg e]; exact Inv_so hI i (by omega)
      · intro i hi
        rw [ansS_N, if_pos rfl] at hi
        rw [ansS_4]
        by_cases e : i = mN S 2
        · rw [if_pos e]; exact ⟨b, vI_some hy⟩
        · rw [if_neg e]; exact Inv_tr hI i (by omega)
      · intro i hi
        rw [ansS_N, if_pos rfl] at hi
        rw [ansS_5]
        by_cases e : i = mN S 2
        · rw [if_pos e]; exact ⟨c, vI_some hz⟩
        · rw [if_neg e]; exact Inv_sc hI i (by omega)
      · intro j hj
        rw [ansS_6, ansS_7, ansS_8, ansS_9, ansS_10, ansS_Nd S x y z (d := 0) (by decide)]
        rw [ansS_prs] at hj
        by_cases e1 : j = 2 * mN S 2 + 1
        · simp only [if_pos e1]
          exact Or.inr ⟨Or.inl trivial, trivial, trivial, trivial, trivial⟩
        · simp only [if_neg e1]
          by_cases e2 : j = 2 * mN S 2
          · simp only [if_pos e2]
            exact Or.inr ⟨Or.inl trivial, trivial, trivial, trivial, trivial⟩
          · simp only [if_neg e2]
            have hp : prs S j = true := by simpa [e1, e2] using hj
            exact Inv_it hI j hp
  next => exact hI
theorem Inv_settle (hI : Inv S) (x y z : Int32) : Inv (fSettle S x y z).2 := by
  unfold fSettle
  split
  next j b c hx hy hz =>
    split
    · obtain ⟨hc, rfl⟩ := vI_some hz
      exact (sF_inv hI j hc y 160).1
    · exact hI
  next => exact hI
theorem Inv_day (hI : Inv S) : Inv (fDay S).2 := (dF_inv hI 160).1
theorem Inv_recode (hI : Inv S) : Inv (fRecode S).2 := by
  have h := (rcF_inv hI 160).1
  unfold fRecode
  dsimp only
  exact h
theorem set_code (x : Int32) : setS (fCode S x).2 = setS S := by
  unfold fCode; split
  · split <;> rfl
  · rfl
theorem set_other (x : Int32) : setS (fOther S x).2 = setS S := by
  unfold fOther; split
  · split <;> rfl
  · rfl
theorem set_exclude (x y z : Int32) : setS (fExclude S x y z).2 = setS S := by
  unfold fExclude; split <;> rfl
theorem set_carry (x y z : Int32) : setS (fCarry S x y z).2 = setS S := by
  unfold fCarry; split <;> rfl
theorem set_rule (x y z : Int32) : setS (fRule S x y z).2 = setS S := by
  unfold fRule; split
  · split <;> rfl
  · rfl
theorem set_with (x y z : Int32) : setS (fWith S x y z).2 = setS S := by
  unfold fWith; split
  · split <;> rfl
  · rfl
theorem set_drop (x : Int32) : setS (fDrop S x).2 = setS S := by
  unfold fDrop; split
  · split <;> rfl
  · rfl
theorem set_gap (x y : Int32) : setS (fGap S x y).2 = setS S := by
  unfold fGap; split <;> rfl
theorem set_second (x y z : Int32) : setS (fSecond S x y z).2 = setS S := by
  unfold fSecond; split
  · split <;> rfl
  · rfl
end II
