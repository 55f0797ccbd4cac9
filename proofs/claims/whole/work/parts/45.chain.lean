/-! LIKENESS, and ways up -/
def lk (S : MM) (i j : Nat) : Int32 := if pop (setS S i ||| setS S j) = 0 then 0 else ((1000 : Int32) * nI (pop (setS S i &&& setS S j))) / nI (pop (setS S i ||| setS S j))
theorem lk_comm (S : MM) (i j : Nat) : lk S i j = lk S j i := by
  unfold lk
  rw [Int64.or_comm (setS S i) (setS S j), Int64.and_comm (setS S i) (setS S j)]
theorem pop_le (x : Int64) : pop x ≤ 64 := popN_le 64 (nn x)
def chB (up : Nat → Int32) (p : Nat → Bool) : Nat → Nat → Bool
  | 0, _ => false
  | n + 1, c => p c || (if up c < 0 then false else chB up p n (ix (up c)))
/-- c, or one above it, has p -/
def chn (up : Nat → Int32) (p : Nat → Bool) (c : Nat) : Bool := chB up p (c + 1) c
def Up (up : Nat → Int32) (n : Nat) : Prop := ∀ c, c < n → up c = -1 ∨ ∃ p, p < c ∧ up c = nI p
theorem chB_fuel {up : Nat → Int32} {p : Nat → Bool} {N : Nat} (hN : N < 2 ^ 31) (hu : Up up N) : ∀ n m c, c < N → c < n → c < m → chB up p n c = chB up p m c
  | 0, _, _, _, h, _ => absurd h (by omega)
  | _ + 1, 0, _, _, _, h => absurd h (by omega)
  | n + 1, m + 1, c, hc, h1, h2 => by
    show (p c || _) = (p c || _)
    rcases hu c hc with e | ⟨d, hd, e⟩
    · rw [e]; rfl
    · rw [e, if_neg (nI_pos (by omega)), if_neg (nI_pos (by omega)), ix_nI (by omega)]
      rw [chB_fuel hN hu n m d (by omega) (by omega) (by omega)]
theorem chn_top {up : Nat → Int32} {p : Nat → Bool} {c : Nat} (e : up c = -1) : chn up p c = p c := by
  show (p c || (if up c < 0 then false else _)) = p c
  rw [e, if_pos (by decide)]; simp
theorem chn_up {up : Nat → Int32} {p : Nat → Bool} {N : Nat} (hN : N < 2 ^ 31) (hu : Up up N) {c d : Nat} (hc : c < N) (hd : d < c) (e : up c = nI d) : chn up p c = (p c || chn up p d) := by
  show (p c || (if up c < 0 then false else chB up p c (ix (up c)))) = _
  rw [e, if_neg (nI_pos (by omega)), ix_nI (by omega)]
  unfold chn
  rw [chB_fuel hN hu c (d + 1) d (by omega) hd (by omega)]
theorem chB_cong {up : Nat → Int32} {p q : Nat → Bool} {N : Nat} (hN : N < 2 ^ 31) (hu : Up up N) (h : ∀ c, c < N → p c = q c) : ∀ n c, c < N → chB up p n c = chB up q n c
  | 0, _, _ => rfl
  | n + 1, c, hc => by
    show (p c || _) = (q c || _)
    rw [h c hc]
    rcases hu c hc with e | ⟨d, hd, e⟩
    · rw [e]; rfl
    · rw [e, if_neg (nI_pos (by omega)), if_neg (nI_pos (by omega)), ix_nI (by omega), chB_cong hN hu h n d (by omega)]
def xP (S : MM) (j : Nat) (d : Nat) : Bool := !decide (mL S 0 d &&& setS S j = 0)
def exS (S : MM) (c j : Nat) : Bool := chn (mI S 0) (xP S j) c
theorem upC {S : MM} (hI : Inv S) : Up (mI S 0) (mN S 0) := Inv_ab hI
theorem upO {S : MM} (hI : Inv S) : Up (mI S 1) (mN S 1) := Inv_ob hI
section PM
variable {t : Nat} {q : Nat → Nat} {S σ : MM}
theorem M_like (h : RepM t q S σ) {i j : Nat} (hi : i < 160) (hj : j < 160) (k : Int32 → MM → Prop) (hk : k (lk S i j) σ) : wX4_like t (nI i) (nI j) σ k := by
  unfold wX4_like
  unfold lk at hk
  refine ⟨RepM_K h, M_setOf h hi _ ⟨RepM_K h, M_setOf h hj _ (M_bits _ _ _ ?_)⟩⟩
  have hp := pop_le (setS S i ||| setS S j)
  simp only [nI_z (show pop (setS S i ||| setS S j) < 2 ^ 31 by omega)]
  by_cases e : pop (setS S i ||| setS S j) = 0
  · simp only [e, if_true, true_and, and_true, forall_eq, forall_eq', Option.some.injEq, exists_eq_left', false_implies, true_implies, forall_const, not_false_eq_true, not_true_eq_false, implies_true, b2iT, b2iF, i1n0, i0n1, Option.isSome_some, Option.isSome_none, Option.map_some, Option.map_none, reduceCtorEq, b2i_bz] at hk ⊢
    exact hk
  · simp only [e, if_false, true_and, and_true, forall_eq, forall_eq', Option.some.injEq, exists_eq_left', false_implies, true_implies, forall_const, not_false_eq_true, not_true_eq_false, implies_true, b2iT, b2iF, i1n0, i0n1, Option.isSome_some, Option.isSome_none, Option.map_some, Option.map_none, reduceCtorEq, b2i_bz] at hk ⊢
    exact M_bits _ _ _ hk
theorem M_exc_l (h : RepM t q S σ) (hI : Inv S) (j : Nat) (k : Int32 → MM → Prop) : ∀ n c, c < n → c < mN S 0 → k (b2i (exS S c j)) σ → wX4_isExcluded_9 k t (n + 1) (setS S j) (nI c) σ := by
  have hC := Inv_C hI
  intro n
  induction n with
  | zero => intro c h1; exact absurd h1 (by omega)
  | succ n ih =>
    intro c h1 h2 hk
    unfold wX4_isExcluded_9
    simp only [nI_pos (show c < 2 ^ 31 by omega), RepM_K h, RepM_r4 h, RepM_k4 h, RepM_n4 h, RepM_i4 h, RepM_r3 h, RepM_k3 h, RepM_n3 h, RepM_i3 h, ix_nI (show c < 2 ^ 31 by omega), vp_in_nI (show c < 40 by omega) (by decide), true_and, and_true, forall_eq, forall_eq', Option.some.injEq, exists_eq_left', false_implies, true_implies, forall_const, not_false_eq_true, not_true_eq_false, implies_true, b2iT, b2iF, i1n0, i0n1, Option.isSome_some, Option.isSome_none, Option.map_some, Option.map_none, reduceCtorEq, b2i_bz]
    by_cases e : mL S 0 c &&& setS S j = 0
    · have hx : xP S j c = false := by unfold xP; simp [e]
      simp only [e, true_and, and_true, forall_eq, forall_eq', Option.some.injEq, exists_eq_left', false_implies, true_implies, forall_const, not_false_eq_true, not_true_eq_false, implies_true, b2iT, b2iF, i1n0, i0n1, Option.isSome_some, Option.isSome_none, Option.map_some, Option.map_none, reduceCtorEq, b2i_bz]
      rcases upC hI c h2 with e1 | ⟨d, hd, e1⟩
      · unfold exS at hk
        rw [chn_top e1, hx] at hk
        rw [e1]
        unfold wX4_isExcluded_9
        simp only [show (-1 : Int32) < 0 by decide, true_and, and_true, forall_eq, forall_eq', Option.some.injEq, exists_eq_left', false_implies, true_implies, forall_const, not_false_eq_true, not_true_eq_false, implies_true, b2iT, b2iF, i1n0, i0n1, Option.isSome_some, Option.isSome_none, Option.map_some, Option.map_none, reduceCtorEq, b2i_bz]
        exact hk
      · unfold exS at hk
        rw [chn_up (show mN S 0 < 2 ^ 31 by omega) (upC hI) h2 hd e1, hx] at hk
        rw [e1]
        exact ih d (by omega) (by omega) hk
    · have hx : xP S j c = true := by unfold xP; simp [e]
      have : exS S c j = true := by
        unfold exS
        show (xP S j c || _) = true
        rw [hx]; rfl
      rw [this] at hk
      simp only [e, true_and, and_true, forall_eq, forall_eq', Option.some.injEq, exists_eq_left', false_implies, true_implies, forall_const, not_false_eq_true, not_true_eq_false, implies_true, b2iT, b2iF, i1n0, i0n1, Option.isSome_some, Option.isSome_none, Option.map_some, Option.map_none, reduceCtorEq, b2i_bz]
      exact hk
theorem M_isExcluded (h : RepM t q S σ) (hI : Inv S) {c j : Nat} (hc : c < mN S 0) (hj : j < 160) (k : Int32 → MM → Prop) (hk : k (b2i (exS S c j)) σ) : wX4_isExcluded t (nI c) (nI j) σ k := ⟨RepM_K h, M_setOf h hj _ ⟨c + 2, M_exc_l h hI j k (c + 1) c (by omega) hc hk⟩⟩
end PM
section PC
variable {u : Nat} {q ia ra : Nat → Nat} {S σ : MM} {sf : Nat → Int64}
theorem C_likenessTo (h : RepC u q ia ra S (setS S) σ) {i j : Nat} (hi : prs S i = true) (hj : prs S j = true) (k : Int32 → MM → Prop) (hk : k (lk S i j) σ) : wX0_likenessTo (ia i) (some (ia j)) σ k := by
  unfold wX0_likenessTo
  unfold lk at hk
  simp only [RepC_tK h i hi, RepC_tK h j hj, RepC_t3 h i hi, RepC_t3 h j hj, true_and, and_true, forall_eq, forall_eq', Option.some.injEq, exists_eq_left', false_implies, true_implies, forall_const, not_false_eq_true, not_true_eq_false, implies_true, b2iT, b2iF, i1n0, i0n1, Option.isSome_some, Option.isSome_none, Option.map_some, Option.map_none, reduceCtorEq, b2i_bz]
  refine C_bitCount _ _ _ ?_
  have hp := pop_le (setS S i ||| setS S j)
  simp only [RepC_tK h i hi, RepC_tK h j hj, RepC_t3 h i hi, RepC_t3 h j hj, nI_z (show pop (setS S i ||| setS S j) < 2 ^ 31 by omega), true_and, and_true, forall_eq, forall_eq', Option.some.injEq, exists_eq_left', false_implies, true_implies, forall_const, not_false_eq_true, not_true_eq_false, implies_true, b2iT, b2iF, i1n0, i0n1, Option.isSome_some, Option.isSome_none, Option.map_some, Option.map_none, reduceCtorEq, b2i_bz]
  by_cases e : pop (setS S i ||| setS S j) = 0
  · simp only [e, if_true, true_and, and_true, forall_eq, forall_eq', Option.some.injEq, exists_eq_left', false_implies, true_implies, forall_const, not_false_eq_true, not_true_eq_false, implies_true, b2iT, b2iF, i1n0, i0n1, Option.isSome_some, Option.isSome_none, Option.map_some, Option.map_none, reduceCtorEq, b2i_bz] at hk ⊢
    exact hk
  · simp only [e, if_false, true_and, and_true, forall_eq, forall_eq', Option.some.injEq, exists_eq_left', false_implies, true_implies, forall_const, not_false_eq_true, not_true_eq_false, implies_true, b2iT, b2iF, i1n0, i0n1, Option.isSome_some, Option.isSome_none, Option.map_some, Option.map_none, reduceCtorEq, b2i_bz] at hk ⊢
    exact C_bitCount _ _ _ hk
theorem C_codesExcluding_l (h : RepC u q ia ra S sf σ) (y : Int64) (k : Int64 → MM → Prop) (hk : ∀ E : Int64, (∀ c, c < 64 → bT E c = (decide (c < 40) && !decide (mL S 0 c &&& y = 0))) → k E σ) : ∀ d i (E : Int64), i + d = 40 → (∀ c, c < 64 → bT E c = (decide (c < i) && !decide (mL S 0 c &&& y = 0))) → wX3_codesExcluding_5 k u (d + 1) y E (nI i) σ := by
  intro d
  induction d with
  | zero =>
    intro i E hi hE
    have : i = 40 := by omega
    subst this
    unfold wX3_codesExcluding_5
    simp only [RepC_K h, RepC_r2 h, RepC_k2 h, RepC_n2 h, le40, true_and, and_true, forall_eq, forall_eq', Option.some.injEq, exists_eq_left', false_implies, true_implies, forall_const, not_false_eq_true, not_true_eq_false, implies_true, b2iT, b2iF, i1n0, i0n1, Option.isSome_some, Option.isSome_none, Option.map_some, Option.map_none, reduceCtorEq, b2i_bz]
    exact hk E hE
  | succ d ih =>
    intro i E hi hE
    unfold wX3_codesExcluding_5
    have e1 : ¬ nI 40 ≤ nI i := nI_ge (by omega) (by decide)
    simp only [RepC_K h, RepC_r2 h, RepC_k2 h, RepC_n2 h, RepC_i2 h, e1, ix_nI (show i < 2 ^ 31 by omega), vp_in_nI (show i < 40 by omega) (by decide), nI_1, true_and, and_true, forall_eq, forall_eq', Option.some.injEq, exists_eq_left', false_implies, true_implies, forall_const, not_false_eq_true, not_true_eq_false, implies_true, b2iT, b2iF, i1n0, i0n1, Option.isSome_some, Option.isSome_none, Option.map_some, Option.map_none, reduceCtorEq, b2i_bz]
    refine ⟨fun e => ih (i + 1) E (by omega) (fun c hc => ?_), fun e => ih (i + 1) _ (by omega) (fun c hc => ?_)⟩
    · rw [hE c hc]
      by_cases ec : c = i
      · subst ec; simp [e]
      · rw [show decide (c < i + 1) = decide (c < i) from by rw [Bool.eq_iff_iff]; simp only [decide_eq_true_eq]; omega]
    · rw [bT_or, bT_shl1 (by omega), hE c hc]
      by_cases ec : c = i
      · subst ec; simp [e]
      · rw [show decide (c < i + 1) = decide (c < i) from by rw [Bool.eq_iff_iff]; simp only [decide_eq_true_eq]; omega]
        simp [ec]
theorem C_codesExcluding (h : RepC u q ia ra S sf σ) (y : Int64) (k : Int64 → MM → Prop) (hk : ∀ E : Int64, (∀ c, c < 64 → bT E c = (decide (c < 40) && !decide (mL S 0 c &&& y = 0))) → k E σ) : wX3_codesExcluding u y σ k := ⟨41, C_codesExcluding_l h y k hk 40 0 0 rfl (fun c _ => by rw [bT_0]; simp)⟩
theorem C_below_l {a b n : Nat} {up : Nat → Int32} (h1 : mK σ a = 3) (h2 : mI σ a 2 = nI n) (h3 : mR σ a 0 = some b) (h4 : mK σ b = 6) (h5 : mN σ b = 40) (h6 : mI σ b = up) (hn : n ≤ 40) (hu : Up up n) (T : Int64) (k : Int64 → MM → Prop) (hk : ∀ E : Int64, (∀ c, c < n → bT E c = chn up (bT T) c) → (∀ c, c < 64 → n ≤ c → bT E c = bT T c) → k E σ) : ∀ d i (E : Int64), i + d = n → (∀ c, c < i → bT E c = chn up (bT T) c) → (∀ c, c < 64 → i ≤ c → bT E c = bT T c) → wX2_below_5 k a (d + 1) E (nI i) σ := by
  intro d
  induction d with
  | zero =>
    intro i E hi g1 g2
    have : i = n := by omega
    subst this
    unfold wX2_below_5
    simp only [h1, h2, show nI i ≤ nI i from nI_le (Nat.le_refl _) (by omega), true_and, and_true, forall_eq, forall_eq', Option.some.injEq, exists_eq_left', false_implies, true_implies, forall_const, not_false_eq_true, not_true_eq_false, implies_true, b2iT, b2iF, i1n0, i0n1, Option.isSome_some, Option.isSome_none, Option.map_some, Option.map_none, reduceCtorEq, b2i_bz]
    exact hk E g1 g2
  | succ d ih =>
    intro i E hi g1 g2
    unfold wX2_below_5
    have e1 : ¬ nI n ≤ nI i := nI_ge (by omega) (by omega)
    have e2 : ¬ nI 40 ≤ nI i := nI_ge (by omega) (by decide)
    simp only [h1, h2, h3, h4, h5, h6, e1, e2, ix_nI (show i < 2 ^ 31 by omega), vp_in_nI (show i < 40 by omega) (by decide), nI_1, true_and, and_true, forall_eq, forall_eq', Option.some.injEq, exists_eq_left', false_implies, true_implies, forall_const, not_false_eq_true, not_true_eq_false, implies_true, b2iT, b2iF, i1n0, i0n1, Option.isSome_some, Option.isSome_none, Option.map_some, Option.map_none, reduceCtorEq, b2i_bz]
    have keep : bT E i = chn up (bT T) i → wX2_below_5 k a (d + 1) E (nI (i + 1)) σ := fun e => ih (i + 1) E (by omega) (fun c hc => by
      by_cases ec : c = i
      · rw [ec]; exact e
      · exact g1 c (by omega)) (fun c hc hc2 => g2 c hc (by omega))
    rcases hu i (by omega) with eu | ⟨p, hp, eu⟩
    · rw [eu]
      refine ⟨fun _ => keep ?_, fun hh => absurd rfl hh⟩
      rw [chn_top eu]; exact g2 i (by omega) (Nat.le_refl _)
    · rw [eu]
      refine ⟨fun hh => absurd hh (nI_nm1 (by omega)), fun _ => ?_⟩
      rw [eC_bit E (show p < 64 by omega)]
      simp only [b2i_1]
      have cu := chn_up (p := bT T) (show n < 2 ^ 31 by omega) hu (show i < n by omega) hp eu
      refine ⟨fun hb => keep ?_, fun hb => ?_⟩
      · rw [cu, ← g1 p hp, g2 i (by omega) (Nat.le_refl _)]
        have : bT E p = false := by simpa using hb
        rw [this]; simp
      · refine ih (i + 1) _ (by omega) (fun c hc => ?_) (fun c hc hc2 => ?_)
        · rw [bT_or, bT_shl1 (by omega)]
          by_cases ec : c = i
          · subst ec
            rw [cu, ← g1 p hp, hb]; simp
          · rw [g1 c (by omega)]; simp [ec]
        · rw [bT_or, bT_shl1 (by omega), g2 c hc (by omega)]
          simp [show ¬ c = i by omega]
theorem C_below {a b n : Nat} {up : Nat → Int32} (h1 : mK σ a = 3) (h2 : mI σ a 2 = nI n) (h3 : mR σ a 0 = some b) (h4 : mK σ b = 6) (h5 : mN σ b = 40) (h6 : mI σ b = up) (hn : n ≤ 40) (hu : Up up n) (T : Int64) (k : Int64 → MM → Prop) (hk : ∀ E : Int64, (∀ c, c < n → bT E c = chn up (bT T) c) → (∀ c, c < 64 → n ≤ c → bT E c = bT T c) → k E σ) : wX2_below a T σ k := ⟨n + 1, C_below_l h1 h2 h3 h4 h5 h6 hn hu T k hk n 0 T (by omega) (fun _ hc => absurd hc (by omega)) (fun _ _ _ => rfl)⟩
end PC
