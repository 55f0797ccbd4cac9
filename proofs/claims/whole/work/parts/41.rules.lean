/-! BY RULES -/
def tB (x y : Int32) : Bool := decide ((x >>> (y &&& 31)) &&& 1 = 1)
def hold (S : MM) (r j : Nat) : Bool := decide (mI S 14 r = 0) && (tB (mI S 13 r) (mI S 4 (j / 2)) && (decide (mL S 2 r &&& (setS S j ^^^ (-1)) = 0) && decide (mL S 3 r &&& setS S j = 0)))
/-- a rule that is there, not aside, and holds -/
def hA (S : MM) (j : Nat) (w : Int32) (r : Nat) : Bool := decide (r < mN S 3) && (!decide (nI r = w) && hold S r j)
/-- the least of those with the least rank, and that rank -/
def lF (S : MM) (j : Nat) (w : Int32) : Nat → Int32 × Int32
  | 0 => (-1, 10)
  | n + 1 => if hA S j w n && decide (mI S 11 n < (lF S j w n).2) then (nI n, mI S 11 n) else lF S j w n
/-- what the reference has found -/
def fF (S : MM) (j : Nat) (w : Int32) : Nat → Int32
  | 0 => -2
  | n + 1 => if hA S j w n then (if mI S 11 n < (lF S j w n).2 then mI S 12 n else if (lF S j w n).2 < mI S 11 n then fF S j w n else if fF S j w n = mI S 12 n then fF S j w n else -5) else fF S j w n
/-- another code among those of rule l's rank -/
def cX (S : MM) (j : Nat) (w : Int32) (l : Nat) : Nat → Bool
  | 0 => false
  | n + 1 => cX S j w l n || (hA S j w n && (decide (mI S 11 n = mI S 11 l) && !decide (mI S 12 n = mI S 12 l)))
def rS (S : MM) (j : Nat) (w : Int32) : Int32 := fF S j w (mN S 3)
def lS (S : MM) (j : Nat) (w : Int32) : Int32 := (lF S j w (mN S 3)).1
theorem lF_t {S : MM} {j : Nat} {w : Int32} {n : Nat} (h : hA S j w n = true) (h2 : mI S 11 n < (lF S j w n).2) : lF S j w (n + 1) = (nI n, mI S 11 n) := by
  show (if _ then _ else _) = _
  rw [if_pos (by rw [h]; simpa using h2)]
theorem lF_f {S : MM} {j : Nat} {w : Int32} {n : Nat} (h : hA S j w n = false) : lF S j w (n + 1) = lF S j w n := by
  show (if _ then _ else _) = _
  rw [if_neg (by rw [h]; simp)]
theorem lF_g {S : MM} {j : Nat} {w : Int32} {n : Nat} (h2 : ¬ mI S 11 n < (lF S j w n).2) : lF S j w (n + 1) = lF S j w n := by
  show (if _ then _ else _) = _
  rw [if_neg (by simp [h2])]
theorem fF_f {S : MM} {j : Nat} {w : Int32} {n : Nat} (h : hA S j w n = false) : fF S j w (n + 1) = fF S j w n := by
  show (if _ then _ else _) = _
  rw [if_neg (by rw [h]; simp)]
theorem cX_f {S : MM} {j : Nat} {w : Int32} {l n : Nat} (h : hA S j w n = false) : cX S j w l (n + 1) = cX S j w l n := by
  show (cX S j w l n || _) = _
  rw [h]; simp
theorem hA_out {S : MM} {j : Nat} {w : Int32} {n : Nat} (h : mN S 3 ≤ n) : hA S j w n = false := by
  unfold hA
  rw [show decide (n < mN S 3) = false from by simpa using h]; rfl
theorem lF_out {S : MM} {j : Nat} {w : Int32} : ∀ d, lF S j w (mN S 3 + d) = lF S j w (mN S 3)
  | 0 => rfl
  | d + 1 => by
    have := lF_f (hA_out (S := S) (j := j) (w := w) (n := mN S 3 + d) (by omega))
    exact this.trans (lF_out d)
theorem cX_out {S : MM} {j : Nat} {w : Int32} {l : Nat} : ∀ d, cX S j w l (mN S 3 + d) = cX S j w l (mN S 3)
  | 0 => rfl
  | d + 1 => by
    have := cX_f (l := l) (hA_out (S := S) (j := j) (w := w) (n := mN S 3 + d) (by omega))
    exact this.trans (cX_out d)
theorem cX_mono {S : MM} {j : Nat} {w : Int32} {l m : Nat} : ∀ d, cX S j w l m = true → cX S j w l (m + d) = true
  | 0, h => h
  | d + 1, h => by
    show (cX S j w l (m + d) || _) = true
    rw [cX_mono d h]; rfl
theorem cX_none {S : MM} {j : Nat} {w : Int32} {l : Nat} : ∀ n, (∀ r, r < n → hA S j w r = true → mI S 11 r ≠ mI S 11 l) → cX S j w l n = false
  | 0, _ => rfl
  | n + 1, h => by
    show (cX S j w l n || (hA S j w n && (decide (mI S 11 n = mI S 11 l) && _))) = false
    rw [cX_none n (fun r hr => h r (by omega))]
    cases hh : hA S j w n with
    | false => rfl
    | true =>
      rw [show decide (mI S 11 n = mI S 11 l) = false from by simpa using h n (by omega) hh]; rfl
theorem hA_lt {S : MM} {j : Nat} {w : Int32} {n : Nat} (h : hA S j w n = true) : n < mN S 3 := by
  simp only [hA, Bool.and_eq_true, decide_eq_true_eq] at h
  exact h.1
/-- the reference's one pass and the class's two -/
theorem byR_inv {S : MM} (hI : Inv S) (j : Nat) (w : Int32) : ∀ n, (lF S j w n = (-1, 10) ∧ fF S j w n = -2 ∧ ∀ r, r < n → hA S j w r = false) ∨ ∃ l, l < n ∧ lF S j w n = (nI l, mI S 11 l) ∧ hA S j w l = true ∧ (∀ r, r < n → hA S j w r = true → mI S 11 l ≤ mI S 11 r) ∧ fF S j w n = if cX S j w l n then -5 else mI S 12 l
  | 0 => Or.inl ⟨rfl, rfl, fun _ h => absurd h (by omega)⟩
  | n + 1 => by
    cases hh : hA S j w n with
    | false =>
      rw [lF_f hh, fF_f hh]
      rcases byR_inv hI j w n with ⟨h1, h2, h3⟩ | ⟨l, h1, h2, h3, h4, h5⟩
      · refine Or.inl ⟨h1, h2, fun r hr => ?_⟩
        by_cases e : r = n
        · rw [e]; exact hh
        · exact h3 r (by omega)
      · refine Or.inr ⟨l, by omega, h2, h3, fun r hr hr2 => ?_, by rw [cX_f hh]; exact h5⟩
        by_cases e : r = n
        · rw [e, hh] at hr2; cases hr2
        · exact h4 r (by omega) hr2
    | true =>
      have hn := hA_lt hh
      obtain ⟨v, hv, ev⟩ := Inv_ra hI n hn
      obtain ⟨c, hc, ec⟩ := Inv_rc hI n hn
      have hC := Inv_C hI
      have fun_ : fF S j w (n + 1) = (if mI S 11 n < (lF S j w n).2 then mI S 12 n else if (lF S j w n).2 < mI S 11 n then fF S j w n else if fF S j w n = mI S 12 n then fF S j w n else -5) := by
        show (if _ then _ else _) = _
        rw [if_pos hh]
      rcases byR_inv hI j w n with ⟨h1, h2, h3⟩ | ⟨l, h1, h2, h3, h4, h5⟩
      · have hlt : mI S 11 n < (lF S j w n).2 := by
          rw [h1, ev]
          exact nI_lt (b := 10) hv (by decide)
        rw [lF_t hh hlt, fun_, if_pos hlt]
        refine Or.inr ⟨n, by omega, rfl, hh, fun r hr hr2 => ?_, ?_⟩
        · by_cases e : r = n
          · rw [e]; exact Int32.le_refl _
          · rw [h3 r (by omega)] at hr2; cases hr2
        · have : cX S j w n (n + 1) = false := by
            show (cX S j w n n || _) = false
            rw [cX_none n (fun r hr h => by rw [h3 r hr] at h; cases h)]
            simp
          rw [this]; rfl
      · by_cases hlt : mI S 11 n < (lF S j w n).2
        · rw [lF_t hh hlt, fun_, if_pos hlt]
          rw [h2] at hlt
          refine Or.inr ⟨n, by omega, rfl, hh, fun r hr hr2 => ?_, ?_⟩
          · by_cases e : r = n
            · rw [e]; exact Int32.le_refl _
            · exact Int32.le_trans (Int32.le_of_lt hlt) (h4 r (by omega) hr2)
          · have : cX S j w n (n + 1) = false := by
              show (cX S j w n n || _) = false
              rw [cX_none n (fun r hr h e => ?_)]
              · simp
              · have h6 := h4 r hr h
                rw [e] at h6
                exact absurd hlt (Int32.not_lt.mpr h6)
            rw [this]; rfl
        · rw [lF_g hlt, fun_, if_neg hlt]
          rw [h2] at hlt ⊢
          have hle : mI S 11 l ≤ mI S 11 n := Int32.not_lt.mp hlt
          refine Or.inr ⟨l, by omega, rfl, h3, fun r hr hr2 => ?_, ?_⟩
          · by_cases e : r = n
            · rw [e]; exact hle
            · exact h4 r (by omega) hr2
          · have cc : cX S j w l (n + 1) = (cX S j w l n || (decide (mI S 11 n = mI S 11 l) && !decide (mI S 12 n = mI S 12 l))) := by
              show (cX S j w l n || (hA S j w n && _)) = _
              rw [hh]; rfl
            rw [cc]
            by_cases hgt : mI S 11 l < mI S 11 n
            · rw [if_pos hgt]
              have : ¬ mI S 11 n = mI S 11 l := fun e => by rw [e] at hgt; exact absurd hgt (by simp)
              rw [show decide (mI S 11 n = mI S 11 l) = false from by simpa using this]
              simpa using h5
            · rw [if_neg hgt]
              have : mI S 11 n = mI S 11 l := Int32.le_antisymm (Int32.not_lt.mp hgt) hle
              rw [show decide (mI S 11 n = mI S 11 l) = true from by simpa using this]
              cases hcx : cX S j w l n with
              | true =>
                rw [hcx] at h5
                rw [h5]
                have hne : ¬ ((-5 : Int32) = mI S 12 n) := by
                  rw [ec]
                  intro e
                  have := congrArg Int32.toInt e
                  rw [nI_toInt (by omega)] at this
                  have h0 : (-5 : Int32).toInt = -5 := rfl
                  omega
                simp [hne]
              | false =>
                rw [hcx] at h5
                have h5' : fF S j w n = mI S 12 l := h5
                rw [h5']
                by_cases e : mI S 12 l = mI S 12 n
                · simp [e]
                · have e2 : ¬ mI S 12 n = mI S 12 l := fun q => e q.symm
                  simp [e, e2]
theorem nI_nm1 {n : Nat} (h : n < 2 ^ 31) : ¬ nI n = -1 := fun e => by
  have := congrArg Int32.toInt e
  rw [nI_toInt h] at this
  have h0 : (-1 : Int32).toInt = -1 := rfl
  omega
theorem tB_nat {a b : Nat} (ha : a < 1024) (hb : b < 10) : tB (nI a) (nI b) = a.testBit b := by
  have hs : ∀ n, n < 10 → ((nI n &&& 31).toBitVec.smod 32).toNat = n := by decide +kernel
  unfold tB
  rw [pk_shrN (by omega) (nI b &&& 31) b (hs b hb), show (1 : Int32) = nI 1 from rfl]
  have h1 : nI (a / 2 ^ b) &&& nI 1 = nI (a / 2 ^ b % 2) := pk_andN (n := a / 2 ^ b) (Nat.lt_of_le_of_lt (Nat.div_le_self _ _) (by omega)) (m := nI 1) 1 (by decide)
  rw [h1, Nat.testBit_eq_decide_div_mod_eq]
  rw [Bool.eq_iff_iff]
  simp only [decide_eq_true_eq]
  exact nI_eq (by omega) (by decide)
theorem bT_trades {a b : Nat} (ha : a < 1024) (hb : b < 10) : bT (nI a).toInt64 b = tB (nI a) (nI b) := by
  rw [tB_nat ha hb, nI_l (by omega)]
  unfold bT
  rw [nn_lN (by omega)]
def gm (t : Nat) (σ : MM) (l : Int32) : MM := if l = -1 then σ else sI σ t 25 l
theorem sI_sI (σ : MM) (a k : Nat) (v w : Int32) : sI (sI σ a k v) a k w = sI σ a k w := by
  unfold sI
  refine Prod.ext rfl (Prod.ext rfl (Prod.ext ?_ rfl))
  funext b i
  by_cases h : b = a
  · subst h; by_cases h2 : i = k <;> simp [va_up, h2]
  · simp [va_up, h]
section PM
variable {t : Nat} {q : Nat → Nat} {S σ : MM}
theorem RepM_gm (h : RepM t q S σ) (l : Int32) : RepM t q S (gm t σ l) := by
  unfold gm
  split
  · exact h
  · exact RepM_v25 h l
theorem FrM_gm (h : RepM t q S σ) (l : Int32) : FrM q σ (gm t σ l) := by
  unfold gm
  split
  · exact FrM_refl q σ
  · exact FrM_t (RepM_K h)
theorem gm_up (l : Int32) {n : Nat} (hn : n < 2 ^ 31) : sI (gm t σ l) t 25 (nI n) = gm t σ (nI n) := by
  unfold gm
  rw [if_neg (nI_nm1 hn)]
  split
  · rfl
  · rw [sI_sI]
theorem M_doesHold (h : RepM t q S σ) (hI : Inv S) {r j : Nat} (hr : r < mN S 3) (k : Int32 → MM → Prop) (hk : k (b2i (hold S r j)) σ) : wX4_doesHold t (nI r) (setS S j) (mI S 4 (j / 2)) σ k := by
  have hR := Inv_R hI
  unfold wX4_doesHold
  unfold hold at hk
  simp only [RepM_K h, RepM_r24 h, RepM_k24 h, RepM_n24 h, RepM_i24 h, RepM_r21 h, RepM_k21 h, RepM_n21 h, RepM_i21 h, RepM_r22 h, RepM_k22 h, RepM_n22 h, RepM_i22 h, RepM_r23 h, RepM_k23 h, RepM_n23 h, RepM_i23 h, ix_nI (show r < 2 ^ 31 by omega), vp_in_nI (show r < 40 by omega) (by decide), true_and, and_true, forall_eq, forall_eq', Option.some.injEq, exists_eq_left', false_implies, true_implies, forall_const, not_false_eq_true, not_true_eq_false, implies_true, b2iT, b2iF, i1n0, i0n1, Option.isSome_some, Option.isSome_none, Option.map_some, Option.map_none, reduceCtorEq, b2i_bz]
  by_cases e1 : mI S 14 r = 0
  · by_cases e2 : (mI S 13 r >>> (mI S 4 (j / 2) &&& 31)) &&& 1 = 1
    · by_cases e3 : mL S 2 r &&& (setS S j ^^^ (-1)) = 0
      · by_cases e4 : mL S 3 r &&& setS S j = 0
        · simp only [e1, e2, e3, e4, tB, decide_true, Bool.true_and, true_and, and_true, forall_eq, forall_eq', Option.some.injEq, exists_eq_left', false_implies, true_implies, forall_const, not_false_eq_true, not_true_eq_false, implies_true, b2iT, b2iF, i1n0, i0n1, Option.isSome_some, Option.isSome_none, Option.map_some, Option.map_none, reduceCtorEq, b2i_bz] at hk ⊢; exact hk
        · simp only [e1, e2, e3, e4, tB, decide_true, decide_false, Bool.true_and, true_and, and_true, forall_eq, forall_eq', Option.some.injEq, exists_eq_left', false_implies, true_implies, forall_const, not_false_eq_true, not_true_eq_false, implies_true, b2iT, b2iF, i1n0, i0n1, Option.isSome_some, Option.isSome_none, Option.map_some, Option.map_none, reduceCtorEq, b2i_bz] at hk ⊢; exact hk
      · simp only [e1, e2, e3, tB, decide_true, decide_false, Bool.true_and, Bool.false_and, true_and, and_true, forall_eq, forall_eq', Option.some.injEq, exists_eq_left', false_implies, true_implies, forall_const, not_false_eq_true, not_true_eq_false, implies_true, b2iT, b2iF, i1n0, i0n1, Option.isSome_some, Option.isSome_none, Option.map_some, Option.map_none, reduceCtorEq, b2i_bz] at hk ⊢; exact hk
    · simp only [e1, e2, tB, decide_true, decide_false, Bool.true_and, Bool.false_and, true_and, and_true, forall_eq, forall_eq', Option.some.injEq, exists_eq_left', false_implies, true_implies, forall_const, not_false_eq_true, not_true_eq_false, implies_true, b2iT, b2iF, i1n0, i0n1, Option.isSome_some, Option.isSome_none, Option.map_some, Option.map_none, reduceCtorEq, b2i_bz] at hk ⊢; exact hk
  · simp only [e1, decide_false, Bool.false_and, true_and, and_true, forall_eq, forall_eq', Option.some.injEq, exists_eq_left', false_implies, true_implies, forall_const, not_false_eq_true, not_true_eq_false, implies_true, b2iT, b2iF, i1n0, i0n1, Option.isSome_some, Option.isSome_none, Option.map_some, Option.map_none, reduceCtorEq, b2i_bz] at hk ⊢; exact hk
theorem M_byRules_l (h : RepM t q S σ) (hI : Inv S) {j : Nat} (hj : j < 160) (w : Int32) (k : Int32 → MM → Prop) : ∀ d i, i + d = mN S 3 → k (rS S j w) (gm t σ (lS S j w)) → wX4_byRules_17 k t (d + 1) (nI j) w (setS S j) (fF S j w i) (lF S j w i).2 (nI i) (gm t σ (lF S j w i).1) := by
  have hR := Inv_R hI
  intro d
  induction d with
  | zero =>
    intro i hi hk
    have : i = mN S 3 := by omega
    subst this
    unfold wX4_byRules_17
    have g := RepM_gm h (lF S j w (mN S 3)).1
    simp only [RepM_K g, RepM_nR g, show nI (mN S 3) ≤ nI (mN S 3) from nI_le (Nat.le_refl _) (by omega), true_and, and_true, forall_eq, forall_eq', Option.some.injEq, exists_eq_left', false_implies, true_implies, forall_const, not_false_eq_true, not_true_eq_false, implies_true, b2iT, b2iF, i1n0, i0n1, Option.isSome_some, Option.isSome_none, Option.map_some, Option.map_none, reduceCtorEq, b2i_bz]
    exact hk
  | succ d ih =>
    intro i hi hk
    have g := RepM_gm h (lF S j w i).1
    have gg := ih (i + 1) (by omega) hk
    have e1 : ¬ nI (mN S 3) ≤ nI i := nI_ge (by omega) (by omega)
    unfold wX4_byRules_17
    simp only [RepM_K g, RepM_nR g, e1, RepM_r19 g, RepM_k19 g, RepM_n19 g, RepM_i19 g, RepM_r10 g, RepM_k10 g, RepM_n10 g, RepM_i10 g, half_nI hj, ix_nI (show j / 2 < 2 ^ 31 by omega), vp_in_nI (show j / 2 < 80 by omega) (by decide), ix_nI (show i < 2 ^ 31 by omega), vp_in_nI (show i < 40 by omega) (by decide), nI_1, true_and, and_true, forall_eq, forall_eq', Option.some.injEq, exists_eq_left', false_implies, true_implies, forall_const, not_false_eq_true, not_true_eq_false, implies_true, b2iT, b2iF, i1n0, i0n1, Option.isSome_some, Option.isSome_none, Option.map_some, Option.map_none, reduceCtorEq, b2i_bz]
    refine ⟨fun ea => ?_, fun ea => ⟨fun eb => ?_, fun eb => ?_⟩⟩
    · have hf : hA S j w i = false := by unfold hA; simp [ea]
      rw [lF_f hf, fF_f hf] at gg
      exact gg
    · have hn : ¬ mI S 11 i < (lF S j w i).2 := fun z => absurd (Int32.lt_trans z eb) (by simp)
      have hfF : fF S j w (i + 1) = fF S j w i := by
        by_cases hh : hA S j w i = true
        · show (if _ then _ else _) = _
          rw [if_pos hh, if_neg hn, if_pos eb]
        · exact fF_f (by simpa using hh)
      rw [lF_g hn, hfF] at gg
      exact gg
    · refine M_doesHold g hI (show i < mN S 3 by omega) _ ?_
      have hAe : hA S j w i = hold S i j := by
        unfold hA
        rw [show decide (i < mN S 3) = true from by simpa using (show i < mN S 3 by omega)]
        simp [ea]
      cases hh : hold S i j with
      | false =>
        rw [hh] at hAe
        rw [lF_f hAe, fF_f hAe] at gg
        simp only [true_and, and_true, forall_eq, forall_eq', Option.some.injEq, exists_eq_left', false_implies, true_implies, forall_const, not_false_eq_true, not_true_eq_false, implies_true, b2iT, b2iF, i1n0, i0n1, Option.isSome_some, Option.isSome_none, Option.map_some, Option.map_none, reduceCtorEq, b2i_bz]
        exact gg
      | true =>
        rw [hh] at hAe
        have fun_ : fF S j w (i + 1) = (if mI S 11 i < (lF S j w i).2 then mI S 12 i else if (lF S j w i).2 < mI S 11 i then fF S j w i else if fF S j w i = mI S 12 i then fF S j w i else -5) := by
          show (if _ then _ else _) = _
          rw [if_pos hAe]
        simp only [RepM_K g, RepM_r19 g, RepM_k19 g, RepM_n19 g, RepM_i19 g, RepM_r20 g, RepM_k20 g, RepM_n20 g, RepM_i20 g, ix_nI (show i < 2 ^ 31 by omega), vp_in_nI (show i < 40 by omega) (by decide), true_and, and_true, forall_eq, forall_eq', Option.some.injEq, exists_eq_left', false_implies, true_implies, forall_const, not_false_eq_true, not_true_eq_false, implies_true, b2iT, b2iF, i1n0, i0n1, Option.isSome_some, Option.isSome_none, Option.map_some, Option.map_none, reduceCtorEq, b2i_bz]
        refine ⟨fun ec => ⟨fun ed => ?_, fun ed => ?_⟩, fun ec => ?_⟩
        · have hn : ¬ mI S 11 i < (lF S j w i).2 := Int32.not_lt.mpr ec
          rw [lF_g hn, fun_, if_neg hn, if_neg eb, if_pos ed] at gg
          exact gg
        · have hn : ¬ mI S 11 i < (lF S j w i).2 := Int32.not_lt.mpr ec
          rw [lF_g hn, fun_, if_neg hn, if_neg eb, if_neg ed] at gg
          exact gg
        · have hn : mI S 11 i < (lF S j w i).2 := Int32.not_le.mp ec
          rw [lF_t hAe hn, fun_, if_pos hn] at gg
          rw [gm_up _ (by omega)]
          exact gg
theorem M_byRules (h : RepM t q S σ) (hI : Inv S) {j : Nat} (hj : j < 160) (w : Int32) (k : Int32 → MM → Prop) (hk : k (rS S j w) (gm t σ (lS S j w))) : wX4_byRules t (nI j) w σ k := by
  unfold wX4_byRules
  refine ⟨RepM_K h, M_setOf h hj _ ⟨mN S 3 + 1, ?_⟩⟩
  have g := M_byRules_l h hI hj w k (mN S 3) 0 (by omega) hk
  exact g
end PM
