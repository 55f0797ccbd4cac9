def bl (up : Nat → Int32) (o k : Nat) : Bool := chn up (fun d => decide (d = o)) k
def ccP (S : MM) (p : Nat → Bool) (i : Nat) : Bool := prs S i && (decide (mI S 6 i = 1) && p (ix (mI S 7 i)))
def tA (x : Int64) (b : Nat → Bool) : Nat → Bool
  | 0 => true
  | n + 1 => tA x b n && (!bT x n || b n)
def tS (x : Int64) (b : Nat → Bool) : Nat → Bool
  | 0 => false
  | n + 1 => tS x b n || (bT x n && b n)
def tC (S : MM) (o w c : Nat) : Bool := !decide (mL S 4 c = 0) && (if w = 0 then tA (mL S 4 c) (bl (mI S 1) o) (mN S 1) else tS (mL S 4 c) (bl (mI S 1) o) (mN S 1))
def fCoded (S : MM) (x : Int32) : Int32 := match vI (mN S 0) x with
  | some o => nI (cnt (ccP S (bl (mI S 0) o)) 160)
  | none => -1
def fTotal (S : MM) (x y : Int32) : Int32 := match vI (mN S 1) x, vI 2 y with
  | some o, some w => nI (cnt (ccP S (tC S o w)) 160)
  | _, _ => -1
theorem ccP_out {S : MM} {p : Nat → Bool} {i : Nat} (h : 2 * mN S 2 ≤ i) : ccP S p i = false := by unfold ccP; rw [prs_out h]; rfl
theorem tA_iff {x : Int64} {b : Nat → Bool} : ∀ n, tA x b n = true ↔ ∀ k, k < n → bT x k = true → b k = true
  | 0 => ⟨fun _ _ h => absurd h (by omega), fun _ => rfl⟩
  | n + 1 => by
    show (tA x b n && (!bT x n || b n)) = true ↔ _
    rw [Bool.and_eq_true, tA_iff n]
    constructor
    · rintro ⟨h1, h2⟩ k hk hb
      by_cases e : k = n
      · subst e; rw [hb] at h2; simpa using h2
      · exact h1 k (by omega) hb
    · intro h
      refine ⟨fun k hk => h k (by omega), ?_⟩
      cases hb : bT x n with
      | false => rfl
      | true => rw [h n (by omega) hb]; rfl
theorem tS_iff {x : Int64} {b : Nat → Bool} : ∀ n, tS x b n = true ↔ ∃ k, k < n ∧ bT x k = true ∧ b k = true
  | 0 => ⟨fun h => absurd h (by simp [tS]), fun ⟨_, h, _⟩ => absurd h (by omega)⟩
  | n + 1 => by
    show (tS x b n || (bT x n && b n)) = true ↔ _
    rw [Bool.or_eq_true, tS_iff n, Bool.and_eq_true]
    constructor
    · rintro (⟨k, hk, h⟩ | h)
      · exact ⟨k, by omega, h⟩
      · exact ⟨n, by omega, h⟩
    · rintro ⟨k, hk, h⟩
      by_cases e : k = n
      · subst e; exact Or.inr h
      · exact Or.inl ⟨k, by omega, h⟩
section PM
variable {t : Nat} {q : Nat → Nat} {S σ : MM}
theorem M_blw_l (h : RepM t q S σ) (hI : Inv S) {o : Nat} (ho : o < 2 ^ 31) (k : Int32 → MM → Prop) : ∀ n c, c < n → c < mN S 0 → k (b2i (bl (mI S 0) o c)) σ → wX4_isBelow_2 k t (n + 1) (nI o) (nI c) σ := by
  have hC := Inv_C hI
  intro n
  induction n with
  | zero => intro c h1; exact absurd h1 (by omega)
  | succ n ih =>
    intro c h1 h2 hk
    unfold wX4_isBelow_2
    refine ⟨fun z => absurd z (nI_pos (by omega)), fun _ => ⟨fun e => ⟨fun z => absurd e z, fun _ => ?_⟩, fun e => ⟨RepM_K h, ?_⟩⟩⟩
    · have e2 : c = o := (nI_eq (by omega) ho).mp e
      have : bl (mI S 0) o c = true := by
        unfold bl
        show (decide (c = o) || _) = true
        simp [e2]
      rw [this] at hk; exact hk
    · have hx : decide (c = o) = false := by simpa using fun z : c = o => e (by rw [z])
      simp only [RepM_r3 h, RepM_k3 h, RepM_n3 h, RepM_i3 h, ix_nI (show c < 2 ^ 31 by omega), vp_in_nI (show c < 40 by omega) (by decide), true_and, and_true, forall_eq, forall_eq', Option.some.injEq, exists_eq_left', false_implies, true_implies, forall_const, not_false_eq_true, not_true_eq_false, implies_true, b2iT, b2iF, i1n0, i0n1, Option.isSome_some, Option.isSome_none, Option.map_some, Option.map_none, reduceCtorEq, b2i_bz]
      unfold bl at hk
      rcases upC hI c h2 with e1 | ⟨d, hd, e1⟩
      · rw [chn_top e1, hx] at hk
        rw [e1]
        unfold wX4_isBelow_2
        exact ⟨fun _ => ⟨fun _ => hk, fun z => absurd z.symm (nI_nm1 ho)⟩, fun z => absurd (by decide) z⟩
      · rw [chn_up (show mN S 0 < 2 ^ 31 by omega) (upC hI) h2 hd e1, hx] at hk
        rw [e1]
        exact ih d (by omega) (by omega) hk
theorem M_isBelow (h : RepM t q S σ) (hI : Inv S) {o c : Nat} (ho : o < 2 ^ 31) (hc : c < mN S 0) (k : Int32 → MM → Prop) (hk : k (b2i (bl (mI S 0) o c)) σ) : wX4_isBelow t (nI c) (nI o) σ k := ⟨c + 2, M_blw_l h hI ho k (c + 1) c (by omega) hc hk⟩
theorem M_obl_l (h : RepM t q S σ) (hI : Inv S) {o : Nat} (ho : o < 2 ^ 31) (k : Int32 → MM → Prop) : ∀ n c, c < n → c < mN S 1 → k (b2i (bl (mI S 1) o c)) σ → wX4_isOtherBelow_2 k t (n + 1) (nI o) (nI c) σ := by
  have hC := Inv_O hI
  intro n
  induction n with
  | zero => intro c h1; exact absurd h1 (by omega)
  | succ n ih =>
    intro c h1 h2 hk
    unfold wX4_isOtherBelow_2
    refine ⟨fun z => absurd z (nI_pos (by omega)), fun _ => ⟨fun e => ⟨fun z => absurd e z, fun _ => ?_⟩, fun e => ⟨RepM_K h, ?_⟩⟩⟩
    · have e2 : c = o := (nI_eq (by omega) ho).mp e
      have : bl (mI S 1) o c = true := by
        unfold bl
        show (decide (c = o) || _) = true
        simp [e2]
      rw [this] at hk; exact hk
    · have hx : decide (c = o) = false := by simpa using fun z : c = o => e (by rw [z])
      simp only [RepM_r6 h, RepM_k6 h, RepM_n6 h, RepM_i6 h, ix_nI (show c < 2 ^ 31 by omega), vp_in_nI (show c < 30 by omega) (by decide), true_and, and_true, forall_eq, forall_eq', Option.some.injEq, exists_eq_left', false_implies, true_implies, forall_const, not_false_eq_true, not_true_eq_false, implies_true, b2iT, b2iF, i1n0, i0n1, Option.isSome_some, Option.isSome_none, Option.map_some, Option.map_none, reduceCtorEq, b2i_bz]
      unfold bl at hk
      rcases upO hI c h2 with e1 | ⟨d, hd, e1⟩
      · rw [chn_top e1, hx] at hk
        rw [e1]
        unfold wX4_isOtherBelow_2
        exact ⟨fun _ => ⟨fun _ => hk, fun z => absurd z.symm (nI_nm1 ho)⟩, fun z => absurd (by decide) z⟩
      · rw [chn_up (show mN S 1 < 2 ^ 31 by omega) (upO hI) h2 hd e1, hx] at hk
        rw [e1]
        exact ih d (by omega) (by omega) hk
theorem M_isOtherBelow (h : RepM t q S σ) (hI : Inv S) {o c : Nat} (ho : o < 2 ^ 31) (hc : c < mN S 1) (k : Int32 → MM → Prop) (hk : k (b2i (bl (mI S 1) o c)) σ) : wX4_isOtherBelow t (nI c) (nI o) σ k := ⟨c + 2, M_obl_l h hI ho k (c + 1) c (by omega) hc hk⟩
theorem M_coded_l (h : RepM t q S σ) (hI : Inv S) {o : Nat} (ho : o < 2 ^ 31) (k : Int32 → MM → Prop) (hk : k (nI (cnt (ccP S (bl (mI S 0) o)) (2 * mN S 2))) σ) : ∀ d i, i + d = 2 * mN S 2 → wX4_coded_14 k t (d + 1) (nI o) (nI (cnt (ccP S (bl (mI S 0) o)) i)) (nI i) σ := by
  have hA := Inv_A hI
  have hC := Inv_C hI
  intro d
  induction d with
  | zero =>
    intro i hi
    have : i = 2 * mN S 2 := by omega
    subst this
    unfold wX4_coded_14
    simp only [RepM_K h, RepM_nA h, two_nA hI, show nI (2 * mN S 2) ≤ nI (2 * mN S 2) from nI_le (Nat.le_refl _) (by omega), true_and, and_true, forall_eq, forall_eq', Option.some.injEq, exists_eq_left', false_implies, true_implies, forall_const, not_false_eq_true, not_true_eq_false, implies_true, b2iT, b2iF, i1n0, i0n1, Option.isSome_some, Option.isSome_none, Option.map_some, Option.map_none, reduceCtorEq, b2i_bz]
    exact hk
  | succ d ih =>
    intro i hi
    have hi2 : i < 160 := by omega
    have e1 : ¬ nI (2 * mN S 2) ≤ nI i := nI_ge (by omega) (by omega)
    have gg := ih (i + 1) (by omega)
    unfold wX4_coded_14
    simp only [RepM_K h, RepM_nA h, two_nA hI, e1, eM_isItem h hI, vT_is hi2, nI_1, nI_p0, true_and, and_true, forall_eq, forall_eq', Option.some.injEq, exists_eq_left', false_implies, true_implies, forall_const, not_false_eq_true, not_true_eq_false, implies_true, b2iT, b2iF, i1n0, i0n1, Option.isSome_some, Option.isSome_none, Option.map_some, Option.map_none, reduceCtorEq, b2i_bz]
    by_cases hp : prs S i = true
    · simp only [hp, RepM_r13 h, RepM_k13 h, RepM_n13 h, RepM_i13 h, RepM_r14 h, RepM_k14 h, RepM_n14 h, RepM_i14 h, ix_nI (show i < 2 ^ 31 by omega), vp_in_nI hi2 (by decide), true_and, and_true, forall_eq, forall_eq', Option.some.injEq, exists_eq_left', false_implies, true_implies, forall_const, not_false_eq_true, not_true_eq_false, implies_true, b2iT, b2iF, i1n0, i0n1, Option.isSome_some, Option.isSome_none, Option.map_some, Option.map_none, reduceCtorEq, b2i_bz]
      refine ⟨fun hs => ?_, fun hs => ?_⟩
      · rw [cnt_f (by unfold ccP; simp [hs])] at gg; exact gg
      · rcases Inv_it hI i hp with ⟨_, ⟨c, hc, ec⟩, _⟩ | ⟨z, _⟩
        · rw [ec]
          refine M_isBelow h hI ho hc _ ?_
          have ep : ccP S (bl (mI S 0) o) i = bl (mI S 0) o c := by unfold ccP; rw [hp, hs, ec, ix_nI (by omega)]; simp
          cases hb : bl (mI S 0) o c with
          | true => rw [cnt_t (by rw [ep, hb])] at gg; simp only [true_and, and_true, forall_eq, forall_eq', Option.some.injEq, exists_eq_left', false_implies, true_implies, forall_const, not_false_eq_true, not_true_eq_false, implies_true, b2iT, b2iF, i1n0, i0n1, Option.isSome_some, Option.isSome_none, Option.map_some, Option.map_none, reduceCtorEq, b2i_bz]; exact gg
          | false => rw [cnt_f (by rw [ep, hb])] at gg; simp only [true_and, and_true, forall_eq, forall_eq', Option.some.injEq, exists_eq_left', false_implies, true_implies, forall_const, not_false_eq_true, not_true_eq_false, implies_true, b2iT, b2iF, i1n0, i0n1, Option.isSome_some, Option.isSome_none, Option.map_some, Option.map_none, reduceCtorEq, b2i_bz]; exact gg
        · rw [hs] at z; exact absurd z (by decide)
    · have hp2 : prs S i = false := by simpa using hp
      simp only [hp2, true_and, and_true, forall_eq, forall_eq', Option.some.injEq, exists_eq_left', false_implies, true_implies, forall_const, not_false_eq_true, not_true_eq_false, implies_true, b2iT, b2iF, i1n0, i0n1, Option.isSome_some, Option.isSome_none, Option.map_some, Option.map_none, reduceCtorEq, b2i_bz]
      rw [cnt_f (by unfold ccP; simp [hp2])] at gg; exact gg
theorem M_coded (h : RepM t q S σ) (hI : Inv S) (x : Int32) (k : Int32 → MM → Prop) (hk : k (fCoded S x) σ) : wX4_coded t x σ k := by
  have hC := Inv_C hI
  unfold wX4_coded
  unfold fCoded at hk
  simp only [eM_isCode h hI, RepM_K h, true_and, and_true, forall_eq, forall_eq', Option.some.injEq, exists_eq_left', false_implies, true_implies, forall_const, not_false_eq_true, not_true_eq_false, implies_true, b2iT, b2iF, i1n0, i0n1, Option.isSome_some, Option.isSome_none, Option.map_some, Option.map_none, reduceCtorEq, b2i_bz]
  cases hx : vI (mN S 0) x with
  | none => rw [hx] at hk; simp only [true_and, and_true, forall_eq, forall_eq', Option.some.injEq, exists_eq_left', false_implies, true_implies, forall_const, not_false_eq_true, not_true_eq_false, implies_true, b2iT, b2iF, i1n0, i0n1, Option.isSome_some, Option.isSome_none, Option.map_some, Option.map_none, reduceCtorEq, b2i_bz]; exact hk
  | some o =>
    rw [hx] at hk
    obtain ⟨ho, rfl⟩ := vI_some hx
    simp only [true_and, and_true, forall_eq, forall_eq', Option.some.injEq, exists_eq_left', false_implies, true_implies, forall_const, not_false_eq_true, not_true_eq_false, implies_true, b2iT, b2iF, i1n0, i0n1, Option.isSome_some, Option.isSome_none, Option.map_some, Option.map_none, reduceCtorEq, b2i_bz]
    simp only at hk
    rw [cnt_160 hI (fun i hi => ccP_out hi)] at hk
    exact ⟨2 * mN S 2 + 1, M_coded_l h hI (by omega) k hk (2 * mN S 2) 0 (by omega)⟩
theorem M_tot138 (k : Int32 → MM → Prop) (g24 : Int32 → Int32 → Int32 → Int32 → MM → Prop) (g82 : Int32 → Int32 → Int32 → Int32 → Int32 → Int32 → Int32 → MM → Prop) (x1 x2 x3 x4 z0 : Int32) (i : Nat) (s b : Bool) (hg : g82 x1 x2 x3 x4 z0 (b2i (s || b)) (nI (i + 1)) σ) : wX4_total_138 k t g24 g82 x1 x2 x3 x4 (b2i s) (nI i) (b2i b) z0 σ := by
  unfold wX4_total_138
  cases s with
  | true => simp only [nI_1, true_and, and_true, forall_eq, forall_eq', Option.some.injEq, exists_eq_left', false_implies, true_implies, forall_const, not_false_eq_true, not_true_eq_false, implies_true, b2iT, b2iF, i1n0, i0n1, Option.isSome_some, Option.isSome_none, Option.map_some, Option.map_none, reduceCtorEq, b2i_bz]; exact hg
  | false =>
    cases b with
    | true => simp only [nI_1, true_and, and_true, forall_eq, forall_eq', Option.some.injEq, exists_eq_left', false_implies, true_implies, forall_const, not_false_eq_true, not_true_eq_false, implies_true, b2iT, b2iF, i1n0, i0n1, Option.isSome_some, Option.isSome_none, Option.map_some, Option.map_none, reduceCtorEq, b2i_bz]; exact hg
    | false => simp only [nI_1, true_and, and_true, forall_eq, forall_eq', Option.some.injEq, exists_eq_left', false_implies, true_implies, forall_const, not_false_eq_true, not_true_eq_false, implies_true, b2iT, b2iF, i1n0, i0n1, Option.isSome_some, Option.isSome_none, Option.map_some, Option.map_none, reduceCtorEq, b2i_bz]; exact hg
theorem M_tot82 (h : RepM t q S σ) (hI : Inv S) {o w n j c : Nat} (ho : o < 2 ^ 31) (hw : w < 2) (hj : j < 160) (hc : c < mN S 0) (ec : mI S 7 j = nI c) (k : Int32 → MM → Prop) (g : Int32 → Int32 → Int32 → Int32 → MM → Prop) (hg : g (nI o) (nI w) (nI (n + if (if w = 0 then tA (mL S 4 c) (bl (mI S 1) o) (mN S 1) else tS (mL S 4 c) (bl (mI S 1) o) (mN S 1)) = true then 1 else 0)) (nI (j + 1)) σ) : ∀ d i, i + d = mN S 1 → wX4_total_82 k t g (d + 1) (nI o) (nI w) (nI n) (nI j) (b2i (tA (mL S 4 c) (bl (mI S 1) o) i)) (b2i (tS (mL S 4 c) (bl (mI S 1) o) i)) (nI i) σ := by
  have hC := Inv_C hI
  have hO := Inv_O hI
  intro d
  induction d with
  | zero =>
    intro i hi
    have : i = mN S 1 := by omega
    subst this
    unfold wX4_total_82
    simp only [RepM_K h, RepM_nO h, show nI (mN S 1) ≤ nI (mN S 1) from nI_le (Nat.le_refl _) (by omega), nI_z (show w < 2 ^ 31 by omega), nI_1, nI_p0, b2i_0, true_and, and_true, forall_eq, forall_eq', Option.some.injEq, exists_eq_left', false_implies, true_implies, forall_const, not_false_eq_true, not_true_eq_false, implies_true, b2iT, b2iF, i1n0, i0n1, Option.isSome_some, Option.isSome_none, Option.map_some, Option.map_none, reduceCtorEq, b2i_bz]
    refine ⟨fun e => ⟨fun e2 => ?_, fun e2 => ?_⟩, fun e => ⟨fun e2 => ?_, fun e2 => ?_⟩⟩
    · rw [if_neg e, e2] at hg; exact hg
    · rw [if_neg e, (by simpa using e2 : tS (mL S 4 c) (bl (mI S 1) o) (mN S 1) = true)] at hg; exact hg
    · rw [if_pos e, e2] at hg; exact hg
    · rw [if_pos e, (by simpa using e2 : tA (mL S 4 c) (bl (mI S 1) o) (mN S 1) = true)] at hg; exact hg
  | succ d ih =>
    intro i hi
    have gg := ih (i + 1) (by omega)
    unfold wX4_total_82
    simp only [RepM_K h, RepM_nO h, show ¬ nI (mN S 1) ≤ nI i from nI_ge (by omega) (by omega), RepM_r14 h, RepM_k14 h, RepM_n14 h, RepM_i14 h, RepM_r7 h, RepM_k7 h, RepM_n7 h, RepM_i7 h, ix_nI (show j < 2 ^ 31 by omega), vp_in_nI hj (by decide), ec, ix_nI (show c < 2 ^ 31 by omega), vp_in_nI (show c < 40 by omega) (by decide), sm_bit (ca30 hI c) (show i < 30 by omega), nI_1, b2i_0, true_and, and_true, forall_eq, forall_eq', Option.some.injEq, exists_eq_left', false_implies, true_implies, forall_const, not_false_eq_true, not_true_eq_false, implies_true, b2iT, b2iF, i1n0, i0n1, Option.isSome_some, Option.isSome_none, Option.map_some, Option.map_none, reduceCtorEq, b2i_bz]
    refine ⟨fun e => ?_, fun e => ?_⟩
    · have hb : bT (mL S 4 c) i = true := by simpa using e
      refine M_isOtherBelow h hI ho (by omega) _ ?_
      have e1 : tA (mL S 4 c) (bl (mI S 1) o) (i + 1) = (tA (mL S 4 c) (bl (mI S 1) o) i && bl (mI S 1) o i) := by
        show (tA (mL S 4 c) (bl (mI S 1) o) i && (!bT (mL S 4 c) i || bl (mI S 1) o i)) = _
        rw [hb]; rfl
      have e2 : tS (mL S 4 c) (bl (mI S 1) o) (i + 1) = (tS (mL S 4 c) (bl (mI S 1) o) i || bl (mI S 1) o i) := by
        show (tS (mL S 4 c) (bl (mI S 1) o) i || (bT (mL S 4 c) i && bl (mI S 1) o i)) = _
        rw [hb]; rfl
      rw [e1, e2] at gg
      refine ⟨fun e3 => M_tot138 k g _ _ _ _ _ _ _ _ _ ?_, fun e3 => ⟨fun e4 => M_tot138 k g _ _ _ _ _ _ _ _ _ ?_, fun e4 => M_tot138 k g _ _ _ _ _ _ _ _ _ ?_⟩⟩
      · rw [e3] at gg; exact gg
      · rw [(b2i_0 _).mp e4] at gg ⊢; rw [Bool.and_false] at gg; exact gg
      · rw [(b2i_n0 _).mp e4, (by simpa using e3 : tA (mL S 4 c) (bl (mI S 1) o) i = true)] at gg
        rw [(b2i_n0 _).mp e4]
        exact gg
    · have e1 : tA (mL S 4 c) (bl (mI S 1) o) (i + 1) = tA (mL S 4 c) (bl (mI S 1) o) i := by
        show (tA (mL S 4 c) (bl (mI S 1) o) i && (!bT (mL S 4 c) i || bl (mI S 1) o i)) = _
        rw [e]; simp
      have e2 : tS (mL S 4 c) (bl (mI S 1) o) (i + 1) = tS (mL S 4 c) (bl (mI S 1) o) i := by
        show (tS (mL S 4 c) (bl (mI S 1) o) i || (bT (mL S 4 c) i && bl (mI S 1) o i)) = _
        rw [e]; simp
      rw [e1, e2] at gg
      exact gg
theorem M_total_l (h : RepM t q S σ) (hI : Inv S) {o w : Nat} (ho : o < 2 ^ 31) (hw : w < 2) (k : Int32 → MM → Prop) (hk : k (nI (cnt (ccP S (tC S o w)) (2 * mN S 2))) σ) : ∀ d i, i + d = 2 * mN S 2 → wX4_total_24 k t (d + 1) (nI o) (nI w) (nI (cnt (ccP S (tC S o w)) i)) (nI i) σ := by
  have hA := Inv_A hI
  have hC := Inv_C hI
  intro d
  induction d with
  | zero =>
    intro i hi
    have : i = 2 * mN S 2 := by omega
    subst this
    unfold wX4_total_24
    simp only [RepM_K h, RepM_nA h, two_nA hI, show nI (2 * mN S 2) ≤ nI (2 * mN S 2) from nI_le (Nat.le_refl _) (by omega), true_and, and_true, forall_eq, forall_eq', Option.some.injEq, exists_eq_left', false_implies, true_implies, forall_const, not_false_eq_true, not_true_eq_false, implies_true, b2iT, b2iF, i1n0, i0n1, Option.isSome_some, Option.isSome_none, Option.map_some, Option.map_none, reduceCtorEq, b2i_bz]
    exact hk
  | succ d ih =>
    intro i hi
    have hi2 : i < 160 := by omega
    have e1 : ¬ nI (2 * mN S 2) ≤ nI i := nI_ge (by omega) (by omega)
    have gg := ih (i + 1) (by omega)
    unfold wX4_total_24
    simp only [RepM_K h, RepM_nA h, two_nA hI, e1, eM_isItem h hI, vT_is hi2, nI_1, nI_p0, true_and, and_true, forall_eq, forall_eq', Option.some.injEq, exists_eq_left', false_implies, true_implies, forall_const, not_false_eq_true, not_true_eq_false, implies_true, b2iT, b2iF, i1n0, i0n1, Option.isSome_some, Option.isSome_none, Option.map_some, Option.map_none, reduceCtorEq, b2i_bz]
    by_cases hp : prs S i = true
    · simp only [hp, RepM_r13 h, RepM_k13 h, RepM_n13 h, RepM_i13 h, RepM_r14 h, RepM_k14 h, RepM_n14 h, RepM_i14 h, RepM_r7 h, RepM_k7 h, RepM_n7 h, RepM_i7 h, ix_nI (show i < 2 ^ 31 by omega), vp_in_nI hi2 (by decide), true_and, and_true, forall_eq, forall_eq', Option.some.injEq, exists_eq_left', false_implies, true_implies, forall_const, not_false_eq_true, not_true_eq_false, implies_true, b2iT, b2iF, i1n0, i0n1, Option.isSome_some, Option.isSome_none, Option.map_some, Option.map_none, reduceCtorEq, b2i_bz]
      refine ⟨fun hs => ?_, fun hs => ?_⟩
      · rw [cnt_f (by unfold ccP; simp [hs])] at gg; exact gg
      · rcases Inv_it hI i hp with ⟨_, ⟨c, hc, ec⟩, _⟩ | ⟨z, _⟩
        · simp only [ec, ix_nI (show c < 2 ^ 31 by omega), vp_in_nI (show c < 40 by omega) (by decide), sm_zero (ca30 hI c), true_and, and_true, forall_eq, forall_eq', Option.some.injEq, exists_eq_left', false_implies, true_implies, forall_const, not_false_eq_true, not_true_eq_false, implies_true, b2iT, b2iF, i1n0, i0n1, Option.isSome_some, Option.isSome_none, Option.map_some, Option.map_none, reduceCtorEq, b2i_bz]
          have ep : ccP S (tC S o w) i = tC S o w c := by unfold ccP; rw [hp, hs, ec, ix_nI (by omega)]; simp
          refine ⟨fun e => ?_, fun e => ?_⟩
          · have et : tC S o w c = (if w = 0 then tA (mL S 4 c) (bl (mI S 1) o) (mN S 1) else tS (mL S 4 c) (bl (mI S 1) o) (mN S 1)) := by unfold tC; simp [e]
            refine ⟨mN S 1 + 1, M_tot82 h hI ho hw hi2 hc ec k _ ?_ (mN S 1) 0 (by omega)⟩
            rw [← et, ← ep]
            exact gg
          · rw [cnt_f (by rw [ep]; unfold tC; simp [e])] at gg; exact gg
        · rw [hs] at z; exact absurd z (by decide)
    · have hp2 : prs S i = false := by simpa using hp
      simp only [hp2, true_and, and_true, forall_eq, forall_eq', Option.some.injEq, exists_eq_left', false_implies, true_implies, forall_const, not_false_eq_true, not_true_eq_false, implies_true, b2iT, b2iF, i1n0, i0n1, Option.isSome_some, Option.isSome_none, Option.map_some, Option.map_none, reduceCtorEq, b2i_bz]
      rw [cnt_f (by unfold ccP; simp [hp2])] at gg; exact gg
theorem M_total (h : RepM t q S σ) (hI : Inv S) (x y : Int32) (k : Int32 → MM → Prop) (hk : k (fTotal S x y) σ) : wX4_total t x y σ k := by
  have hO := Inv_O hI
  unfold wX4_total
  unfold fTotal at hk
  simp only [eM_isOther h hI, eM_in0 (n := 2) (h := 1) rfl, RepM_K h, true_and, and_true, forall_eq, forall_eq', Option.some.injEq, exists_eq_left', false_implies, true_implies, forall_const, not_false_eq_true, not_true_eq_false, implies_true, b2iT, b2iF, i1n0, i0n1, Option.isSome_some, Option.isSome_none, Option.map_some, Option.map_none, reduceCtorEq, b2i_bz]
  cases hx : vI (mN S 1) x with
  | none => rw [hx] at hk; simp only [true_and, and_true, forall_eq, forall_eq', Option.some.injEq, exists_eq_left', false_implies, true_implies, forall_const, not_false_eq_true, not_true_eq_false, implies_true, b2iT, b2iF, i1n0, i0n1, Option.isSome_some, Option.isSome_none, Option.map_some, Option.map_none, reduceCtorEq, b2i_bz]; exact hk
  | some o =>
    cases hy : vI 2 y with
    | none => rw [hx, hy] at hk; simp only [true_and, and_true, forall_eq, forall_eq', Option.some.injEq, exists_eq_left', false_implies, true_implies, forall_const, not_false_eq_true, not_true_eq_false, implies_true, b2iT, b2iF, i1n0, i0n1, Option.isSome_some, Option.isSome_none, Option.map_some, Option.map_none, reduceCtorEq, b2i_bz]; exact hk
    | some w =>
      rw [hx, hy] at hk
      obtain ⟨ho, rfl⟩ := vI_some hx
      obtain ⟨hw, rfl⟩ := vI_some hy
      simp only [true_and, and_true, forall_eq, forall_eq', Option.some.injEq, exists_eq_left', false_implies, true_implies, forall_const, not_false_eq_true, not_true_eq_false, implies_true, b2iT, b2iF, i1n0, i0n1, Option.isSome_some, Option.isSome_none, Option.map_some, Option.map_none, reduceCtorEq, b2i_bz]
      simp only at hk
      rw [cnt_160 hI (fun i hi => ccP_out hi)] at hk
      exact ⟨2 * mN S 2 + 1, M_total_l h hI (by omega) hw k hk (2 * mN S 2) 0 (by omega)⟩
end PM
section PC
variable {u : Nat} {q ia ra : Nat → Nat} {S σ : MM} {sf : Nat → Int64}
theorem C_cc_l (h : RepC u q ia ra S sf σ) (hI : Inv S) (y : Int64) (p : Nat → Bool) (hp : ∀ c, c < mN S 0 → bT y c = p c) (k : Int32 → MM → Prop) (hk : k (nI (cnt (ccP S p) 160)) σ) : ∀ d i, i + d = 160 → wX3_countCodedWith_5 k u (d + 1) y (nI (cnt (ccP S p) i)) (nI i) σ := by
  have hC := Inv_C hI
  intro d
  induction d with
  | zero =>
    intro i hi
    have : i = 160 := by omega
    subst this
    unfold wX3_countCodedWith_5
    simp only [RepC_K h, RepC_r5 h, RepC_k5 h, RepC_n5 h, RepC_i5 h, le160, true_and, and_true, forall_eq, forall_eq', Option.some.injEq, exists_eq_left', false_implies, true_implies, forall_const, not_false_eq_true, not_true_eq_false, implies_true, b2iT, b2iF, i1n0, i0n1, Option.isSome_some, Option.isSome_none, Option.map_some, Option.map_none, reduceCtorEq, b2i_bz]
    exact hk
  | succ d ih =>
    intro i hi
    have e1 : ¬ nI 160 ≤ nI i := nI_ge (by omega) (by decide)
    have gg := ih (i + 1) (by omega)
    unfold wX3_countCodedWith_5
    simp only [e1, RepC_K h, RepC_r5 h, RepC_k5 h, RepC_n5 h, RepC_i5 h, ix_nI (show i < 2 ^ 31 by omega), vp_in_nI (show i < 160 by omega) (by decide), nI_1, true_and, and_true, forall_eq, forall_eq', Option.some.injEq, exists_eq_left', false_implies, true_implies, forall_const, not_false_eq_true, not_true_eq_false, implies_true, b2iT, b2iF, i1n0, i0n1, Option.isSome_some, Option.isSome_none, Option.map_some, Option.map_none, reduceCtorEq, b2i_bz]
    by_cases hpi : prs S i = true
    · simp only [hpi, if_true, RepC_tK h i hpi, RepC_t5 h i hpi, eC_isCode h hI, true_and, and_true, forall_eq, forall_eq', Option.some.injEq, exists_eq_left', false_implies, true_implies, forall_const, not_false_eq_true, not_true_eq_false, implies_true, b2iT, b2iF, i1n0, i0n1, Option.isSome_some, Option.isSome_none, Option.map_some, Option.map_none, reduceCtorEq, b2i_bz]
      rcases Inv_it hI i hpi with ⟨hs, ⟨c, hc, ec⟩, _⟩ | ⟨hs, ec, _⟩
      · simp only [ec, vI_nI hc (show mN S 0 < 2 ^ 31 by omega), eC_bit y (show c < 64 by omega), hp c hc, b2i_1, true_and, and_true, forall_eq, forall_eq', Option.some.injEq, exists_eq_left', false_implies, true_implies, forall_const, not_false_eq_true, not_true_eq_false, implies_true, b2iT, b2iF, i1n0, i0n1, Option.isSome_some, Option.isSome_none, Option.map_some, Option.map_none, reduceCtorEq, b2i_bz]
        have ep : ccP S p i = p c := by unfold ccP; rw [hpi, hs, ec, ix_nI (by omega)]; simp
        refine ⟨fun e => ?_, fun e => ?_⟩
        · rw [cnt_f (by rw [ep]; simpa using e)] at gg; exact gg
        · rw [cnt_t (by rw [ep]; exact e)] at gg; exact gg
      · simp only [ec, vI_neg (show (-1 : Int32) < 0 by decide), true_and, and_true, forall_eq, forall_eq', Option.some.injEq, exists_eq_left', false_implies, true_implies, forall_const, not_false_eq_true, not_true_eq_false, implies_true, b2iT, b2iF, i1n0, i0n1, Option.isSome_some, Option.isSome_none, Option.map_some, Option.map_none, reduceCtorEq, b2i_bz]
        have : ¬ mI S 6 i = 1 := by rcases hs with z | z <;> rw [z] <;> decide
        rw [cnt_f (by unfold ccP; simp [this])] at gg; exact gg
    · have hp2 : prs S i = false := by simpa using hpi
      simp only [hp2, Bool.false_eq_true, if_false, true_and, and_true, forall_eq, forall_eq', Option.some.injEq, exists_eq_left', false_implies, true_implies, forall_const, not_false_eq_true, not_true_eq_false, implies_true, b2iT, b2iF, i1n0, i0n1, Option.isSome_some, Option.isSome_none, Option.map_some, Option.map_none, reduceCtorEq, b2i_bz]
      rw [cnt_f (by unfold ccP; simp [hp2])] at gg; exact gg
theorem C_cc (h : RepC u q ia ra S sf σ) (hI : Inv S) (y : Int64) (p : Nat → Bool) (hp : ∀ c, c < mN S 0 → bT y c = p c) (k : Int32 → MM → Prop) (hk : k (nI (cnt (ccP S p) 160)) σ) : wX3_countCodedWith u y σ k := by
  refine ⟨160 + 1, ?_⟩
  exact C_cc_l h hI y p hp k hk 160 0 (by omega)
theorem bT_one {o : Nat} (ho : o < 64) : bT (lShl 1 (nI o)) = fun d => decide (d = o) := by
  funext d; exact bT_shl1 ho d
theorem C_coded (h : RepC u q ia ra S sf σ) (hI : Inv S) (x : Int32) (k : Int32 → MM → Prop) (hk : k (fCoded S x) σ) : wX3_coded u x σ k := by
  have hC := Inv_C hI
  unfold wX3_coded
  unfold fCoded at hk
  simp only [eC_isCode h hI, RepC_K h, RepC_r0 h, RepC_k0 h, true_and, and_true, forall_eq, forall_eq', Option.some.injEq, exists_eq_left', false_implies, true_implies, forall_const, not_false_eq_true, not_true_eq_false, implies_true, b2iT, b2iF, i1n0, i0n1, Option.isSome_some, Option.isSome_none, Option.map_some, Option.map_none, reduceCtorEq, b2i_bz]
  cases hx : vI (mN S 0) x with
  | none => rw [hx] at hk; simp only [true_and, and_true, forall_eq, forall_eq', Option.some.injEq, exists_eq_left', false_implies, true_implies, forall_const, not_false_eq_true, not_true_eq_false, implies_true, b2iT, b2iF, i1n0, i0n1, Option.isSome_some, Option.isSome_none, Option.map_some, Option.map_none, reduceCtorEq, b2i_bz]; exact hk
  | some o =>
    rw [hx] at hk
    obtain ⟨ho, rfl⟩ := vI_some hx
    simp only [true_and, and_true, forall_eq, forall_eq', Option.some.injEq, exists_eq_left', false_implies, true_implies, forall_const, not_false_eq_true, not_true_eq_false, implies_true, b2iT, b2iF, i1n0, i0n1, Option.isSome_some, Option.isSome_none, Option.map_some, Option.map_none, reduceCtorEq, b2i_bz]
    simp only at hk
    refine C_below (RepC_k0 h) (RepC_s0 h) (RepC_a0 h) (RepC_k20 h) (RepC_n20 h) (RepC_i20 h) hC (upC hI) _ _ (fun E hE _ => ?_)
    rw [bT_one (by omega)] at hE
    exact ⟨RepC_K h, C_cc h hI E _ hE _ hk⟩
theorem C_tot68 (k : Int32 → MM → Prop) (g : Int32 → Int64 → Int64 → Int32 → MM → Prop) (h : RepC u q ia ra S sf σ) {w c : Nat} (hw : w < 2) (hc : c < 40) (E y : Int64) (s : Bool) (hg : g (nI w) E (if s && (!decide (w = 0) || decide (mL S 4 c &&& (E ^^^ (-1)) = 0)) then y ||| lShl 1 (nI c) else y) (nI (c + 1)) σ) : wX3_total_68 k u g (nI w) E y (nI c) (b2i s) σ := by
  unfold wX3_total_68
  simp only [RepC_K h, RepC_r3 h, RepC_k3 h, RepC_n3 h, RepC_i3 h, ix_nI (show c < 2 ^ 31 by omega), vp_in_nI hc (by decide), true_and, and_true, forall_eq, forall_eq', Option.some.injEq, exists_eq_left', false_implies, true_implies, forall_const, not_false_eq_true, not_true_eq_false, implies_true, b2iT, b2iF, i1n0, i0n1, Option.isSome_some, Option.isSome_none, Option.map_some, Option.map_none, reduceCtorEq, b2i_bz]
  have w1 : nI w = 1 ↔ ¬ w = 0 := by rw [nI_lit1 (show w < 2 ^ 31 by omega)]; omega
  refine ⟨fun e => ?_, fun e => ?_⟩
  · rw [decide_eq_true e, Bool.or_true, Bool.and_true] at hg
    unfold wX3_total_93
    rw [w1]
    simp only [nI_1, b2i_0, true_and, and_true, forall_eq, forall_eq', Option.some.injEq, exists_eq_left', false_implies, true_implies, forall_const, not_false_eq_true, not_true_eq_false, implies_true, b2iT, b2iF, i1n0, i0n1, Option.isSome_some, Option.isSome_none, Option.map_some, Option.map_none, reduceCtorEq, b2i_bz]
    refine ⟨fun e2 => ?_, fun e2 => ⟨fun e3 => ?_, fun e3 => ?_⟩⟩
    · rw [e2] at hg; exact hg
    · rw [(by simpa using e2 : s = true)] at hg; exact hg
    · rw [(by simpa using e2 : s = true)] at hg; exact hg
  · rw [decide_eq_false e, Bool.or_false] at hg
    unfold wX3_total_93
    rw [w1]
    simp only [nI_1, b2i_0, true_and, and_true, forall_eq, forall_eq', Option.some.injEq, exists_eq_left', false_implies, true_implies, forall_const, not_false_eq_true, not_true_eq_false, implies_true, b2iT, b2iF, i1n0, i0n1, Option.isSome_some, Option.isSome_none, Option.map_some, Option.map_none, reduceCtorEq, b2i_bz]
    refine ⟨fun e2 => ?_, fun e2 => ⟨fun e3 => ?_, fun e3 => ?_⟩⟩
    · rw [e2] at hg; exact hg
    · rw [(by simpa using e2 : s = true), decide_eq_false e3] at hg; exact hg
    · have e4 : w = 0 := by omega
      rw [decide_eq_true e4, Bool.not_true, Bool.and_false] at hg; exact hg
theorem tC_class (hI : Inv S) {o w c : Nat} (E : Int64) (hE : ∀ d, d < mN S 1 → bT E d = bl (mI S 1) o d) : (!decide (mL S 4 c &&& E = 0) && (!decide (w = 0) || decide (mL S 4 c &&& (E ^^^ (-1)) = 0))) = tC S o w c := by
  have hO := Inv_O hI
  have e1 : (!decide (mL S 4 c &&& E = 0)) = tS (mL S 4 c) (bl (mI S 1) o) (mN S 1) := by
    rw [Bool.eq_iff_iff, tS_iff]
    simp only [Bool.not_eq_true', decide_eq_false_iff_not, and0]
    constructor
    · intro hn
      by_cases hx : ∃ d, d < mN S 1 ∧ bT (mL S 4 c) d = true ∧ bl (mI S 1) o d = true
      · exact hx
      · refine absurd (fun d hd hdd => ?_) hn
        by_cases hdn : d < mN S 1
        · exact hx ⟨d, hdn, hdd.1, by rw [← hE d hdn]; exact hdd.2⟩
        · have := Inv_ca hI c d (by omega)
          rw [this] at hdd; exact absurd hdd.1 (by decide)
    · rintro ⟨d, hd, h1, h2⟩ hn
      exact hn d (by omega) ⟨h1, by rw [hE d hd]; exact h2⟩
  have e2 : decide (mL S 4 c &&& (E ^^^ (-1)) = 0) = tA (mL S 4 c) (bl (mI S 1) o) (mN S 1) := by
    rw [Bool.eq_iff_iff, tA_iff]
    simp only [decide_eq_true_eq, and0]
    constructor
    · intro hn d hd hb
      have := hn d (by omega)
      rw [bT_not _ (by omega), hE d hd] at this
      cases hbl : bl (mI S 1) o d with
      | true => rfl
      | false => rw [hbl] at this; exact absurd ⟨hb, rfl⟩ this
    · intro hn d hd hdd
      by_cases hdn : d < mN S 1
      · rw [bT_not _ hd, hE d hdn, hn d hdn hdd.1] at hdd
        exact absurd hdd.2 (by decide)
      · have := Inv_ca hI c d (by omega)
        rw [this] at hdd; exact absurd hdd.1 (by decide)
  rw [e1, e2]
  unfold tC
  by_cases hz : mL S 4 c = 0
  · have : tS (mL S 4 c) (bl (mI S 1) o) (mN S 1) = false := by
      cases hs : tS (mL S 4 c) (bl (mI S 1) o) (mN S 1) with
      | false => rfl
      | true =>
        obtain ⟨d, _, h1, _⟩ := (tS_iff _).mp hs
        rw [hz, bT_0] at h1; exact absurd h1 (by decide)
    rw [this]; simp [hz]
  · have hd0 : (!decide (mL S 4 c = 0)) = true := by simp [hz]
    rw [hd0, Bool.true_and]
    by_cases hw0 : w = 0
    · rw [if_pos hw0]
      have hw1 : (!decide (w = 0)) = false := by simp [hw0]
      rw [hw1, Bool.false_or]
      cases ha : tA (mL S 4 c) (bl (mI S 1) o) (mN S 1) with
      | false => rw [Bool.and_false]
      | true =>
        have : tS (mL S 4 c) (bl (mI S 1) o) (mN S 1) = true := by
          rw [tS_iff]
          have hall := (tA_iff _).mp ha
          by_cases hx : ∃ d, d < mN S 1 ∧ bT (mL S 4 c) d = true
          · obtain ⟨d, hd, hb⟩ := hx
            exact ⟨d, hd, hb, hall d hd hb⟩
          · refine absurd (bT_ext (fun d _ => ?_)) hz
            rw [bT_0]
            by_cases hdn : d < mN S 1
            · cases hb : bT (mL S 4 c) d with
              | false => rfl
              | true => exact absurd ⟨d, hdn, hb⟩ hx
            · exact Inv_ca hI c d (by omega)
        rw [this]; rfl
    · rw [if_neg hw0]
      have hw1 : (!decide (w = 0)) = true := by simp [hw0]
      rw [hw1, Bool.true_or, Bool.and_true]
theorem C_total_l (h : RepC u q ia ra S sf σ) (hI : Inv S) {o w : Nat} (hw : w < 2) (E : Int64) (hE : ∀ d, d < mN S 1 → bT E d = bl (mI S 1) o d) (k : Int32 → MM → Prop) (hk : k (nI (cnt (ccP S (tC S o w)) 160)) σ) : ∀ d i (y : Int64), i + d = 40 → (∀ c, c < 64 → bT y c = (decide (c < i) && tC S o w c)) → wX3_total_39 k u (d + 1) (nI w) E y (nI i) σ := by
  have hC := Inv_C hI
  intro d
  induction d with
  | zero =>
    intro i y hi hy
    have : i = 40 := by omega
    subst this
    unfold wX3_total_39
    simp only [RepC_K h, RepC_r3 h, RepC_k3 h, RepC_n3 h, le40, true_and, and_true, forall_eq, forall_eq', Option.some.injEq, exists_eq_left', false_implies, true_implies, forall_const, not_false_eq_true, not_true_eq_false, implies_true, b2iT, b2iF, i1n0, i0n1, Option.isSome_some, Option.isSome_none, Option.map_some, Option.map_none, reduceCtorEq, b2i_bz]
    refine C_cc h hI y (tC S o w) (fun c hc => ?_) _ hk
    rw [hy c (by omega), show decide (c < 40) = true from by simpa using (show c < 40 by omega)]; rfl
  | succ d ih =>
    intro i y hi hy
    have e1 : ¬ nI 40 ≤ nI i := nI_ge (by omega) (by decide)
    unfold wX3_total_39
    simp only [RepC_K h, RepC_r3 h, RepC_k3 h, RepC_n3 h, RepC_i3 h, e1, ix_nI (show i < 2 ^ 31 by omega), vp_in_nI (show i < 40 by omega) (by decide), nI_1, true_and, and_true, forall_eq, forall_eq', Option.some.injEq, exists_eq_left', false_implies, true_implies, forall_const, not_false_eq_true, not_true_eq_false, implies_true, b2iT, b2iF, i1n0, i0n1, Option.isSome_some, Option.isSome_none, Option.map_some, Option.map_none, reduceCtorEq, b2i_bz]
    have go : wX3_total_68 k u (wX3_total_39 k u (d + 1)) (nI w) E y (nI i) (b2i (!decide (mL S 4 i &&& E = 0))) σ := by
      refine C_tot68 k _ h hw (by omega) E y _ ?_
      rw [tC_class hI E hE]
      refine ih (i + 1) _ (by omega) (fun c hc => ?_)
      cases ht : tC S o w i with
      | true =>
        rw [if_pos rfl, bT_or, bT_shl1 (by omega), hy c hc]
        by_cases ec : c = i
        · subst ec; simp [ht]
        · rw [show decide (c < i + 1) = decide (c < i) from by rw [Bool.eq_iff_iff]; simp only [decide_eq_true_eq]; omega]
          simp [ec]
      | false =>
        rw [if_neg (by decide), hy c hc]
        by_cases ec : c = i
        · subst ec; simp [ht]
        · rw [show decide (c < i + 1) = decide (c < i) from by rw [Bool.eq_iff_iff]; simp only [decide_eq_true_eq]; omega]
    refine ⟨fun e => ?_, fun e => ?_⟩
    · rw [show (!decide (mL S 4 i &&& E = 0)) = false by simp [e]] at go; exact go
    · rw [show (!decide (mL S 4 i &&& E = 0)) = true by simp [e]] at go; exact go
theorem C_total (h : RepC u q ia ra S sf σ) (hI : Inv S) (x y : Int32) (k : Int32 → MM → Prop) (hk : k (fTotal S x y) σ) : wX3_total u x y σ k := by
  have hO := Inv_O hI
  unfold wX3_total
  unfold fTotal at hk
  simp only [RepC_r1 h, RepC_k1 h, eC_hasO h hI, eC_isIn0 (n := 2) (h := 1) rfl, RepC_K h, true_and, and_true, forall_eq, forall_eq', Option.some.injEq, exists_eq_left', false_implies, true_implies, forall_const, not_false_eq_true, not_true_eq_false, implies_true, b2iT, b2iF, i1n0, i0n1, Option.isSome_some, Option.isSome_none, Option.map_some, Option.map_none, reduceCtorEq, b2i_bz]
  cases hx : vI (mN S 1) x with
  | none => rw [hx] at hk; simp only [true_and, and_true, forall_eq, forall_eq', Option.some.injEq, exists_eq_left', false_implies, true_implies, forall_const, not_false_eq_true, not_true_eq_false, implies_true, b2iT, b2iF, i1n0, i0n1, Option.isSome_some, Option.isSome_none, Option.map_some, Option.map_none, reduceCtorEq, b2i_bz]; exact hk
  | some o =>
    cases hy : vI 2 y with
    | none => rw [hx, hy] at hk; simp only [true_and, and_true, forall_eq, forall_eq', Option.some.injEq, exists_eq_left', false_implies, true_implies, forall_const, not_false_eq_true, not_true_eq_false, implies_true, b2iT, b2iF, i1n0, i0n1, Option.isSome_some, Option.isSome_none, Option.map_some, Option.map_none, reduceCtorEq, b2i_bz]; exact hk
    | some w =>
      rw [hx, hy] at hk
      obtain ⟨ho, rfl⟩ := vI_some hx
      obtain ⟨hw, rfl⟩ := vI_some hy
      simp only [true_and, and_true, forall_eq, forall_eq', Option.some.injEq, exists_eq_left', false_implies, true_implies, forall_const, not_false_eq_true, not_true_eq_false, implies_true, b2iT, b2iF, i1n0, i0n1, Option.isSome_some, Option.isSome_none, Option.map_some, Option.map_none, reduceCtorEq, b2i_bz]
      simp only at hk
      refine C_below (RepC_k1 h) (RepC_s1 h) (RepC_a1 h) (RepC_k21 h) (RepC_n21 h) (RepC_i21 h) (by omega) (upO hI) _ _ (fun E hE _ => ?_)
      rw [bT_one (by omega)] at hE
      refine ⟨40 + 1, ?_⟩
      exact C_total_l h hI hw E hE k hk 40 0 0 (by omega) (fun c _ => by rw [bT_0]; simp)
end PC
