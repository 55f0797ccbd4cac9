/-! memories that grow: the new objects have names i, memory τ says by name what σ holds by address -/
def NB (σ0 σ : MM) (q : Nat → Nat) (τ : MM) (s : List Nat) : Prop :=
  (∀ i, i ∈ s → mK σ (q i) = mK τ i ∧ mN σ (q i) = mN τ i ∧ mI σ (q i) = mI τ i ∧ mL σ (q i) = mL τ i ∧ mR σ (q i) = mR τ i ∧ mK σ0 (q i) = 0 ∧ mK τ i ≠ 0) ∧ (∀ i j, i ∈ s → j ∈ s → q i = q j → i = j) ∧ (∀ b, mK σ0 b ≠ 0 → agr σ0 σ b)
theorem NB_0 (σ0 τ : MM) (q : Nat → Nat) : NB σ0 σ0 q τ [] := ⟨fun i h => absurd h List.not_mem_nil, fun i j h => absurd h List.not_mem_nil, fun b _ => agr_refl σ0 b⟩
theorem NB_new {σ0 σ τ : MM} {q : Nat → Nat} {s : List Nat} {a i kd n : Nat} (B : NB σ0 σ q τ s) (ha : mK σ a = 0) (hi : i ∉ s) (hk : kd ≠ 0) : NB σ0 (sN σ a kd n) (va_up q i a) (sN τ i kd n) (i :: s) := by
  obtain ⟨B1, B2, B3⟩ := B
  have hne : ∀ j, j ∈ s → q j ≠ a := fun j hj e => by
    have := B1 j hj
    rw [e, ha] at this
    exact this.2.2.2.2.2.2 this.1.symm
  have hji : ∀ j, j ∈ s → j ≠ i := fun j hj e => hi (by rw [← e]; exact hj)
  refine ⟨fun j hj => ?_, fun j1 j2 h1 h2 e => ?_, fun b hb => ?_⟩
  · rcases List.mem_cons.mp hj with e | hj
    · subst e
      rw [va_up_self]
      have ha0 : mK σ0 a = 0 := by
        by_cases z : mK σ0 a = 0
        · exact z
        · have := (B3 a z).1
          rw [ha] at this
          exact this.symm
      refine ⟨by rw [mK_sN, mK_sN, if_pos rfl, if_pos rfl], by rw [mN_sN, mN_sN, if_pos rfl, if_pos rfl], ?_, ?_, ?_, ha0, by rw [mK_sN, if_pos rfl]; exact hk⟩
      · exact (va_up_self _ _ _).trans (va_up_self _ _ _).symm
      · exact (va_up_self _ _ _).trans (va_up_self _ _ _).symm
      · exact (va_up_self _ _ _).trans (va_up_self _ _ _).symm
    · have h1 := B1 j hj
      have g1 := agr_sN (σ := σ) (kd := kd) (n := n) (hne j hj)
      have g2 := agr_sN (σ := τ) (kd := kd) (n := n) (hji j hj)
      rw [va_up_ne _ _ (hji j hj), g1.1, g1.2.1, g1.2.2.1, g1.2.2.2.1, g1.2.2.2.2, g2.1, g2.2.1, g2.2.2.1, g2.2.2.2.1, g2.2.2.2.2]
      exact h1
  · rcases List.mem_cons.mp h1 with e1 | h1 <;> rcases List.mem_cons.mp h2 with e2 | h2
    · rw [e1, e2]
    · rw [e1, va_up_self, va_up_ne _ _ (hji j2 h2)] at e
      exact absurd e.symm (hne j2 h2)
    · rw [e2, va_up_self, va_up_ne _ _ (hji j1 h1)] at e
      exact absurd e (hne j1 h1)
    · rw [va_up_ne _ _ (hji j1 h1), va_up_ne _ _ (hji j2 h2)] at e
      exact B2 j1 j2 h1 h2 e
  · refine agr_tr (B3 b hb) (agr_sN (fun e => ?_))
    have := (B3 b hb).1
    rw [e, ha] at this
    exact hb (by rw [e]; exact this.symm)
theorem NB_old {σ0 σ τ : MM} {q : Nat → Nat} {s : List Nat} {i b : Nat} (B : NB σ0 σ q τ s) (hi : i ∈ s) (hb : mK σ0 b ≠ 0) : b ≠ q i := fun e => hb (by rw [e]; exact (B.1 i hi).2.2.2.2.2.1)
theorem NB_I {σ0 σ τ : MM} {q : Nat → Nat} {s : List Nat} {i k : Nat} {v : Int32} (B : NB σ0 σ q τ s) (hi : i ∈ s) : NB σ0 (sI σ (q i) k v) q (sI τ i k v) s := by
  refine ⟨fun j hj => ?_, B.2.1, fun b hb => agr_tr (B.2.2 b hb) (agr_sI (NB_old B hi hb))⟩
  have h1 := B.1 j hj
  by_cases e : j = i
  · subst e
    rw [mI_sI_self, mI_sI_self, h1.2.2.1]
    exact ⟨h1.1, h1.2.1, rfl, h1.2.2.2⟩
  · rw [mI_sI_ne (fun z => e (B.2.1 j i hj hi z)), mI_sI_ne e]
    exact h1
theorem NB_R {σ0 σ τ : MM} {q : Nat → Nat} {s : List Nat} {i k : Nat} {v : Option Nat} (B : NB σ0 σ q τ s) (hi : i ∈ s) : NB σ0 (sR σ (q i) k v) q (sR τ i k v) s := by
  refine ⟨fun j hj => ?_, B.2.1, fun b hb => agr_tr (B.2.2 b hb) (agr_sR (NB_old B hi hb))⟩
  have h1 := B.1 j hj
  by_cases e : j = i
  · subst e
    rw [mR_sR_self, mR_sR_self, h1.2.2.2.2.1]
    exact ⟨h1.1, h1.2.1, h1.2.2.1, h1.2.2.2.1, rfl, h1.2.2.2.2.2⟩
  · rw [mR_sR_ne (fun z => e (B.2.1 j i hj hi z)), mR_sR_ne e]
    exact h1
/-- the office at first, with the first n words standing for themselves -/
def S00 : MM := sI (sI (fun _ => 0, fun _ => 0, fun _ _ => 0, fun _ _ => 0, fun _ _ => none) 15 0 500) 15 1 200
def S0 : Nat → MM
  | 0 => S00
  | n + 1 => sI (S0 n) 2 n (nI n)
theorem S0_N : ∀ n, mN (S0 n) = fun _ => 0
  | 0 => rfl
  | n + 1 => S0_N n
theorem S0_L : ∀ n, mL (S0 n) = fun _ _ => 0
  | 0 => rfl
  | n + 1 => S0_L n
theorem S0_2 : ∀ n j, j < n → mI (S0 n) 2 j = nI j
  | 0, j, h => absurd h (Nat.not_lt_zero j)
  | n + 1, j, h => by
    show mI (sI (S0 n) 2 n (nI n)) 2 j = nI j
    rw [mI_sI]
    by_cases e : j = n
    · rw [if_pos ⟨rfl, e⟩, e]
    · rw [if_neg (fun z => e z.2)]; exact S0_2 n j (by omega)
theorem S0_I : ∀ n c, c ≠ 2 → mI (S0 n) c = mI S00 c
  | 0, _, _ => rfl
  | n + 1, c, h => by
    show mI (sI (S0 n) 2 n (nI n)) c = _
    rw [mI_sI_ne h]; exact S0_I n c h
theorem S0_prs (n j : Nat) : prs (S0 n) j = false := by
  unfold prs
  rw [S0_N]; simp
theorem Inv_S0 : Inv (S0 60) := by
  have n0 : ∀ d, mN (S0 60) d = 0 := fun d => by rw [S0_N]
  have nl : ∀ {d c : Nat}, c < mN (S0 60) d → False := fun {d c} h => by rw [n0] at h; exact Nat.not_lt_zero _ h
  refine ⟨by rw [n0]; decide, by rw [n0]; decide, by rw [n0]; decide, by rw [n0]; decide, fun c h => (nl h).elim, fun c h => (nl h).elim, fun x hx => ⟨x, hx, S0_2 60 x hx⟩, fun c h => (nl h).elim, fun c h => (nl h).elim, fun c h => (nl h).elim, fun j hj => ?_, fun c h => (nl h).elim, fun c h => (nl h).elim, fun c h => (nl h).elim, fun c h => (nl h).elim, fun r _ => ?_, ⟨500, by decide, by decide, by rw [S0_I 60 15 (by decide)]; rfl⟩, ⟨200, by decide, by rw [S0_I 60 15 (by decide)]; rfl⟩, fun c k _ => by rw [S0_L]; exact bT_0 k⟩
  · rw [S0_prs] at hj; cases hj
  · rw [S0_L, S0_I 60 14 (by decide)]
    exact ⟨rfl, rfl, rfl⟩
theorem nb_eq {σ0 σ σ1 τ : MM} {q : Nat → Nat} {s : List Nat} (B : NB σ0 σ q τ s) (e : σ1 = σ) : NB σ0 σ1 q τ s := by rw [e]; exact B
theorem M_init222 {t : Nat} {q : Nat → Nat} {σ0 : MM} {k : MM → Prop} (hk : ∀ σ1, RepM t q (S0 60) σ1 → (∀ b, b ≠ q 1 → agr σ0 σ1 b) → k σ1) : ∀ d n σ, n + d = 60 → RepM t q (S0 n) σ → (∀ b, b ≠ q 1 → agr σ0 σ b) → wX4_init_222 k t (d + 1) (nI n) σ := by
  intro d
  induction d with
  | zero =>
    intro n σ hn h f
    have : n = 60 := by omega
    subst this
    unfold wX4_init_222
    exact ⟨fun _ => hk σ h f, fun e => absurd (show (60 : Int32) ≤ nI 60 by decide) e⟩
  | succ d ih =>
    intro n σ hn h f
    unfold wX4_init_222
    refine ⟨fun e => absurd e (nI_ge (b := 60) (by omega) (by decide)), fun _ => ⟨RepM_K h, ?_⟩⟩
    rw [RepM_r1 h]
    simp only [forall_eq]
    refine ⟨q 1, rfl, RepM_k1 h, by rw [RepM_n1 h]; exact vp_in_nI (show n < 60 by omega) (by decide), ?_⟩
    rw [ix_nI (show n < 2 ^ 31 by omega), nI_1]
    exact ih (n + 1) _ (by omega) (RepM_w1 h n (nI n)) (fun b hb => agr_tr (f b hb) (agr_sI hb))
theorem RepM_of_NB {σ0 σ : MM} {t : Nat} {q : Nat → Nat} {τ : MM} {s : List Nat} (B : NB σ0 σ q τ s) (hs : ∀ i, i ∈ 99 :: slM → i ∈ s) (hq : q 99 = t)
    (hK : mK τ 99 = 5) (hnC : mI τ 99 2 = 0) (hnO : mI τ 99 5 = 0) (hnA : mI τ 99 8 = 0) (hnR : mI τ 99 18 = 0) (hle : mI τ 99 26 = 500) (hga : mI τ 99 27 = 200) (hr1 : mR τ 99 1 = some (q 1)) (hk1 : mK τ 1 = 6) (hn1 : mN τ 1 = 60) (hi1 : mI τ 1 = fun _ => 0) (hr3 : mR τ 99 3 = some (q 3)) (hk3 : mK τ 3 = 6) (hn3 : mN τ 3 = 40) (hi3 : mI τ 3 = fun _ => 0) (hr4 : mR τ 99 4 = some (q 4)) (hk4 : mK τ 4 = 7) (hn4 : mN τ 4 = 40) (hi4 : mL τ 4 = fun _ => 0) (hr6 : mR τ 99 6 = some (q 6)) (hk6 : mK τ 6 = 6) (hn6 : mN τ 6 = 30) (hi6 : mI τ 6 = fun _ => 0) (hr7 : mR τ 99 7 = some (q 7)) (hk7 : mK τ 7 = 6) (hn7 : mN τ 7 = 40) (hi7 : mI τ 7 = fun _ => 0) (hr9 : mR τ 99 9 = some (q 9)) (hk9 : mK τ 9 = 6) (hn9 : mN τ 9 = 80) (hi9 : mI τ 9 = fun _ => 0) (hr10 : mR τ 99 10 = some (q 10)) (hk10 : mK τ 10 = 6) (hn10 : mN τ 10 = 80) (hi10 : mI τ 10 = fun _ => 0) (hr11 : mR τ 99 11 = some (q 11)) (hk11 : mK τ 11 = 6) (hn11 : mN τ 11 = 80) (hi11 : mI τ 11 = fun _ => 0) (hr12 : mR τ 99 12 = some (q 12)) (hk12 : mK τ 12 = 7) (hn12 : mN τ 12 = 160) (hi12 : mL τ 12 = fun _ => 0) (hr13 : mR τ 99 13 = some (q 13)) (hk13 : mK τ 13 = 6) (hn13 : mN τ 13 = 160) (hi13 : mI τ 13 = fun _ => 0) (hr14 : mR τ 99 14 = some (q 14)) (hk14 : mK τ 14 = 6) (hn14 : mN τ 14 = 160) (hi14 : mI τ 14 = fun _ => 0) (hr15 : mR τ 99 15 = some (q 15)) (hk15 : mK τ 15 = 6) (hn15 : mN τ 15 = 160) (hi15 : mI τ 15 = fun _ => 0) (hr16 : mR τ 99 16 = some (q 16)) (hk16 : mK τ 16 = 6) (hn16 : mN τ 16 = 160) (hi16 : mI τ 16 = fun _ => 0) (hr17 : mR τ 99 17 = some (q 17)) (hk17 : mK τ 17 = 6) (hn17 : mN τ 17 = 160) (hi17 : mI τ 17 = fun _ => 0) (hr19 : mR τ 99 19 = some (q 19)) (hk19 : mK τ 19 = 6) (hn19 : mN τ 19 = 40) (hi19 : mI τ 19 = fun _ => 0) (hr20 : mR τ 99 20 = some (q 20)) (hk20 : mK τ 20 = 6) (hn20 : mN τ 20 = 40) (hi20 : mI τ 20 = fun _ => 0) (hr21 : mR τ 99 21 = some (q 21)) (hk21 : mK τ 21 = 6) (hn21 : mN τ 21 = 40) (hi21 : mI τ 21 = fun _ => 0) (hr22 : mR τ 99 22 = some (q 22)) (hk22 : mK τ 22 = 7) (hn22 : mN τ 22 = 40) (hi22 : mL τ 22 = fun _ => 0) (hr23 : mR τ 99 23 = some (q 23)) (hk23 : mK τ 23 = 7) (hn23 : mN τ 23 = 40) (hi23 : mL τ 23 = fun _ => 0) (hr24 : mR τ 99 24 = some (q 24)) (hk24 : mK τ 24 = 8) (hn24 : mN τ 24 = 40) (hi24 : mI τ 24 = fun _ => 0) (hr30 : mR τ 99 30 = some (q 30)) (hk30 : mK τ 30 = 6) (hn30 : mN τ 30 = 160) (hr31 : mR τ 99 31 = some (q 31)) (hk31 : mK τ 31 = 6) (hn31 : mN τ 31 = 160) (hr32 : mR τ 99 32 = some (q 32)) (hk32 : mK τ 32 = 6) (hn32 : mN τ 32 = 160) (hr33 : mR τ 99 33 = some (q 33)) (hk33 : mK τ 33 = 8) (hn33 : mN τ 33 = 160) : RepM t q (S0 0) σ := by
  subst hq
  exact ⟨((B.1 99 (hs 99 (by decide))).1.trans hK),
    (by rw [(B.1 99 (hs 99 (by decide))).2.2.1, hnC]; rfl),
    (by rw [(B.1 99 (hs 99 (by decide))).2.2.1, hnO]; rfl),
    (by rw [(B.1 99 (hs 99 (by decide))).2.2.1, hnA]; rfl),
    (by rw [(B.1 99 (hs 99 (by decide))).2.2.1, hnR]; rfl),
    (by rw [(B.1 99 (hs 99 (by decide))).2.2.1, hle]; rfl),
    (by rw [(B.1 99 (hs 99 (by decide))).2.2.1, hga]; rfl),
    (by rw [(B.1 99 (hs 99 (by decide))).2.2.2.2.1]; exact hr1),
    ((B.1 1 (hs 1 (by decide))).1.trans hk1),
    ((B.1 1 (hs 1 (by decide))).2.1.trans hn1),
    (by rw [(B.1 1 (hs 1 (by decide))).2.2.1, hi1]; rfl),
    (by rw [(B.1 99 (hs 99 (by decide))).2.2.2.2.1]; exact hr3),
    ((B.1 3 (hs 3 (by decide))).1.trans hk3),
    ((B.1 3 (hs 3 (by decide))).2.1.trans hn3),
    (by rw [(B.1 3 (hs 3 (by decide))).2.2.1, hi3]; rfl),
    (by rw [(B.1 99 (hs 99 (by decide))).2.2.2.2.1]; exact hr4),
    ((B.1 4 (hs 4 (by decide))).1.trans hk4),
    ((B.1 4 (hs 4 (by decide))).2.1.trans hn4),
    (by rw [(B.1 4 (hs 4 (by decide))).2.2.2.1, hi4]; rfl),
    (by rw [(B.1 99 (hs 99 (by decide))).2.2.2.2.1]; exact hr6),
    ((B.1 6 (hs 6 (by decide))).1.trans hk6),
    ((B.1 6 (hs 6 (by decide))).2.1.trans hn6),
    (by rw [(B.1 6 (hs 6 (by decide))).2.2.1, hi6]; rfl),
    (by rw [(B.1 99 (hs 99 (by decide))).2.2.2.2.1]; exact hr7),
    ((B.1 7 (hs 7 (by decide))).1.trans hk7),
    ((B.1 7 (hs 7 (by decide))).2.1.trans hn7),
    (fun j => by rw [(B.1 7 (hs 7 (by decide))).2.2.1, hi7]; rfl),
    (by rw [(B.1 99 (hs 99 (by decide))).2.2.2.2.1]; exact hr9),
    ((B.1 9 (hs 9 (by decide))).1.trans hk9),
    ((B.1 9 (hs 9 (by decide))).2.1.trans hn9),
    (by rw [(B.1 9 (hs 9 (by decide))).2.2.1, hi9]; rfl),
    (by rw [(B.1 99 (hs 99 (by decide))).2.2.2.2.1]; exact hr10),
    ((B.1 10 (hs 10 (by decide))).1.trans hk10),
    ((B.1 10 (hs 10 (by decide))).2.1.trans hn10),
    (by rw [(B.1 10 (hs 10 (by decide))).2.2.1, hi10]; rfl),
    (by rw [(B.1 99 (hs 99 (by decide))).2.2.2.2.1]; exact hr11),
    ((B.1 11 (hs 11 (by decide))).1.trans hk11),
    ((B.1 11 (hs 11 (by decide))).2.1.trans hn11),
    (by rw [(B.1 11 (hs 11 (by decide))).2.2.1, hi11]; rfl),
    (by rw [(B.1 99 (hs 99 (by decide))).2.2.2.2.1]; exact hr12),
    ((B.1 12 (hs 12 (by decide))).1.trans hk12),
    ((B.1 12 (hs 12 (by decide))).2.1.trans hn12),
    (by rw [(B.1 12 (hs 12 (by decide))).2.2.2.1, hi12]; rfl),
    (by rw [(B.1 99 (hs 99 (by decide))).2.2.2.2.1]; exact hr13),
    ((B.1 13 (hs 13 (by decide))).1.trans hk13),
    ((B.1 13 (hs 13 (by decide))).2.1.trans hn13),
    (by rw [(B.1 13 (hs 13 (by decide))).2.2.1, hi13]; rfl),
    (by rw [(B.1 99 (hs 99 (by decide))).2.2.2.2.1]; exact hr14),
    ((B.1 14 (hs 14 (by decide))).1.trans hk14),
    ((B.1 14 (hs 14 (by decide))).2.1.trans hn14),
    (by rw [(B.1 14 (hs 14 (by decide))).2.2.1, hi14]; rfl),
    (by rw [(B.1 99 (hs 99 (by decide))).2.2.2.2.1]; exact hr15),
    ((B.1 15 (hs 15 (by decide))).1.trans hk15),
    ((B.1 15 (hs 15 (by decide))).2.1.trans hn15),
    (by rw [(B.1 15 (hs 15 (by decide))).2.2.1, hi15]; rfl),
    (by rw [(B.1 99 (hs 99 (by decide))).2.2.2.2.1]; exact hr16),
    ((B.1 16 (hs 16 (by decide))).1.trans hk16),
    ((B.1 16 (hs 16 (by decide))).2.1.trans hn16),
    (by rw [(B.1 16 (hs 16 (by decide))).2.2.1, hi16]; rfl),
    (by rw [(B.1 99 (hs 99 (by decide))).2.2.2.2.1]; exact hr17),
    ((B.1 17 (hs 17 (by decide))).1.trans hk17),
    ((B.1 17 (hs 17 (by decide))).2.1.trans hn17),
    (by rw [(B.1 17 (hs 17 (by decide))).2.2.1, hi17]; rfl),
    (by rw [(B.1 99 (hs 99 (by decide))).2.2.2.2.1]; exact hr19),
    ((B.1 19 (hs 19 (by decide))).1.trans hk19),
    ((B.1 19 (hs 19 (by decide))).2.1.trans hn19),
    (by rw [(B.1 19 (hs 19 (by decide))).2.2.1, hi19]; rfl),
    (by rw [(B.1 99 (hs 99 (by decide))).2.2.2.2.1]; exact hr20),
    ((B.1 20 (hs 20 (by decide))).1.trans hk20),
    ((B.1 20 (hs 20 (by decide))).2.1.trans hn20),
    (by rw [(B.1 20 (hs 20 (by decide))).2.2.1, hi20]; rfl),
    (by rw [(B.1 99 (hs 99 (by decide))).2.2.2.2.1]; exact hr21),
    ((B.1 21 (hs 21 (by decide))).1.trans hk21),
    ((B.1 21 (hs 21 (by decide))).2.1.trans hn21),
    (by rw [(B.1 21 (hs 21 (by decide))).2.2.1, hi21]; rfl),
    (by rw [(B.1 99 (hs 99 (by decide))).2.2.2.2.1]; exact hr22),
    ((B.1 22 (hs 22 (by decide))).1.trans hk22),
    ((B.1 22 (hs 22 (by decide))).2.1.trans hn22),
    (by rw [(B.1 22 (hs 22 (by decide))).2.2.2.1, hi22]; rfl),
    (by rw [(B.1 99 (hs 99 (by decide))).2.2.2.2.1]; exact hr23),
    ((B.1 23 (hs 23 (by decide))).1.trans hk23),
    ((B.1 23 (hs 23 (by decide))).2.1.trans hn23),
    (by rw [(B.1 23 (hs 23 (by decide))).2.2.2.1, hi23]; rfl),
    (by rw [(B.1 99 (hs 99 (by decide))).2.2.2.2.1]; exact hr24),
    ((B.1 24 (hs 24 (by decide))).1.trans hk24),
    ((B.1 24 (hs 24 (by decide))).2.1.trans hn24),
    (by rw [(B.1 24 (hs 24 (by decide))).2.2.1, hi24]; rfl),
    (by rw [(B.1 99 (hs 99 (by decide))).2.2.2.2.1]; exact hr30),
    ((B.1 30 (hs 30 (by decide))).1.trans hk30),
    ((B.1 30 (hs 30 (by decide))).2.1.trans hn30),
    (by rw [(B.1 99 (hs 99 (by decide))).2.2.2.2.1]; exact hr31),
    ((B.1 31 (hs 31 (by decide))).1.trans hk31),
    ((B.1 31 (hs 31 (by decide))).2.1.trans hn31),
    (by rw [(B.1 99 (hs 99 (by decide))).2.2.2.2.1]; exact hr32),
    ((B.1 32 (hs 32 (by decide))).1.trans hk32),
    ((B.1 32 (hs 32 (by decide))).2.1.trans hn32),
    (by rw [(B.1 99 (hs 99 (by decide))).2.2.2.2.1]; exact hr33),
    ((B.1 33 (hs 33 (by decide))).1.trans hk33),
    ((B.1 33 (hs 33 (by decide))).2.1.trans hn33),
    (fun a b ha hb => B.2.1 a b (hs a (List.mem_cons_of_mem _ ha)) (hs b (List.mem_cons_of_mem _ hb)))⟩
theorem M_fin {σ0 σ : MM} {t : Nat} {q : Nat → Nat} {τ : MM} {s : List Nat} (B : NB σ0 σ q τ s) (hs : ∀ i, i ∈ 99 :: slM → i ∈ s) (R : RepM t q (S0 0) σ) {k : MM → Prop} (hk : ∀ q σ1, RepM t q (S0 60) σ1 → (∀ b, mK σ0 b ≠ 0 → agr σ0 σ1 b) → (∀ i, i ∈ slM → mK σ0 (q i) = 0) → k σ1) : ∃ nn, wX4_init_222 k t nn 0 σ := by
  refine ⟨61, M_init222 (q := q) (σ0 := σ) ?_ 60 0 σ rfl R (fun b _ => agr_refl σ b)⟩
  intro σ1 R1 F1
  exact hk q σ1 R1 (fun b hb => agr_tr (B.2.2 b hb) (F1 b (NB_old B (hs 1 (by decide)) hb))) (fun i hi => (B.1 i (hs i (List.mem_cons_of_mem _ hi))).2.2.2.2.2.1)
theorem M_init {σ0 : MM} {t : Nat} (ht : mK σ0 t = 0) {k : MM → Prop} (hk : ∀ q σ1, RepM t q (S0 60) σ1 → (∀ b, mK σ0 b ≠ 0 → agr σ0 σ1 b) → (∀ i, i ∈ slM → mK σ0 (q i) = 0) → k σ1) : wX4_init t (sN σ0 t 5 0) k := by
  unfold wX4_init
  have B := NB_new (i := 99) (n := 0) (NB_0 σ0 σ0 (fun _ => 0)) ht (by decide) (show 5 ≠ 0 by decide)
  intro a1 ha1 σ2 e2
  replace B := NB_new (i := 1) (n := 60) B ha1 (by decide) (show 6 ≠ 0 by decide)
  rw [← e2] at B
  refine ⟨(B.1 99 (by decide)).1, ?_⟩
  intro σ5 e5
  replace B := NB_R (i := 99) (k := 1) (v := some a1) B (by decide)
  replace B := nb_eq B e5
  intro a6 ha6 σ7 e7
  replace B := NB_new (i := 3) (n := 40) B ha6 (by decide) (show 6 ≠ 0 by decide)
  rw [← e7] at B
  intro σ9 e9
  replace B := NB_R (i := 99) (k := 3) (v := some a6) B (by decide)
  replace B := nb_eq B e9
  intro a10 ha10 σ11 e11
  replace B := NB_new (i := 4) (n := 40) B ha10 (by decide) (show 7 ≠ 0 by decide)
  rw [← e11] at B
  intro σ13 e13
  replace B := NB_R (i := 99) (k := 4) (v := some a10) B (by decide)
  replace B := nb_eq B e13
  intro a14 ha14 σ15 e15
  replace B := NB_new (i := 6) (n := 30) B ha14 (by decide) (show 6 ≠ 0 by decide)
  rw [← e15] at B
  intro σ17 e17
  replace B := NB_R (i := 99) (k := 6) (v := some a14) B (by decide)
  replace B := nb_eq B e17
  intro a18 ha18 σ19 e19
  replace B := NB_new (i := 7) (n := 40) B ha18 (by decide) (show 6 ≠ 0 by decide)
  rw [← e19] at B
  intro σ21 e21
  replace B := NB_R (i := 99) (k := 7) (v := some a18) B (by decide)
  replace B := nb_eq B e21
  intro a22 ha22 σ23 e23
  replace B := NB_new (i := 9) (n := 80) B ha22 (by decide) (show 6 ≠ 0 by decide)
  rw [← e23] at B
  intro σ25 e25
  replace B := NB_R (i := 99) (k := 9) (v := some a22) B (by decide)
  replace B := nb_eq B e25
  intro a26 ha26 σ27 e27
  replace B := NB_new (i := 10) (n := 80) B ha26 (by decide) (show 6 ≠ 0 by decide)
  rw [← e27] at B
  intro σ29 e29
  replace B := NB_R (i := 99) (k := 10) (v := some a26) B (by decide)
  replace B := nb_eq B e29
  intro a30 ha30 σ31 e31
  replace B := NB_new (i := 11) (n := 80) B ha30 (by decide) (show 6 ≠ 0 by decide)
  rw [← e31] at B
  intro σ33 e33
  replace B := NB_R (i := 99) (k := 11) (v := some a30) B (by decide)
  replace B := nb_eq B e33
  intro a34 ha34 σ35 e35
  replace B := NB_new (i := 12) (n := 160) B ha34 (by decide) (show 7 ≠ 0 by decide)
  rw [← e35] at B
  intro σ37 e37
  replace B := NB_R (i := 99) (k := 12) (v := some a34) B (by decide)
  replace B := nb_eq B e37
  intro a38 ha38 σ39 e39
  replace B := NB_new (i := 13) (n := 160) B ha38 (by decide) (show 6 ≠ 0 by decide)
  rw [← e39] at B
  intro σ41 e41
  replace B := NB_R (i := 99) (k := 13) (v := some a38) B (by decide)
  replace B := nb_eq B e41
  intro a42 ha42 σ43 e43
  replace B := NB_new (i := 14) (n := 160) B ha42 (by decide) (show 6 ≠ 0 by decide)
  rw [← e43] at B
  intro σ45 e45
  replace B := NB_R (i := 99) (k := 14) (v := some a42) B (by decide)
  replace B := nb_eq B e45
  intro a46 ha46 σ47 e47
  replace B := NB_new (i := 15) (n := 160) B ha46 (by decide) (show 6 ≠ 0 by decide)
  rw [← e47] at B
  intro σ49 e49
  replace B := NB_R (i := 99) (k := 15) (v := some a46) B (by decide)
  replace B := nb_eq B e49
  intro a50 ha50 σ51 e51
  replace B := NB_new (i := 16) (n := 160) B ha50 (by decide) (show 6 ≠ 0 by decide)
  rw [← e51] at B
  intro σ53 e53
  replace B := NB_R (i := 99) (k := 16) (v := some a50) B (by decide)
  replace B := nb_eq B e53
  intro a54 ha54 σ55 e55
  replace B := NB_new (i := 17) (n := 160) B ha54 (by decide) (show 6 ≠ 0 by decide)
  rw [← e55] at B
  intro σ57 e57
  replace B := NB_R (i := 99) (k := 17) (v := some a54) B (by decide)
  replace B := nb_eq B e57
  intro a58 ha58 σ59 e59
  replace B := NB_new (i := 19) (n := 40) B ha58 (by decide) (show 6 ≠ 0 by decide)
  rw [← e59] at B
  intro σ61 e61
  replace B := NB_R (i := 99) (k := 19) (v := some a58) B (by decide)
  replace B := nb_eq B e61
  intro a62 ha62 σ63 e63
  replace B := NB_new (i := 20) (n := 40) B ha62 (by decide) (show 6 ≠ 0 by decide)
  rw [← e63] at B
  intro σ65 e65
  replace B := NB_R (i := 99) (k := 20) (v := some a62) B (by decide)
  replace B := nb_eq B e65
  intro a66 ha66 σ67 e67
  replace B := NB_new (i := 21) (n := 40) B ha66 (by decide) (show 6 ≠ 0 by decide)
  rw [← e67] at B
  intro σ69 e69
  replace B := NB_R (i := 99) (k := 21) (v := some a66) B (by decide)
  replace B := nb_eq B e69
  intro a70 ha70 σ71 e71
  replace B := NB_new (i := 22) (n := 40) B ha70 (by decide) (show 7 ≠ 0 by decide)
  rw [← e71] at B
  intro σ73 e73
  replace B := NB_R (i := 99) (k := 22) (v := some a70) B (by decide)
  replace B := nb_eq B e73
  intro a74 ha74 σ75 e75
  replace B := NB_new (i := 23) (n := 40) B ha74 (by decide) (show 7 ≠ 0 by decide)
  rw [← e75] at B
  intro σ77 e77
  replace B := NB_R (i := 99) (k := 23) (v := some a74) B (by decide)
  replace B := nb_eq B e77
  intro a78 ha78 σ79 e79
  replace B := NB_new (i := 24) (n := 40) B ha78 (by decide) (show 8 ≠ 0 by decide)
  rw [← e79] at B
  intro σ81 e81
  replace B := NB_R (i := 99) (k := 24) (v := some a78) B (by decide)
  replace B := nb_eq B e81
  intro σ82 e82
  replace B := NB_I (i := 99) (k := 26) (v := 500) B (by decide)
  replace B := nb_eq B e82
  intro σ83 e83
  replace B := NB_I (i := 99) (k := 27) (v := 200) B (by decide)
  replace B := nb_eq B e83
  intro a84 ha84 σ85 e85
  replace B := NB_new (i := 30) (n := 160) B ha84 (by decide) (show 6 ≠ 0 by decide)
  rw [← e85] at B
  intro σ87 e87
  replace B := NB_R (i := 99) (k := 30) (v := some a84) B (by decide)
  replace B := nb_eq B e87
  intro a88 ha88 σ89 e89
  replace B := NB_new (i := 31) (n := 160) B ha88 (by decide) (show 6 ≠ 0 by decide)
  rw [← e89] at B
  intro σ91 e91
  replace B := NB_R (i := 99) (k := 31) (v := some a88) B (by decide)
  replace B := nb_eq B e91
  intro a92 ha92 σ93 e93
  replace B := NB_new (i := 32) (n := 160) B ha92 (by decide) (show 6 ≠ 0 by decide)
  rw [← e93] at B
  intro σ95 e95
  replace B := NB_R (i := 99) (k := 32) (v := some a92) B (by decide)
  replace B := nb_eq B e95
  intro a96 ha96 σ97 e97
  replace B := NB_new (i := 33) (n := 160) B ha96 (by decide) (show 8 ≠ 0 by decide)
  rw [← e97] at B
  intro σ99 e99
  replace B := NB_R (i := 99) (k := 33) (v := some a96) B (by decide)
  replace B := nb_eq B e99
  exact M_fin B (by decide) (RepM_of_NB B (by decide) rfl rfl rfl rfl rfl rfl rfl rfl rfl rfl rfl rfl rfl rfl rfl rfl rfl rfl rfl rfl rfl rfl rfl rfl rfl rfl rfl rfl rfl rfl rfl rfl rfl rfl rfl rfl rfl rfl rfl rfl rfl rfl rfl rfl rfl rfl rfl rfl rfl rfl rfl rfl rfl rfl rfl rfl rfl rfl rfl rfl rfl rfl rfl rfl rfl rfl rfl rfl rfl rfl rfl rfl rfl rfl rfl rfl rfl rfl rfl rfl rfl rfl rfl rfl rfl rfl rfl rfl rfl rfl rfl rfl rfl rfl rfl rfl rfl rfl rfl rfl) hk
theorem NB_scheme {σ0 σ τ : MM} {q : Nat → Nat} {s : List Nat} {a i i2 : Nat} (B : NB σ0 σ q τ s) (hi : i ∈ s) (hqa : q i = a) (hK : mK τ i = 3) (h2 : i2 ∉ s) {x y : Int32} (hx : (if 40 < x then 40 else x) = y) {k : MM → Prop} (hk : ∀ b σ1, NB σ0 σ1 (va_up q i2 b) (sI (sI (sR (sN τ i2 6 40) i 0 (some b)) i 2 0) i 1 y) (i2 :: s) → k σ1) : wX2_init a x σ k := by
  subst hqa
  have hne : i ≠ i2 := fun e => h2 (by rw [← e]; exact hi)
  unfold wX2_init
  intro b hb σ2 e2
  subst e2
  have B2 := NB_new (i := i2) (n := 40) B hb h2 (show 6 ≠ 0 by decide)
  have e : va_up q i2 b i = q i := va_up_ne _ _ hne
  have h3 := NB_R (i := i) (k := 0) (v := some b) B2 (List.mem_cons_of_mem _ hi)
  rw [e] at h3
  have h4 := NB_I (i := i) (k := 2) (v := 0) h3 (List.mem_cons_of_mem _ hi)
  rw [e] at h4
  have h5 := NB_I (i := i) (k := 1) (v := y) h4 (List.mem_cons_of_mem _ hi)
  rw [e] at h5
  refine ⟨?_, ?_⟩
  · have := (B2.1 i (List.mem_cons_of_mem _ hi)).1
    rw [e, mK_sN τ, if_neg hne, hK] at this
    exact this
  · intro σ5 e5 σ6 e6 σ7 e7
    rw [hx] at e7
    rw [e7, e6, e5]
    exact hk b _ h5
theorem RepC_of_NB {σ0 σ : MM} {u : Nat} {q : Nat → Nat} {τ : MM} {s : List Nat} (B : NB σ0 σ q τ s) (hs : ∀ i, i ∈ 99 :: slC → i ∈ s) (hq : q 99 = u)
    (hK : mK τ 99 = 4) (hr0 : mR τ 99 0 = some (q 0)) (hr1 : mR τ 99 1 = some (q 1)) (hr2 : mR τ 99 2 = some (q 2)) (hr3 : mR τ 99 3 = some (q 3)) (hr4 : mR τ 99 4 = some (q 4)) (hr5 : mR τ 99 5 = some (q 5)) (hr7 : mR τ 99 7 = some (q 7)) (hr11 : mR τ 99 11 = some (q 11)) (hnA : mI τ 99 6 = 0) (hnR : mI τ 99 8 = 0) (hle : mI τ 99 9 = 500) (hga : mI τ 99 10 = 200) (hk0 : mK τ 0 = 3) (ha0 : mR τ 0 0 = some (q 20)) (hm0 : mI τ 0 1 = 40) (hs0 : mI τ 0 2 = 0) (hk20 : mK τ 20 = 6) (hn20 : mN τ 20 = 40) (hi20 : mI τ 20 = fun _ => 0) (hk1 : mK τ 1 = 3) (ha1 : mR τ 1 0 = some (q 21)) (hm1 : mI τ 1 1 = 30) (hs1 : mI τ 1 2 = 0) (hk21 : mK τ 21 = 6) (hn21 : mN τ 21 = 40) (hi21 : mI τ 21 = fun _ => 0) (hk2 : mK τ 2 = 7) (hn2 : mN τ 2 = 40) (hi2 : mL τ 2 = fun _ => 0) (hk3 : mK τ 3 = 7) (hn3 : mN τ 3 = 40) (hi3 : mL τ 3 = fun _ => 0) (hk4 : mK τ 4 = 6) (hn4 : mN τ 4 = 60) (hi4 : mI τ 4 = fun _ => 0) (hk5 : mK τ 5 = 9) (hn5 : mN τ 5 = 160) (hi5 : mR τ 5 = fun _ => none) (hk7 : mK τ 7 = 10) (hn7 : mN τ 7 = 40) (hi7 : mR τ 7 = fun _ => none) (hk11 : mK τ 11 = 6) (hn11 : mN τ 11 = 40) : RepC u q (fun _ => 0) (fun _ => 0) (S0 0) (fun _ => 0) σ := by
  subst hq
  exact ⟨(by rw [(B.1 99 (hs 99 (by decide))).1, hK]),
    (by rw [(B.1 99 (hs 99 (by decide))).2.2.2.2.1, hr0]),
    (by rw [(B.1 99 (hs 99 (by decide))).2.2.2.2.1, hr1]),
    (by rw [(B.1 99 (hs 99 (by decide))).2.2.2.2.1, hr2]),
    (by rw [(B.1 99 (hs 99 (by decide))).2.2.2.2.1, hr3]),
    (by rw [(B.1 99 (hs 99 (by decide))).2.2.2.2.1, hr4]),
    (by rw [(B.1 99 (hs 99 (by decide))).2.2.2.2.1, hr5]),
    (by rw [(B.1 99 (hs 99 (by decide))).2.2.2.2.1, hr7]),
    (by rw [(B.1 99 (hs 99 (by decide))).2.2.2.2.1, hr11]),
    (by rw [(B.1 99 (hs 99 (by decide))).2.2.1, hnA]; rfl),
    (by rw [(B.1 99 (hs 99 (by decide))).2.2.1, hnR]; rfl),
    (by rw [(B.1 99 (hs 99 (by decide))).2.2.1, hle]; rfl),
    (by rw [(B.1 99 (hs 99 (by decide))).2.2.1, hga]; rfl),
    (by rw [(B.1 0 (hs 0 (by decide))).1, hk0]),
    (by rw [(B.1 0 (hs 0 (by decide))).2.2.2.2.1, ha0]),
    (by rw [(B.1 0 (hs 0 (by decide))).2.2.1, hm0]),
    (by rw [(B.1 0 (hs 0 (by decide))).2.2.1, hs0]; rfl),
    (by rw [(B.1 20 (hs 20 (by decide))).1, hk20]),
    (by rw [(B.1 20 (hs 20 (by decide))).2.1, hn20]),
    (by rw [(B.1 20 (hs 20 (by decide))).2.2.1, hi20]; rfl),
    (by rw [(B.1 1 (hs 1 (by decide))).1, hk1]),
    (by rw [(B.1 1 (hs 1 (by decide))).2.2.2.2.1, ha1]),
    (by rw [(B.1 1 (hs 1 (by decide))).2.2.1, hm1]),
    (by rw [(B.1 1 (hs 1 (by decide))).2.2.1, hs1]; rfl),
    (by rw [(B.1 21 (hs 21 (by decide))).1, hk21]),
    (by rw [(B.1 21 (hs 21 (by decide))).2.1, hn21]),
    (by rw [(B.1 21 (hs 21 (by decide))).2.2.1, hi21]; rfl),
    (by rw [(B.1 2 (hs 2 (by decide))).1, hk2]),
    (by rw [(B.1 2 (hs 2 (by decide))).2.1, hn2]),
    (by rw [(B.1 2 (hs 2 (by decide))).2.2.2.1, hi2]; rfl),
    (by rw [(B.1 3 (hs 3 (by decide))).1, hk3]),
    (by rw [(B.1 3 (hs 3 (by decide))).2.1, hn3]),
    (by rw [(B.1 3 (hs 3 (by decide))).2.2.2.1, hi3]; rfl),
    (by rw [(B.1 4 (hs 4 (by decide))).1, hk4]),
    (by rw [(B.1 4 (hs 4 (by decide))).2.1, hn4]),
    (by rw [(B.1 4 (hs 4 (by decide))).2.2.1, hi4]; rfl),
    (by rw [(B.1 5 (hs 5 (by decide))).1, hk5]),
    (by rw [(B.1 5 (hs 5 (by decide))).2.1, hn5]),
    (fun j => by rw [(B.1 5 (hs 5 (by decide))).2.2.2.2.1, hi5, if_neg (by rw [S0_prs]; decide)]),
    (by rw [(B.1 7 (hs 7 (by decide))).1, hk7]),
    (by rw [(B.1 7 (hs 7 (by decide))).2.1, hn7]),
    (fun j => by rw [(B.1 7 (hs 7 (by decide))).2.2.2.2.1, hi7]; exact (if_neg (Nat.not_lt_zero j)).symm),
    (by rw [(B.1 11 (hs 11 (by decide))).1, hk11]),
    (by rw [(B.1 11 (hs 11 (by decide))).2.1, hn11]),
    (fun j hj => by rw [S0_prs] at hj; cases hj),
    (fun j hj => by rw [S0_prs] at hj; cases hj),
    (fun j hj => by rw [S0_prs] at hj; cases hj),
    (fun j hj => by rw [S0_prs] at hj; cases hj),
    (fun j hj => by rw [S0_prs] at hj; cases hj),
    (fun j hj => by rw [S0_prs] at hj; cases hj),
    (fun j hj => by rw [S0_prs] at hj; cases hj),
    (fun j hj => by rw [S0_prs] at hj; cases hj),
    (fun j hj => by rw [S0_prs] at hj; cases hj),
    (fun j hj => by rw [S0_prs] at hj; cases hj),
    (fun j hj => absurd hj (Nat.not_lt_zero j)),
    (fun j hj => absurd hj (Nat.not_lt_zero j)),
    (fun j hj => absurd hj (Nat.not_lt_zero j)),
    (fun j hj => absurd hj (Nat.not_lt_zero j)),
    (fun j hj => absurd hj (Nat.not_lt_zero j)),
    (fun j hj => absurd hj (Nat.not_lt_zero j)),
    (fun j hj => absurd hj (Nat.not_lt_zero j)),
    (fun a b ha hb => B.2.1 a b (hs a (List.mem_cons_of_mem _ ha)) (hs b (List.mem_cons_of_mem _ hb))),
    (fun a b ha => by rw [S0_prs] at ha; cases ha),
    (fun a b ha => absurd ha (Nat.not_lt_zero a))⟩
theorem C_init107 {u : Nat} {q : Nat → Nat} {σ0 : MM} {k : MM → Prop} (hk : ∀ σ1, RepC u q (fun _ => 0) (fun _ => 0) (S0 60) (fun _ => 0) σ1 → (∀ b, b ≠ q 4 → agr σ0 σ1 b) → k σ1) : ∀ d n σ, n + d = 60 → RepC u q (fun _ => 0) (fun _ => 0) (S0 n) (fun _ => 0) σ → (∀ b, b ≠ q 4 → agr σ0 σ b) → wX3_init_107 k u (d + 1) (nI n) σ := by
  intro d
  induction d with
  | zero =>
    intro n σ hn h f
    have : n = 60 := by omega
    subst this
    unfold wX3_init_107
    rw [RepC_r4 h]
    simp only [forall_eq]
    refine ⟨RepC_K h, q 4, rfl, RepC_k4 h, ?_⟩
    rw [RepC_n4 h]
    exact ⟨fun _ => hk σ h f, fun e => absurd (show nI 60 ≤ nI 60 by decide) e⟩
  | succ d ih =>
    intro n σ hn h f
    unfold wX3_init_107
    rw [RepC_r4 h]
    simp only [forall_eq]
    refine ⟨RepC_K h, q 4, rfl, RepC_k4 h, ?_⟩
    rw [RepC_n4 h]
    refine ⟨fun e => absurd e (nI_ge (by omega) (by decide)), fun _ => ⟨q 4, rfl, RepC_k4 h, by rw [RepC_n4 h]; exact vp_in_nI (show n < 60 by omega) (by decide), ?_⟩⟩
    rw [ix_nI (show n < 2 ^ 31 by omega), nI_1]
    exact ih (n + 1) _ (by omega) (RepC_q4w h n (nI n)) (fun b hb => agr_tr (f b hb) (agr_sI hb))
theorem C_fin {σ0 σ : MM} {u : Nat} {q : Nat → Nat} {τ : MM} {s : List Nat} (B : NB σ0 σ q τ s) (hs : ∀ i, i ∈ 99 :: slC → i ∈ s) (R : RepC u q (fun _ => 0) (fun _ => 0) (S0 0) (fun _ => 0) σ) {k : MM → Prop} (hk : ∀ q ia ra σ1, RepC u q ia ra (S0 60) (setS (S0 60)) σ1 → (∀ b, mK σ0 b ≠ 0 → agr σ0 σ1 b) → (∀ i, i ∈ slC → mK σ0 (q i) = 0) → k σ1) : ∃ nn, wX3_init_107 k u nn 0 σ := by
  refine ⟨61, C_init107 (q := q) (σ0 := σ) ?_ 60 0 σ rfl R (fun b _ => agr_refl σ b)⟩
  intro σ1 R1 F1
  refine hk q _ _ σ1 (RepC_sf R1 (fun j hj => ?_)) (fun b hb => agr_tr (B.2.2 b hb) (F1 b (NB_old B (hs 4 (by decide)) hb))) (fun i hi => (B.1 i (hs i (List.mem_cons_of_mem _ hi))).2.2.2.2.2.1)
  rw [S0_prs] at hj; cases hj
theorem C_init {σ0 : MM} {u : Nat} (ht : mK σ0 u = 0) {k : MM → Prop} (hk : ∀ q ia ra σ1, RepC u q ia ra (S0 60) (setS (S0 60)) σ1 → (∀ b, mK σ0 b ≠ 0 → agr σ0 σ1 b) → (∀ i, i ∈ slC → mK σ0 (q i) = 0) → k σ1) : wX3_init u (sN σ0 u 4 0) k := by
  unfold wX3_init
  have B := NB_new (i := 99) (n := 0) (NB_0 σ0 σ0 (fun _ => 0)) ht (by decide) (show 4 ≠ 0 by decide)
  intro a1 ha1 σ2 e2
  replace B := NB_new (i := 0) (n := 0) B ha1 (by decide) (show 3 ≠ 0 by decide)
  rw [← e2] at B
  refine NB_scheme (i := 0) (i2 := 20) (x := 40) (y := 40) B (by decide) rfl rfl (by decide) (by decide) (fun b0 σ4 B => ?_)
  refine ⟨(B.1 99 (by decide)).1, ?_⟩
  intro σ7 e7
  replace B := NB_R (i := 99) (k := 0) (v := some a1) B (by decide)
  replace B := nb_eq B e7
  intro a8 ha8 σ9 e9
  replace B := NB_new (i := 1) (n := 0) B ha8 (by decide) (show 3 ≠ 0 by decide)
  rw [← e9] at B
  refine NB_scheme (i := 1) (i2 := 21) (x := 30) (y := 30) B (by decide) rfl rfl (by decide) (by decide) (fun b1 σ11 B => ?_)
  refine ⟨(B.1 99 (by decide)).1, ?_⟩
  intro σ14 e14
  replace B := NB_R (i := 99) (k := 1) (v := some a8) B (by decide)
  replace B := nb_eq B e14
  intro a15 ha15 σ16 e16
  replace B := NB_new (i := 2) (n := 40) B ha15 (by decide) (show 7 ≠ 0 by decide)
  rw [← e16] at B
  intro σ18 e18
  replace B := NB_R (i := 99) (k := 2) (v := some a15) B (by decide)
  replace B := nb_eq B e18
  intro a19 ha19 σ20 e20
  replace B := NB_new (i := 3) (n := 40) B ha19 (by decide) (show 7 ≠ 0 by decide)
  rw [← e20] at B
  intro σ22 e22
  replace B := NB_R (i := 99) (k := 3) (v := some a19) B (by decide)
  replace B := nb_eq B e22
  intro a23 ha23 σ24 e24
  replace B := NB_new (i := 4) (n := 60) B ha23 (by decide) (show 6 ≠ 0 by decide)
  rw [← e24] at B
  intro σ26 e26
  replace B := NB_R (i := 99) (k := 4) (v := some a23) B (by decide)
  replace B := nb_eq B e26
  intro a27 ha27 σ28 e28
  replace B := NB_new (i := 5) (n := 160) B ha27 (by decide) (show 9 ≠ 0 by decide)
  rw [← e28] at B
  intro σ30 e30
  replace B := NB_R (i := 99) (k := 5) (v := some a27) B (by decide)
  replace B := nb_eq B e30
  intro σ31 e31
  replace B := NB_I (i := 99) (k := 6) (v := 0) B (by decide)
  replace B := nb_eq B e31
  intro a32 ha32 σ33 e33
  replace B := NB_new (i := 7) (n := 40) B ha32 (by decide) (show 10 ≠ 0 by decide)
  rw [← e33] at B
  intro σ35 e35
  replace B := NB_R (i := 99) (k := 7) (v := some a32) B (by decide)
  replace B := nb_eq B e35
  intro σ36 e36
  replace B := NB_I (i := 99) (k := 8) (v := 0) B (by decide)
  replace B := nb_eq B e36
  intro σ37 e37
  replace B := NB_I (i := 99) (k := 9) (v := 500) B (by decide)
  replace B := nb_eq B e37
  intro σ38 e38
  replace B := NB_I (i := 99) (k := 10) (v := 200) B (by decide)
  replace B := nb_eq B e38
  intro a39 ha39 σ40 e40
  replace B := NB_new (i := 11) (n := 40) B ha39 (by decide) (show 6 ≠ 0 by decide)
  rw [← e40] at B
  intro σ42 e42
  replace B := NB_R (i := 99) (k := 11) (v := some a39) B (by decide)
  replace B := nb_eq B e42
  exact C_fin B (by decide) (RepC_of_NB B (by decide) rfl rfl rfl rfl rfl rfl rfl rfl rfl rfl rfl rfl rfl rfl rfl rfl rfl rfl rfl rfl rfl rfl rfl rfl rfl rfl rfl rfl rfl rfl rfl rfl rfl rfl rfl rfl rfl rfl rfl rfl rfl rfl rfl rfl rfl) hk
