theorem kC {u : Nat} {q ia ra : Nat → Nat} {S : MM} {sf : Nat → Int64} {σ : MM} (h : RepC u q ia ra S sf σ) : ∀ i, i ∈ slC → mK σ (q i) ≠ 5 ∧ mK σ (q i) ≠ 0 := by
  intro i hi
  simp only [slC, List.mem_cons, List.not_mem_nil, or_false] at hi
  rcases hi with rfl | rfl | rfl | rfl | rfl | rfl | rfl | rfl | rfl | rfl
  · rw [RepC_k0 h]; decide
  · rw [RepC_k1 h]; decide
  · rw [RepC_k2 h]; decide
  · rw [RepC_k3 h]; decide
  · rw [RepC_k4 h]; decide
  · rw [RepC_k5 h]; decide
  · rw [RepC_k7 h]; decide
  · rw [RepC_k11 h]; decide
  · rw [RepC_k20 h]; decide
  · rw [RepC_k21 h]; decide
theorem kM {t : Nat} {q : Nat → Nat} {S σ : MM} (h : RepM t q S σ) : ∀ i, i ∈ slM → 6 ≤ mK σ (q i) := by
  intro i hi
  simp only [slM, List.mem_cons, List.not_mem_nil, or_false] at hi
  rcases hi with rfl | rfl | rfl | rfl | rfl | rfl | rfl | rfl | rfl | rfl | rfl | rfl | rfl | rfl | rfl | rfl | rfl | rfl | rfl | rfl | rfl | rfl | rfl | rfl
  · rw [RepM_k1 h]; decide
  · rw [RepM_k3 h]; decide
  · rw [RepM_k4 h]; decide
  · rw [RepM_k6 h]; decide
  · rw [RepM_k7 h]; decide
  · rw [RepM_k9 h]; decide
  · rw [RepM_k10 h]; decide
  · rw [RepM_k11 h]; decide
  · rw [RepM_k12 h]; decide
  · rw [RepM_k13 h]; decide
  · rw [RepM_k14 h]; decide
  · rw [RepM_k15 h]; decide
  · rw [RepM_k16 h]; decide
  · rw [RepM_k17 h]; decide
  · rw [RepM_k19 h]; decide
  · rw [RepM_k20 h]; decide
  · rw [RepM_k21 h]; decide
  · rw [RepM_k22 h]; decide
  · rw [RepM_k23 h]; decide
  · rw [RepM_k24 h]; decide
  · rw [RepM_k30 h]; decide
  · rw [RepM_k31 h]; decide
  · rw [RepM_k32 h]; decide
  · rw [RepM_k33 h]; decide
def apart (q qM : Nat → Nat) : Prop := ∀ i, i ∈ slC → ∀ j, j ∈ slM → q i ≠ qM j
theorem RepM_FrC {u t : Nat} {q qM ia ra : Nat → Nat} {S S' : MM} {sf : Nat → Int64} {σ σ1 : MM} (hM : RepM t qM S σ) (hC : RepC u q ia ra S' sf σ) (hap : apart q qM) (f : FrC q σ σ1) : RepM t qM S σ1 :=
  RepM_agr hM (f t (by rw [RepM_K hM]; decide) (fun i hi e => (kC hC i hi).1 (by rw [← e]; exact RepM_K hM))) (fun j hj => f (qM j) (by have := kM hM j hj; omega) (fun i hi e => hap i hi j hj e.symm))
theorem RepC_FrM {u t : Nat} {q qM ia ra : Nat → Nat} {S S' : MM} {sf : Nat → Int64} {σ σ1 : MM} (hC : RepC u q ia ra S sf σ) (hM : RepM t qM S' σ) (hap : apart q qM) (f : FrM qM σ σ1) : RepC u q ia ra S sf σ1 :=
  RepC_agr hC (f u (by rw [RepC_K hC]; decide) (fun j hj e => by have := kM hM j hj; rw [← e, RepC_K hC] at this; omega))
    (fun i hi => f (q i) (kC hC i hi).1 (fun j hj => hap i hi j hj))
    (fun i hi => f (ia i) (by rw [RepC_tK hC i hi]; decide) (fun j hj e => by have := kM hM j hj; rw [← e, RepC_tK hC i hi] at this; omega))
    (fun i hi => f (ra i) (by rw [RepC_uK hC i hi]; decide) (fun j hj e => by have := kM hM j hj; rw [← e, RepC_uK hC i hi] at this; omega))
/-- class and reference hold one office -/
def Rel (u t : Nat) (q qM : Nat → Nat) (σ : MM) : Prop := ∃ (S : MM) (ia ra : Nat → Nat), RepC u q ia ra S (setS S) σ ∧ RepM t qM S σ ∧ Inv S ∧ apart q qM
theorem Rel_u {u t : Nat} {q qM : Nat → Nat} {σ : MM} (h : Rel u t q qM σ) : mK σ u = 4 := by obtain ⟨_, _, _, h, _⟩ := h; exact RepC_K h
section ST
variable {u t : Nat} {q qM : Nat → Nat} {σ : MM}
theorem S_code (h : Rel u t q qM σ) (x : Int32) : wX3_code u x σ (fun r1 σ1 => mK σ1 t = 5 ∧ wX4_code t x σ1 (fun r2 σ2 => r1 = r2 ∧ Rel u t q qM σ2)) := by
  obtain ⟨S, ia, ra, hC, hM, hI, hap⟩ := h
  refine C_code hC hI x _ (fun σ1 hC1 f1 => ?_)
  have hM1 := RepM_FrC hM hC hap f1
  rw [← set_code (S := S) x] at hC1
  exact ⟨RepM_K hM1, M_code hM1 hI x _ (fun σ2 hM2 f2 => ⟨rfl, (fCode S x).2, ia, ra, RepC_FrM hC1 hM1 hap f2, hM2, Inv_code hI x, hap⟩)⟩
theorem S_exclude (h : Rel u t q qM σ) (x y z : Int32) : wX3_exclude u x y z σ (fun r1 σ1 => mK σ1 t = 5 ∧ wX4_exclude t x y z σ1 (fun r2 σ2 => r1 = r2 ∧ Rel u t q qM σ2)) := by
  obtain ⟨S, ia, ra, hC, hM, hI, hap⟩ := h
  refine C_exclude hC hI x y z _ (fun σ1 hC1 f1 => ?_)
  have hM1 := RepM_FrC hM hC hap f1
  rw [← set_exclude (S := S) x y z] at hC1
  exact ⟨RepM_K hM1, M_exclude hM1 hI x y z _ (fun σ2 hM2 f2 => ⟨rfl, (fExclude S x y z).2, ia, ra, RepC_FrM hC1 hM1 hap f2, hM2, Inv_exclude hI x y z, hap⟩)⟩
theorem S_spell (h : Rel u t q qM σ) (x y : Int32) : wX3_spell u x y σ (fun r1 σ1 => mK σ1 t = 5 ∧ wX4_spell t x y σ1 (fun r2 σ2 => r1 = r2 ∧ Rel u t q qM σ2)) := by
  obtain ⟨S, ia, ra, hC, hM, hI, hap⟩ := h
  refine C_spell hC hI x y _ (fun σ1 hC1 f1 => ?_)
  have hM1 := RepM_FrC hM hC hap f1
  exact ⟨RepM_K hM1, M_spell hM1 x y _ (fun σ2 hM2 f2 => ⟨rfl, (fSpell S x y).2, ia, ra, RepC_FrM hC1 hM1 hap f2, hM2, Inv_spell hI x y, hap⟩)⟩
theorem S_other (h : Rel u t q qM σ) (x : Int32) : wX3_other u x σ (fun r1 σ1 => mK σ1 t = 5 ∧ wX4_other t x σ1 (fun r2 σ2 => r1 = r2 ∧ Rel u t q qM σ2)) := by
  obtain ⟨S, ia, ra, hC, hM, hI, hap⟩ := h
  refine C_other hC hI x _ (fun σ1 hC1 f1 => ?_)
  have hM1 := RepM_FrC hM hC hap f1
  rw [← set_other (S := S) x] at hC1
  exact ⟨RepM_K hM1, M_other hM1 hI x _ (fun σ2 hM2 f2 => ⟨rfl, (fOther S x).2, ia, ra, RepC_FrM hC1 hM1 hap f2, hM2, Inv_other hI x, hap⟩)⟩
theorem S_carry (h : Rel u t q qM σ) (x y z : Int32) : wX3_carry u x y z σ (fun r1 σ1 => mK σ1 t = 5 ∧ wX4_carry t x y z σ1 (fun r2 σ2 => r1 = r2 ∧ Rel u t q qM σ2)) := by
  obtain ⟨S, ia, ra, hC, hM, hI, hap⟩ := h
  refine C_carry hC hI x y z _ (fun σ1 hC1 f1 => ?_)
  have hM1 := RepM_FrC hM hC hap f1
  rw [← set_carry (S := S) x y z] at hC1
  exact ⟨RepM_K hM1, M_carry hM1 hI x y z _ (fun σ2 hM2 f2 => ⟨rfl, (fCarry S x y z).2, ia, ra, RepC_FrM hC1 hM1 hap f2, hM2, Inv_carry hI x y z, hap⟩)⟩
theorem S_answer (h : Rel u t q qM σ) (x y z : Int32) : wX3_answer u x y z σ (fun r1 σ1 => mK σ1 t = 5 ∧ wX4_answer t x y z σ1 (fun r2 σ2 => r1 = r2 ∧ Rel u t q qM σ2)) := by
  obtain ⟨S, ia, ra, hC, hM, hI, hap⟩ := h
  refine C_answer hC hI x y z _ (fun ia1 σ1 hC1 f1 => ?_)
  have hM1 := RepM_FrC hM hC hap f1
  exact ⟨RepM_K hM1, M_answer hM1 hI x y z _ (fun σ2 hM2 f2 => ⟨rfl, (fAnswer S x y z).2, ia1, ra, RepC_FrM hC1 hM1 hap f2, hM2, Inv_answer hI x y z, hap⟩)⟩
theorem S_put (h : Rel u t q qM σ) (x y : Int32) : wX3_put u x y σ (fun r1 σ1 => mK σ1 t = 5 ∧ wX4_put t x y σ1 (fun r2 σ2 => r1 = r2 ∧ Rel u t q qM σ2)) := by
  obtain ⟨S, ia, ra, hC, hM, hI, hap⟩ := h
  refine C_put hC hI x y _ (fun σ1 hC1 f1 => ?_)
  have hM1 := RepM_FrC hM hC hap f1
  exact ⟨RepM_K hM1, M_put hM1 hI x y _ (fun σ2 hM2 f2 => ⟨rfl, (fPut S x y).2, ia, ra, RepC_FrM hC1 hM1 hap f2, hM2, Inv_put hI x y, hap⟩)⟩
theorem S_set (h : Rel u t q qM σ) (x y : Int32) : wX3_set u x y σ (fun r1 σ1 => mK σ1 t = 5 ∧ wX4_set t x y σ1 (fun r2 σ2 => r1 = r2 ∧ Rel u t q qM σ2)) := by
  obtain ⟨S, ia, ra, hC, hM, hI, hap⟩ := h
  refine C_set hC x y _ ?_
  exact ⟨RepM_K hM, M_set hM hI x y _ ⟨rfl, S, ia, ra, hC, hM, hI, hap⟩⟩
theorem S_rule (h : Rel u t q qM σ) (x y z : Int32) : wX3_rule u x y z σ (fun r1 σ1 => mK σ1 t = 5 ∧ wX4_rule t x y z σ1 (fun r2 σ2 => r1 = r2 ∧ Rel u t q qM σ2)) := by
  obtain ⟨S, ia, ra, hC, hM, hI, hap⟩ := h
  refine C_rule hC hI x y z _ (fun ra1 σ1 hC1 f1 => ?_)
  have hM1 := RepM_FrC hM hC hap f1
  rw [← set_rule (S := S) x y z] at hC1
  exact ⟨RepM_K hM1, M_rule hM1 hI x y z _ (fun σ2 hM2 f2 => ⟨rfl, (fRule S x y z).2, ia, ra1, RepC_FrM hC1 hM1 hap f2, hM2, Inv_rule hI x y z, hap⟩)⟩
theorem S_with (h : Rel u t q qM σ) (x y z : Int32) : wX3_with u x y z σ (fun r1 σ1 => mK σ1 t = 5 ∧ wX4_with t x y z σ1 (fun r2 σ2 => r1 = r2 ∧ Rel u t q qM σ2)) := by
  obtain ⟨S, ia, ra, hC, hM, hI, hap⟩ := h
  refine C_with hC hI x y z _ (fun σ1 hC1 f1 => ?_)
  have hM1 := RepM_FrC hM hC hap f1
  rw [← set_with (S := S) x y z] at hC1
  exact ⟨RepM_K hM1, M_with hM1 hI x y z _ (fun σ2 hM2 f2 => ⟨rfl, (fWith S x y z).2, ia, ra, RepC_FrM hC1 hM1 hap f2, hM2, Inv_with hI x y z, hap⟩)⟩
theorem S_drop (h : Rel u t q qM σ) (x : Int32) : wX3_drop u x σ (fun r1 σ1 => mK σ1 t = 5 ∧ wX4_drop t x σ1 (fun r2 σ2 => r1 = r2 ∧ Rel u t q qM σ2)) := by
  obtain ⟨S, ia, ra, hC, hM, hI, hap⟩ := h
  refine C_drop hC hI x _ (fun σ1 hC1 f1 => ?_)
  have hM1 := RepM_FrC hM hC hap f1
  rw [← set_drop (S := S) x] at hC1
  exact ⟨RepM_K hM1, M_drop hM1 hI x _ (fun σ2 hM2 f2 => ⟨rfl, (fDrop S x).2, ia, ra, RepC_FrM hC1 hM1 hap f2, hM2, Inv_drop hI x, hap⟩)⟩
theorem S_holds (h : Rel u t q qM σ) (x y : Int32) : wX3_holds u x y σ (fun r1 σ1 => mK σ1 t = 5 ∧ wX4_holds t x y σ1 (fun r2 σ2 => r1 = r2 ∧ Rel u t q qM σ2)) := by
  obtain ⟨S, ia, ra, hC, hM, hI, hap⟩ := h
  refine C_holds hC hI x y _ ?_
  exact ⟨RepM_K hM, M_holds hM hI x y _ ⟨rfl, S, ia, ra, hC, hM, hI, hap⟩⟩
theorem S_ruled (h : Rel u t q qM σ) (x : Int32) : wX3_ruled u x σ (fun r1 σ1 => mK σ1 t = 5 ∧ wX4_ruled t x σ1 (fun r2 σ2 => r1 = r2 ∧ Rel u t q qM σ2)) := by
  obtain ⟨S, ia, ra, hC, hM, hI, hap⟩ := h
  refine C_ruled hC hI x _ ?_
  exact ⟨RepM_K hM, M_ruled hM hI x _ (fun σ2 hM2 f2 => ⟨rfl, S, ia, ra, RepC_FrM hC hM hap f2, hM2, hI, hap⟩)⟩
theorem S_quarrel (h : Rel u t q qM σ) (x : Int32) : wX3_quarrel u x σ (fun r1 σ1 => mK σ1 t = 5 ∧ wX4_quarrel t x σ1 (fun r2 σ2 => r1 = r2 ∧ Rel u t q qM σ2)) := by
  obtain ⟨S, ia, ra, hC, hM, hI, hap⟩ := h
  refine C_quarrel hC hI x _ ?_
  exact ⟨RepM_K hM, M_quarrel hM hI x _ ⟨rfl, S, ia, ra, hC, hM, hI, hap⟩⟩
theorem S_reach (h : Rel u t q qM σ) (x : Int32) : wX3_reach u x σ (fun r1 σ1 => mK σ1 t = 5 ∧ wX4_reach t x σ1 (fun r2 σ2 => r1 = r2 ∧ Rel u t q qM σ2)) := by
  obtain ⟨S, ia, ra, hC, hM, hI, hap⟩ := h
  refine C_reach hC hI x _ ?_
  exact ⟨RepM_K hM, M_reach hM hI x _ (fun σ2 hM2 f2 => ⟨rfl, S, ia, ra, RepC_FrM hC hM hap f2, hM2, hI, hap⟩)⟩
theorem S_gap (h : Rel u t q qM σ) (x y : Int32) : wX3_gap u x y σ (fun r1 σ1 => mK σ1 t = 5 ∧ wX4_gap t x y σ1 (fun r2 σ2 => r1 = r2 ∧ Rel u t q qM σ2)) := by
  obtain ⟨S, ia, ra, hC, hM, hI, hap⟩ := h
  refine C_gap hC x y _ (fun σ1 hC1 f1 => ?_)
  have hM1 := RepM_FrC hM hC hap f1
  rw [← set_gap (S := S) x y] at hC1
  exact ⟨RepM_K hM1, M_gap hM1 x y _ (fun σ2 hM2 f2 => ⟨rfl, (fGap S x y).2, ia, ra, RepC_FrM hC1 hM1 hap f2, hM2, Inv_gap hI x y, hap⟩)⟩
theorem S_likeness (h : Rel u t q qM σ) (x y : Int32) : wX3_likeness u x y σ (fun r1 σ1 => mK σ1 t = 5 ∧ wX4_likeness t x y σ1 (fun r2 σ2 => r1 = r2 ∧ Rel u t q qM σ2)) := by
  obtain ⟨S, ia, ra, hC, hM, hI, hap⟩ := h
  refine C_likeness hC x y _ ?_
  exact ⟨RepM_K hM, M_likeness hM hI x y _ ⟨rfl, S, ia, ra, hC, hM, hI, hap⟩⟩
theorem S_near (h : Rel u t q qM σ) (x y : Int32) : wX3_near u x y σ (fun r1 σ1 => mK σ1 t = 5 ∧ wX4_near t x y σ1 (fun r2 σ2 => r1 = r2 ∧ Rel u t q qM σ2)) := by
  obtain ⟨S, ia, ra, hC, hM, hI, hap⟩ := h
  refine C_near hC hI x y _ (fun σ1 hC1 f1 => ?_)
  have hM1 := RepM_FrC hM hC hap f1
  exact ⟨RepM_K hM1, M_near hM1 hI x y _ (fun σ2 hM2 f2 => ⟨rfl, S, ia, ra, RepC_FrM hC1 hM1 hap f2, hM2, hI, hap⟩)⟩
theorem S_liked (h : Rel u t q qM σ) (x : Int32) : wX3_liked u x σ (fun r1 σ1 => mK σ1 t = 5 ∧ wX4_liked t x σ1 (fun r2 σ2 => r1 = r2 ∧ Rel u t q qM σ2)) := by
  obtain ⟨S, ia, ra, hC, hM, hI, hap⟩ := h
  refine C_liked hC hI x _ (fun σ1 hC1 f1 => ?_)
  have hM1 := RepM_FrC hM hC hap f1
  exact ⟨RepM_K hM1, M_liked hM1 hI x _ (fun σ2 hM2 f2 => ⟨rfl, S, ia, ra, RepC_FrM hC1 hM1 hap f2, hM2, hI, hap⟩)⟩
theorem S_day (h : Rel u t q qM σ) : wX3_day u σ (fun r1 σ1 => mK σ1 t = 5 ∧ wX4_day t σ1 (fun r2 σ2 => r1 = r2 ∧ Rel u t q qM σ2)) := by
  obtain ⟨S, ia, ra, hC, hM, hI, hap⟩ := h
  refine C_day hC hI _ (fun σ1 hC1 f1 => ?_)
  have hM1 := RepM_FrC hM hC hap f1
  exact ⟨RepM_K hM1, M_day hM1 hI _ (fun σ2 hM2 f2 => ⟨rfl, (fDay S).2, ia, ra, RepC_FrM hC1 hM1 hap f2, hM2, Inv_day hI, hap⟩)⟩
theorem S_first (h : Rel u t q qM σ) : wX3_first u σ (fun r1 σ1 => mK σ1 t = 5 ∧ wX4_first t σ1 (fun r2 σ2 => r1 = r2 ∧ Rel u t q qM σ2)) := by
  obtain ⟨S, ia, ra, hC, hM, hI, hap⟩ := h
  refine C_first hC _ ?_
  exact ⟨RepM_K hM, M_first hM hI _ ⟨rfl, S, ia, ra, hC, hM, hI, hap⟩⟩
theorem S_settle (h : Rel u t q qM σ) (x y z : Int32) : wX3_settle u x y z σ (fun r1 σ1 => mK σ1 t = 5 ∧ wX4_settle t x y z σ1 (fun r2 σ2 => r1 = r2 ∧ Rel u t q qM σ2)) := by
  obtain ⟨S, ia, ra, hC, hM, hI, hap⟩ := h
  refine C_settle hC hI x y z _ (fun σ1 hC1 f1 => ?_)
  have hM1 := RepM_FrC hM hC hap f1
  exact ⟨RepM_K hM1, M_settle hM1 hI x y z _ (fun σ2 hM2 f2 => ⟨rfl, (fSettle S x y z).2, ia, ra, RepC_FrM hC1 hM1 hap f2, hM2, Inv_settle hI x y z, hap⟩)⟩
theorem S_recode (h : Rel u t q qM σ) : wX3_recode u σ (fun r1 σ1 => mK σ1 t = 5 ∧ wX4_recode t σ1 (fun r2 σ2 => r1 = r2 ∧ Rel u t q qM σ2)) := by
  obtain ⟨S, ia, ra, hC, hM, hI, hap⟩ := h
  refine C_recode hC hI _ (fun σ1 hC1 f1 => ?_)
  have hM1 := RepM_FrC hM hC hap f1
  exact ⟨RepM_K hM1, M_recode hM1 hI _ (fun σ2 hM2 f2 => ⟨rfl, (fRecode S).2, ia, ra, RepC_FrM hC1 hM1 hap f2, hM2, Inv_recode hI, hap⟩)⟩
theorem S_second (h : Rel u t q qM σ) (x y z : Int32) : wX3_second u x y z σ (fun r1 σ1 => mK σ1 t = 5 ∧ wX4_second t x y z σ1 (fun r2 σ2 => r1 = r2 ∧ Rel u t q qM σ2)) := by
  obtain ⟨S, ia, ra, hC, hM, hI, hap⟩ := h
  refine C_second hC hI x y z _ (fun σ1 hC1 f1 => ?_)
  have hM1 := RepM_FrC hM hC hap f1
  rw [← set_second (S := S) x y z] at hC1
  exact ⟨RepM_K hM1, M_second hM1 hI x y z _ (fun σ2 hM2 f2 => ⟨rfl, (fSecond S x y z).2, ia, ra, RepC_FrM hC1 hM1 hap f2, hM2, Inv_second hI x y z, hap⟩)⟩
theorem S_told (h : Rel u t q qM σ) (x y : Int32) : wX3_told u x y σ (fun r1 σ1 => mK σ1 t = 5 ∧ wX4_told t x y σ1 (fun r2 σ2 => r1 = r2 ∧ Rel u t q qM σ2)) := by
  obtain ⟨S, ia, ra, hC, hM, hI, hap⟩ := h
  refine C_told hC hI x y _ ?_
  exact ⟨RepM_K hM, M_told hM hI x y _ (fun σ2 hM2 f2 => ⟨rfl, S, ia, ra, RepC_FrM hC hM hap f2, hM2, hI, hap⟩)⟩
theorem S_coded (h : Rel u t q qM σ) (x : Int32) : wX3_coded u x σ (fun r1 σ1 => mK σ1 t = 5 ∧ wX4_coded t x σ1 (fun r2 σ2 => r1 = r2 ∧ Rel u t q qM σ2)) := by
  obtain ⟨S, ia, ra, hC, hM, hI, hap⟩ := h
  refine C_coded hC hI x _ ?_
  exact ⟨RepM_K hM, M_coded hM hI x _ ⟨rfl, S, ia, ra, hC, hM, hI, hap⟩⟩
theorem S_total (h : Rel u t q qM σ) (x y : Int32) : wX3_total u x y σ (fun r1 σ1 => mK σ1 t = 5 ∧ wX4_total t x y σ1 (fun r2 σ2 => r1 = r2 ∧ Rel u t q qM σ2)) := by
  obtain ⟨S, ia, ra, hC, hM, hI, hap⟩ := h
  refine C_total hC hI x y _ ?_
  exact ⟨RepM_K hM, M_total hM hI x y _ ⟨rfl, S, ia, ra, hC, hM, hI, hap⟩⟩
theorem S_agree (h : Rel u t q qM σ) (x : Int32) : wX3_agree u x σ (fun r1 σ1 => mK σ1 t = 5 ∧ wX4_agree t x σ1 (fun r2 σ2 => r1 = r2 ∧ Rel u t q qM σ2)) := by
  obtain ⟨S, ia, ra, hC, hM, hI, hap⟩ := h
  refine C_agree hC hI x _ ?_
  exact ⟨RepM_K hM, M_agree hM hI x _ ⟨rfl, S, ia, ra, hC, hM, hI, hap⟩⟩
theorem S_count (h : Rel u t q qM σ) (x : Int32) : wX3_count u x σ (fun r1 σ1 => mK σ1 t = 5 ∧ wX4_count t x σ1 (fun r2 σ2 => r1 = r2 ∧ Rel u t q qM σ2)) := by
  obtain ⟨S, ia, ra, hC, hM, hI, hap⟩ := h
  refine C_count hC hI x _ ?_
  exact ⟨RepM_K hM, M_count hM hI x _ (fun σ2 hM2 f2 => ⟨rfl, S, ia, ra, RepC_FrM hC hM hap f2, hM2, hI, hap⟩)⟩
end ST
