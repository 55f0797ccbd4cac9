theorem RepM_agr {t : Nat} {q : Nat → Nat} {S σ σ1 : MM} (h : RepM t q S σ) (ht : agr σ σ1 t) (hq : ∀ i, i ∈ slM → agr σ σ1 (q i)) : RepM t q S σ1 := ⟨(ht.1.trans (RepM_K h)), (by rw [ht.2.2.1]; exact RepM_nC h), (by rw [ht.2.2.1]; exact RepM_nO h), (by rw [ht.2.2.1]; exact RepM_nA h), (by rw [ht.2.2.1]; exact RepM_nR h), (by rw [ht.2.2.1]; exact RepM_le h), (by rw [ht.2.2.1]; exact RepM_ga h), (by rw [ht.2.2.2.2]; exact RepM_r1 h), (by rw [(hq 1 (by decide)).1]; exact RepM_k1 h), (by rw [(hq 1 (by decide)).2.1]; exact RepM_n1 h), (by rw [(hq 1 (by decide)).2.2.1]; exact RepM_i1 h), (by rw [ht.2.2.2.2]; exact RepM_r3 h), (by rw [(hq 3 (by decide)).1]; exact RepM_k3 h), (by rw [(hq 3 (by decide)).2.1]; exact RepM_n3 h), (by rw [(hq 3 (by decide)).2.2.1]; exact RepM_i3 h), (by rw [ht.2.2.2.2]; exact RepM_r4 h), (by rw [(hq 4 (by decide)).1]; exact RepM_k4 h), (by rw [(hq 4 (by decide)).2.1]; exact RepM_n4 h), (by rw [(hq 4 (by decide)).2.2.2.1]; exact RepM_i4 h), (by rw [ht.2.2.2.2]; exact RepM_r6 h), (by rw [(hq 6 (by decide)).1]; exact RepM_k6 h), (by rw [(hq 6 (by decide)).2.1]; exact RepM_n6 h), (by rw [(hq 6 (by decide)).2.2.1]; exact RepM_i6 h), (by rw [ht.2.2.2.2]; exact RepM_r7 h), (by rw [(hq 7 (by decide)).1]; exact RepM_k7 h), (by rw [(hq 7 (by decide)).2.1]; exact RepM_n7 h), (fun j => by rw [(hq 7 (by decide)).2.2.1]; exact RepM_i7 h j), (by rw [ht.2.2.2.2]; exact RepM_r9 h), (by rw [(hq 9 (by decide)).1]; exact RepM_k9 h), (by rw [(hq 9 (by decide)).2.1]; exact RepM_n9 h), (by rw [(hq 9 (by decide)).2.2.1]; exact RepM_i9 h), (by rw [ht.2.2.2.2]; exact RepM_r10 h), (by rw [(hq 10 (by decide)).1]; exact RepM_k10 h), (by rw [(hq 10 (by decide)).2.1]; exact RepM_n10 h), (by rw [(hq 10 (by decide)).2.2.1]; exact RepM_i10 h), (by rw [ht.2.2.2.2]; exact RepM_r11 h), (by rw [(hq 11 (by decide)).1]; exact RepM_k11 h), (by rw [(hq 11 (by decide)).2.1]; exact RepM_n11 h), (by rw [(hq 11 (by decide)).2.2.1]; exact RepM_i11 h), (by rw [ht.2.2.2.2]; exact RepM_r12 h), (by rw [(hq 12 (by decide)).1]; exact RepM_k12 h), (by rw [(hq 12 (by decide)).2.1]; exact RepM_n12 h), (by rw [(hq 12 (by decide)).2.2.2.1]; exact RepM_i12 h), (by rw [ht.2.2.2.2]; exact RepM_r13 h), (by rw [(hq 13 (by decide)).1]; exact RepM_k13 h), (by rw [(hq 13 (by decide)).2.1]; exact RepM_n13 h), (by rw [(hq 13 (by decide)).2.2.1]; exact RepM_i13 h), (by rw [ht.2.2.2.2]; exact RepM_r14 h), (by rw [(hq 14 (by decide)).1]; exact RepM_k14 h), (by rw [(hq 14 (by decide)).2.1]; exact RepM_n14 h), (by rw [(hq 14 (by decide)).2.2.1]; exact RepM_i14 h), (by rw [ht.2.2.2.2]; exact RepM_r15 h), (by rw [(hq 15 (by decide)).1]; exact RepM_k15 h), (by rw [(hq 15 (by decide)).2.1]; exact RepM_n15 h), (by rw [(hq 15 (by decide)).2.2.1]; exact RepM_i15 h), (by rw [ht.2.2.2.2]; exact RepM_r16 h), (by rw [(hq 16 (by decide)).1]; exact RepM_k16 h), (by rw [(hq 16 (by decide)).2.1]; exact RepM_n16 h), (by rw [(hq 16 (by decide)).2.2.1]; exact RepM_i16 h), (by rw [ht.2.2.2.2]; exact RepM_r17 h), (by rw [(hq 17 (by decide)).1]; exact RepM_k17 h), (by rw [(hq 17 (by decide)).2.1]; exact RepM_n17 h), (by rw [(hq 17 (by decide)).2.2.1]; exact RepM_i17 h), (by rw [ht.2.2.2.2]; exact RepM_r19 h), (by rw [(hq 19 (by decide)).1]; exact RepM_k19 h), (by rw [(hq 19 (by decide)).2.1]; exact RepM_n19 h), (by rw [(hq 19 (by decide)).2.2.1]; exact RepM_i19 h), (by rw [ht.2.2.2.2]; exact RepM_r20 h), (by rw [(hq 20 (by decide)).1]; exact RepM_k20 h), (by rw [(hq 20 (by decide)).2.1]; exact RepM_n20 h), (by rw [(hq 20 (by decide)).2.2.1]; exact RepM_i20 h), (by rw [ht.2.2.2.2]; exact RepM_r21 h), (by rw [(hq 21 (by decide)).1]; exact RepM_k21 h), (by rw [(hq 21 (by decide)).2.1]; exact RepM_n21 h), (by rw [(hq 21 (by decide)).2.2.1]; exact RepM_i21 h), (by rw [ht.2.2.2.2]; exact RepM_r22 h), (by rw [(hq 22 (by decide)).1]; exact RepM_k22 h), (by rw [(hq 22 (by decide)).2.1]; exact RepM_n22 h), (by rw [(hq 22 (by decide)).2.2.2.1]; exact RepM_i22 h), (by rw [ht.2.2.2.2]; exact RepM_r23 h), (by rw [(hq 23 (by decide)).1]; exact RepM_k23 h), (by rw [(hq 23 (by decide)).2.1]; exact RepM_n23 h), (by rw [(hq 23 (by decide)).2.2.2.1]; exact RepM_i23 h), (by rw [ht.2.2.2.2]; exact RepM_r24 h), (by rw [(hq 24 (by decide)).1]; exact RepM_k24 h), (by rw [(hq 24 (by decide)).2.1]; exact RepM_n24 h), (by rw [(hq 24 (by decide)).2.2.1]; exact RepM_i24 h), (by rw [ht.2.2.2.2]; exact RepM_r30 h), (by rw [(hq 30 (by decide)).1]; exact RepM_k30 h), (by rw [(hq 30 (by decide)).2.1]; exact RepM_n30 h), (by rw [ht.2.2.2.2]; exact RepM_r31 h), (by rw [(hq 31 (by decide)).1]; exact RepM_k31 h), (by rw [(hq 31 (by decide)).2.1]; exact RepM_n31 h), (by rw [ht.2.2.2.2]; exact RepM_r32 h), (by rw [(hq 32 (by decide)).1]; exact RepM_k32 h), (by rw [(hq 32 (by decide)).2.1]; exact RepM_n32 h), (by rw [ht.2.2.2.2]; exact RepM_r33 h), (by rw [(hq 33 (by decide)).1]; exact RepM_k33 h), (by rw [(hq 33 (by decide)).2.1]; exact RepM_n33 h), RepM_inj h⟩
theorem RepC_agr {u : Nat} {q ia ra : Nat → Nat} {S : MM} {sf : Nat → Int64} {σ σ1 : MM} (h : RepC u q ia ra S sf σ) (hu : agr σ σ1 u) (hq : ∀ i, i ∈ slC → agr σ σ1 (q i)) (hi : ∀ j, prs S j = true → agr σ σ1 (ia j)) (hr : ∀ j, j < mN S 3 → agr σ σ1 (ra j)) : RepC u q ia ra S sf σ1 :=
  ⟨(by rw [hu.1]; exact RepC_K h),
  (by rw [hu.2.2.2.2]; exact RepC_r0 h),
  (by rw [hu.2.2.2.2]; exact RepC_r1 h),
  (by rw [hu.2.2.2.2]; exact RepC_r2 h),
  (by rw [hu.2.2.2.2]; exact RepC_r3 h),
  (by rw [hu.2.2.2.2]; exact RepC_r4 h),
  (by rw [hu.2.2.2.2]; exact RepC_r5 h),
  (by rw [hu.2.2.2.2]; exact RepC_r7 h),
  (by rw [hu.2.2.2.2]; exact RepC_r11 h),
  (by rw [hu.2.2.1]; exact RepC_nA h),
  (by rw [hu.2.2.1]; exact RepC_nR h),
  (by rw [hu.2.2.1]; exact RepC_le h),
  (by rw [hu.2.2.1]; exact RepC_ga h),
  (by rw [(hq 0 (by decide)).1]; exact RepC_k0 h),
  (by rw [(hq 0 (by decide)).2.2.2.2]; exact RepC_a0 h),
  (by rw [(hq 0 (by decide)).2.2.1]; exact RepC_m0 h),
  (by rw [(hq 0 (by decide)).2.2.1]; exact RepC_s0 h),
  (by rw [(hq 20 (by decide)).1]; exact RepC_k20 h),
  (by rw [(hq 20 (by decide)).2.1]; exact RepC_n20 h),
  (by rw [(hq 20 (by decide)).2.2.1]; exact RepC_i20 h),
  (by rw [(hq 1 (by decide)).1]; exact RepC_k1 h),
  (by rw [(hq 1 (by decide)).2.2.2.2]; exact RepC_a1 h),
  (by rw [(hq 1 (by decide)).2.2.1]; exact RepC_m1 h),
  (by rw [(hq 1 (by decide)).2.2.1]; exact RepC_s1 h),
  (by rw [(hq 21 (by decide)).1]; exact RepC_k21 h),
  (by rw [(hq 21 (by decide)).2.1]; exact RepC_n21 h),
  (by rw [(hq 21 (by decide)).2.2.1]; exact RepC_i21 h),
  (by rw [(hq 2 (by decide)).1]; exact RepC_k2 h),
  (by rw [(hq 2 (by decide)).2.1]; exact RepC_n2 h),
  (by rw [(hq 2 (by decide)).2.2.2.1]; exact RepC_i2 h),
  (by rw [(hq 3 (by decide)).1]; exact RepC_k3 h),
  (by rw [(hq 3 (by decide)).2.1]; exact RepC_n3 h),
  (by rw [(hq 3 (by decide)).2.2.2.1]; exact RepC_i3 h),
  (by rw [(hq 4 (by decide)).1]; exact RepC_k4 h),
  (by rw [(hq 4 (by decide)).2.1]; exact RepC_n4 h),
  (by rw [(hq 4 (by decide)).2.2.1]; exact RepC_i4 h),
  (by rw [(hq 5 (by decide)).1]; exact RepC_k5 h),
  (by rw [(hq 5 (by decide)).2.1]; exact RepC_n5 h),
  (fun j => by rw [(hq 5 (by decide)).2.2.2.2]; exact RepC_i5 h j),
  (by rw [(hq 7 (by decide)).1]; exact RepC_k7 h),
  (by rw [(hq 7 (by decide)).2.1]; exact RepC_n7 h),
  (fun j => by rw [(hq 7 (by decide)).2.2.2.2]; exact RepC_i7 h j),
  (by rw [(hq 11 (by decide)).1]; exact RepC_k11 h),
  (by rw [(hq 11 (by decide)).2.1]; exact RepC_n11 h),
  (fun j hj => by rw [(hi j hj).1]; exact RepC_tK h j hj),
  (fun j hj => by rw [(hi j hj).2.2.1]; exact RepC_t0 h j hj),
  (fun j hj => by rw [(hi j hj).2.2.1]; exact RepC_t1 h j hj),
  (fun j hj => by rw [(hi j hj).2.2.2.1]; exact RepC_t2 h j hj),
  (fun j hj => by rw [(hi j hj).2.2.2.1]; exact RepC_t3 h j hj),
  (fun j hj => by rw [(hi j hj).2.2.1]; exact RepC_t4 h j hj),
  (fun j hj => by rw [(hi j hj).2.2.1]; exact RepC_t5 h j hj),
  (fun j hj => by rw [(hi j hj).2.2.1]; exact RepC_t6 h j hj),
  (fun j hj => by rw [(hi j hj).2.2.1]; exact RepC_t7 h j hj),
  (fun j hj => by rw [(hi j hj).2.2.1]; exact RepC_t8 h j hj),
  (fun j hj => by rw [(hr j hj).1]; exact RepC_uK h j hj),
  (fun j hj => by rw [(hr j hj).2.2.1]; exact RepC_u0 h j hj),
  (fun j hj => by rw [(hr j hj).2.2.1]; exact RepC_u1 h j hj),
  (fun j hj => by rw [(hr j hj).2.2.1]; exact RepC_u2 h j hj),
  (fun j hj => by rw [(hr j hj).2.2.2.1]; exact RepC_u3 h j hj),
  (fun j hj => by rw [(hr j hj).2.2.2.1]; exact RepC_u4 h j hj),
  (fun j hj => by rw [(hr j hj).2.2.1]; exact RepC_u5 h j hj),
  RepC_inj h,
  RepC_iin h,
  RepC_rin h⟩
theorem ne_new {σ : MM} {a b k : Nat} (ha : mK σ a = 0) (hb : mK σ b = k) (hk : k ≠ 0) : b ≠ a := fun e => hk (by rw [← hb, e, ha])
theorem RepC_addrule {u : Nat} {q ia ra : Nat → Nat} {S : MM} {sf : Nat → Int64} {σ σ1 : MM} {a : Nat} {x y z : Int32} (h : RepC u q ia ra S sf σ)
    (hag : ∀ b, mK σ b ≠ 0 → b ≠ u → b ≠ q 7 → agr σ σ1 b) (hu : mK σ1 u = mK σ u) (hur : mR σ1 u = mR σ u) (hui : ∀ k, mI σ1 u k = if k = 8 then nI (mN S 3 + 1) else mI σ u k)
    (hqk : mK σ1 (q 7) = 10) (hqn : mN σ1 (q 7) = 40) (hqr : ∀ j, mR σ1 (q 7) j = if j = mN S 3 then some a else mR σ (q 7) j)
    (ha : mK σ a = 0) (hak : mK σ1 a = 2) (a0 : mI σ1 a 0 = x) (a1 : mI σ1 a 1 = y) (a2 : mI σ1 a 2 = z) (a3 : mL σ1 a 3 = mL S 2 (mN S 3)) (a4 : mL σ1 a 4 = mL S 3 (mN S 3)) (a5 : mI σ1 a 5 = mI S 14 (mN S 3)) :
    RepC u q ia (va_up ra (mN S 3) a) (sC (sI (sI (sI S 11 (mN S 3) x) 12 (mN S 3) y) 13 (mN S 3) z) 3 (mN S 3 + 1)) sf σ1 := by
  have A0 : agr σ σ1 (q 0) := hag (q 0) (by rw [RepC_k0 h]; decide) (ne_k (RepC_k0 h) (RepC_K h) (by decide)) (RepC_ne h 0 7 (by decide) (by decide) (by decide))
  have A1 : agr σ σ1 (q 1) := hag (q 1) (by rw [RepC_k1 h]; decide) (ne_k (RepC_k1 h) (RepC_K h) (by decide)) (RepC_ne h 1 7 (by decide) (by decide) (by decide))
  have A2 : agr σ σ1 (q 2) := hag (q 2) (by rw [RepC_k2 h]; decide) (ne_k (RepC_k2 h) (RepC_K h) (by decide)) (RepC_ne h 2 7 (by decide) (by decide) (by decide))
  have A3 : agr σ σ1 (q 3) := hag (q 3) (by rw [RepC_k3 h]; decide) (ne_k (RepC_k3 h) (RepC_K h) (by decide)) (RepC_ne h 3 7 (by decide) (by decide) (by decide))
  have A4 : agr σ σ1 (q 4) := hag (q 4) (by rw [RepC_k4 h]; decide) (ne_k (RepC_k4 h) (RepC_K h) (by decide)) (RepC_ne h 4 7 (by decide) (by decide) (by decide))
  have A5 : agr σ σ1 (q 5) := hag (q 5) (by rw [RepC_k5 h]; decide) (ne_k (RepC_k5 h) (RepC_K h) (by decide)) (RepC_ne h 5 7 (by decide) (by decide) (by decide))
  have A11 : agr σ σ1 (q 11) := hag (q 11) (by rw [RepC_k11 h]; decide) (ne_k (RepC_k11 h) (RepC_K h) (by decide)) (RepC_ne h 11 7 (by decide) (by decide) (by decide))
  have A20 : agr σ σ1 (q 20) := hag (q 20) (by rw [RepC_k20 h]; decide) (ne_k (RepC_k20 h) (RepC_K h) (by decide)) (RepC_ne h 20 7 (by decide) (by decide) (by decide))
  have A21 : agr σ σ1 (q 21) := hag (q 21) (by rw [RepC_k21 h]; decide) (ne_k (RepC_k21 h) (RepC_K h) (by decide)) (RepC_ne h 21 7 (by decide) (by decide) (by decide))
  have AI : ∀ j, prs S j = true → agr σ σ1 (ia j) := fun j hj => hag (ia j) (by rw [RepC_tK h j hj]; decide) (ne_k (RepC_tK h j hj) (RepC_K h) (by decide)) (ne_k (RepC_tK h j hj) (RepC_k7 h) (by decide))
  have AR : ∀ j, j < mN S 3 → agr σ σ1 (ra j) := fun j hj => hag (ra j) (by rw [RepC_uK h j hj]; decide) (ne_k (RepC_uK h j hj) (RepC_K h) (by decide)) (ne_k (RepC_uK h j hj) (RepC_k7 h) (by decide))
  have N0 : mI (sC (sI (sI (sI S 11 (mN S 3) x) 12 (mN S 3) y) 13 (mN S 3) z) 3 (mN S 3 + 1)) 11 (mN S 3) = x := by simp [mI_sC, mI_sI]
  have O0 : ∀ j, j ≠ mN S 3 → mI (sC (sI (sI (sI S 11 (mN S 3) x) 12 (mN S 3) y) 13 (mN S 3) z) 3 (mN S 3 + 1)) 11 j = mI S 11 j := fun j hj => by simp [mI_sC, mI_sI, hj]
  have N1 : mI (sC (sI (sI (sI S 11 (mN S 3) x) 12 (mN S 3) y) 13 (mN S 3) z) 3 (mN S 3 + 1)) 12 (mN S 3) = y := by simp [mI_sC, mI_sI]
  have O1 : ∀ j, j ≠ mN S 3 → mI (sC (sI (sI (sI S 11 (mN S 3) x) 12 (mN S 3) y) 13 (mN S 3) z) 3 (mN S 3 + 1)) 12 j = mI S 12 j := fun j hj => by simp [mI_sC, mI_sI, hj]
  have N2 : mI (sC (sI (sI (sI S 11 (mN S 3) x) 12 (mN S 3) y) 13 (mN S 3) z) 3 (mN S 3 + 1)) 13 (mN S 3) = z := by simp [mI_sC, mI_sI]
  have O2 : ∀ j, j ≠ mN S 3 → mI (sC (sI (sI (sI S 11 (mN S 3) x) 12 (mN S 3) y) 13 (mN S 3) z) 3 (mN S 3 + 1)) 13 j = mI S 13 j := fun j hj => by simp [mI_sC, mI_sI, hj]
  exact ⟨(hu.trans (RepC_K h)),
  (by rw [hur]; have e := RepC_r0 h; exact e),
  (by rw [hur]; have e := RepC_r1 h; exact e),
  (by rw [hur]; have e := RepC_r2 h; exact e),
  (by rw [hur]; have e := RepC_r3 h; exact e),
  (by rw [hur]; have e := RepC_r4 h; exact e),
  (by rw [hur]; have e := RepC_r5 h; exact e),
  (by rw [hur]; have e := RepC_r7 h; exact e),
  (by rw [hur]; have e := RepC_r11 h; exact e),
  (by rw [hui, if_neg (by decide)]; have e := RepC_nA h; exact e),
  (by rw [hui, if_pos rfl, mN_sC, if_pos rfl]),
  (by rw [hui, if_neg (by decide)]; have e := RepC_le h; exact e),
  (by rw [hui, if_neg (by decide)]; have e := RepC_ga h; exact e),
  (by rw [A0.1]; have e := RepC_k0 h; exact e),
  (by rw [A0.2.2.2.2]; have e := RepC_a0 h; exact e),
  (by rw [A0.2.2.1]; have e := RepC_m0 h; exact e),
  (by rw [A0.2.2.1]; have e := RepC_s0 h; exact e),
  (by rw [A20.1]; have e := RepC_k20 h; exact e),
  (by rw [A20.2.1]; have e := RepC_n20 h; exact e),
  (by rw [A20.2.2.1]; have e := RepC_i20 h; exact e),
  (by rw [A1.1]; have e := RepC_k1 h; exact e),
  (by rw [A1.2.2.2.2]; have e := RepC_a1 h; exact e),
  (by rw [A1.2.2.1]; have e := RepC_m1 h; exact e),
  (by rw [A1.2.2.1]; have e := RepC_s1 h; exact e),
  (by rw [A21.1]; have e := RepC_k21 h; exact e),
  (by rw [A21.2.1]; have e := RepC_n21 h; exact e),
  (by rw [A21.2.2.1]; have e := RepC_i21 h; exact e),
  (by rw [A2.1]; have e := RepC_k2 h; exact e),
  (by rw [A2.2.1]; have e := RepC_n2 h; exact e),
  (by rw [A2.2.2.2.1]; have e := RepC_i2 h; exact e),
  (by rw [A3.1]; have e := RepC_k3 h; exact e),
  (by rw [A3.2.1]; have e := RepC_n3 h; exact e),
  (by rw [A3.2.2.2.1]; have e := RepC_i3 h; exact e),
  (by rw [A4.1]; have e := RepC_k4 h; exact e),
  (by rw [A4.2.1]; have e := RepC_n4 h; exact e),
  (by rw [A4.2.2.1]; have e := RepC_i4 h; exact e),
  (by rw [A5.1]; have e := RepC_k5 h; exact e),
  (by rw [A5.2.1]; have e := RepC_n5 h; exact e),
  (fun j => by rw [A5.2.2.2.2]; have e := RepC_i5 h j; exact e),
  hqk,
  hqn,
  (fun j => by
    rw [hqr, RepC_i7 h j]
    by_cases e : j = mN S 3
    · rw [if_pos e, e, va_up_self]
      show _ = if mN S 3 < mN S 3 + 1 then _ else _
      rw [if_pos (by omega)]
    · rw [if_neg e, va_up_ne _ _ e]
      show (if j < mN S 3 then some (ra j) else none) = if j < mN S 3 + 1 then some (ra j) else none
      by_cases e2 : j < mN S 3
      · rw [if_pos e2, if_pos (by omega)]
      · rw [if_neg e2, if_neg (by omega)]),
  (by rw [A11.1]; have e := RepC_k11 h; exact e),
  (by rw [A11.2.1]; have e := RepC_n11 h; exact e),
  (fun j hj => by rw [(AI j hj).1]; have e := RepC_tK h j hj; exact e),
  (fun j hj => by rw [(AI j hj).2.2.1]; have e := RepC_t0 h j hj; exact e),
  (fun j hj => by rw [(AI j hj).2.2.1]; have e := RepC_t1 h j hj; exact e),
  (fun j hj => by rw [(AI j hj).2.2.2.1]; have e := RepC_t2 h j hj; exact e),
  (fun j hj => by rw [(AI j hj).2.2.2.1]; have e := RepC_t3 h j hj; exact e),
  (fun j hj => by rw [(AI j hj).2.2.1]; have e := RepC_t4 h j hj; exact e),
  (fun j hj => by rw [(AI j hj).2.2.1]; have e := RepC_t5 h j hj; exact e),
  (fun j hj => by rw [(AI j hj).2.2.1]; have e := RepC_t6 h j hj; exact e),
  (fun j hj => by rw [(AI j hj).2.2.1]; have e := RepC_t7 h j hj; exact e),
  (fun j hj => by rw [(AI j hj).2.2.1]; have e := RepC_t8 h j hj; exact e),
  (fun j hj => by
    have hj2 : j < mN S 3 + 1 := hj
    by_cases e : j = mN S 3
    · rw [e, va_up_self]; exact hak
    · rw [va_up_ne _ _ e, (AR j (by omega)).1]; have e2 := RepC_uK h j (by omega); exact e2),
  (fun j hj => by
    have hj2 : j < mN S 3 + 1 := hj
    by_cases e : j = mN S 3
    · rw [e, va_up_self, a0]; exact (N0).symm
    · rw [va_up_ne _ _ e, (AR j (by omega)).2.2.1, RepC_u0 h j (by omega)]; exact (O0 j e).symm),
  (fun j hj => by
    have hj2 : j < mN S 3 + 1 := hj
    by_cases e : j = mN S 3
    · rw [e, va_up_self, a1]; exact (N1).symm
    · rw [va_up_ne _ _ e, (AR j (by omega)).2.2.1, RepC_u1 h j (by omega)]; exact (O1 j e).symm),
  (fun j hj => by
    have hj2 : j < mN S 3 + 1 := hj
    by_cases e : j = mN S 3
    · rw [e, va_up_self, a2]; exact (N2).symm
    · rw [va_up_ne _ _ e, (AR j (by omega)).2.2.1, RepC_u2 h j (by omega)]; exact (O2 j e).symm),
  (fun j hj => by
    have hj2 : j < mN S 3 + 1 := hj
    by_cases e : j = mN S 3
    · rw [e, va_up_self]; exact a3
    · rw [va_up_ne _ _ e, (AR j (by omega)).2.2.2.1]; have e2 := RepC_u3 h j (by omega); exact e2),
  (fun j hj => by
    have hj2 : j < mN S 3 + 1 := hj
    by_cases e : j = mN S 3
    · rw [e, va_up_self]; exact a4
    · rw [va_up_ne _ _ e, (AR j (by omega)).2.2.2.1]; have e2 := RepC_u4 h j (by omega); exact e2),
  (fun j hj => by
    have hj2 : j < mN S 3 + 1 := hj
    by_cases e : j = mN S 3
    · rw [e, va_up_self]; exact a5
    · rw [va_up_ne _ _ e, (AR j (by omega)).2.2.1]; have e2 := RepC_u5 h j (by omega); exact e2),
  RepC_inj h,
  (fun a b ha hb => RepC_iin h a b ha hb),
  (fun j1 j2 h1 h2 e => by
    have h1' : j1 < mN S 3 + 1 := h1
    have h2' : j2 < mN S 3 + 1 := h2
    by_cases e1 : j1 = mN S 3
    · by_cases e2 : j2 = mN S 3
      · rw [e1, e2]
      · rw [e1, va_up_self, va_up_ne _ _ e2] at e
        exact absurd e.symm (ne_new ha (RepC_uK h j2 (by omega)) (by decide))
    · by_cases e2 : j2 = mN S 3
      · rw [e2, va_up_self, va_up_ne _ _ e1] at e
        exact absurd e (ne_new ha (RepC_uK h j1 (by omega)) (by decide))
      · rw [va_up_ne _ _ e1, va_up_ne _ _ e2] at e
        exact RepC_rin h j1 j2 (by omega) (by omega) e)⟩
def ansS (S : MM) (x y z : Int32) : MM := sC (stI (sL (stI (sL (sI (sI (sI S 3 (mN S 2) x) 4 (mN S 2) y) 5 (mN S 2) z) 1 (2 * mN S 2) 0) (2 * mN S 2) 0 (-1) (-1) (-1) (-1)) 1 (2 * mN S 2 + 1) 0) (2 * mN S 2 + 1) 0 (-1) (-1) (-1) (-1)) 2 (mN S 2 + 1)
theorem ansS_N (S : MM) (x y z : Int32) (d : Nat) : mN (ansS S x y z) d = if d = 2 then mN S 2 + 1 else mN S d := rfl
theorem ansS_Nd (S : MM) (x y z : Int32) {d : Nat} (h : d ≠ 2) : mN (ansS S x y z) d = mN S d := by rw [ansS_N, if_neg h]
theorem ansS_I (S : MM) (x y z : Int32) {c : Nat} (h : c < 3 ∨ 10 < c) : mI (ansS S x y z) c = mI S c := by
  have n3 : c ≠ 3 := by omega
  have n4 : c ≠ 4 := by omega
  have n5 : c ≠ 5 := by omega
  have n6 : c ≠ 6 := by omega
  have n7 : c ≠ 7 := by omega
  have n8 : c ≠ 8 := by omega
  have n9 : c ≠ 9 := by omega
  have n10 : c ≠ 10 := by omega
  unfold ansS stI
  rw [mI_sC, mI_sI_ne n10, mI_sI_ne n9, mI_sI_ne n8, mI_sI_ne n7, mI_sI_ne n6, mI_sL, mI_sI_ne n10, mI_sI_ne n9, mI_sI_ne n8, mI_sI_ne n7, mI_sI_ne n6, mI_sL, mI_sI_ne n5, mI_sI_ne n4, mI_sI_ne n3]
theorem ansS_L (S : MM) (x y z : Int32) {c : Nat} (h : c ≠ 1) : mL (ansS S x y z) c = mL S c := by
  unfold ansS stI
  simp only [mL_sC, mL_sI, mL_sL_ne h]
theorem ansS_2 (S : MM) (x y z : Int32) : mI (ansS S x y z) 2 = mI S 2 := ansS_I S x y z (by decide)
theorem ansS_3 (S : MM) (x y z : Int32) (j : Nat) : mI (ansS S x y z) 3 j = if j = mN S 2 then x else mI S 3 j := rfl
theorem ansS_4 (S : MM) (x y z : Int32) (j : Nat) : mI (ansS S x y z) 4 j = if j = mN S 2 then y else mI S 4 j := rfl
theorem ansS_5 (S : MM) (x y z : Int32) (j : Nat) : mI (ansS S x y z) 5 j = if j = mN S 2 then z else mI S 5 j := rfl
theorem ansS_6 (S : MM) (x y z : Int32) (j : Nat) : mI (ansS S x y z) 6 j = if j = 2 * mN S 2 + 1 then 0 else if j = 2 * mN S 2 then 0 else mI S 6 j := rfl
theorem ansS_7 (S : MM) (x y z : Int32) (j : Nat) : mI (ansS S x y z) 7 j = if j = 2 * mN S 2 + 1 then -1 else if j = 2 * mN S 2 then -1 else mI S 7 j := rfl
theorem ansS_8 (S : MM) (x y z : Int32) (j : Nat) : mI (ansS S x y z) 8 j = if j = 2 * mN S 2 + 1 then -1 else if j = 2 * mN S 2 then -1 else mI S 8 j := rfl
theorem ansS_9 (S : MM) (x y z : Int32) (j : Nat) : mI (ansS S x y z) 9 j = if j = 2 * mN S 2 + 1 then -1 else if j = 2 * mN S 2 then -1 else mI S 9 j := rfl
theorem ansS_10 (S : MM) (x y z : Int32) (j : Nat) : mI (ansS S x y z) 10 j = if j = 2 * mN S 2 + 1 then -1 else if j = 2 * mN S 2 then -1 else mI S 10 j := rfl
theorem ansS_L1 (S : MM) (x y z : Int32) (j : Nat) : mL (ansS S x y z) 1 j = if j = 2 * mN S 2 + 1 then 0 else if j = 2 * mN S 2 then 0 else mL S 1 j := rfl
theorem setF_0 (st : Nat → Int32) : ∀ n, setF st 0 n = 0
  | 0 => rfl
  | n + 1 => by
    have hb : bT 0 n = false := by simp [bT, nn]
    rw [setF_f hb]; exact setF_0 st n
theorem ansS_set (S : MM) (x y z : Int32) (j : Nat) : setS (ansS S x y z) j = if j = 2 * mN S 2 + 1 then 0 else if j = 2 * mN S 2 then 0 else setS S j := by
  show setF (mI (ansS S x y z) 2) (mL (ansS S x y z) 1 j) 60 = _
  rw [ansS_2, ansS_L1]
  by_cases e : j = 2 * mN S 2 + 1
  · rw [if_pos e, if_pos e]; exact setF_0 _ 60
  · rw [if_neg e, if_neg e]
    by_cases e2 : j = 2 * mN S 2
    · rw [if_pos e2, if_pos e2]; exact setF_0 _ 60
    · rw [if_neg e2, if_neg e2]; rfl
theorem ansS_prs (S : MM) (x y z : Int32) (j : Nat) : prs (ansS S x y z) j = (prs S j || (decide (j = 2 * mN S 2) || (decide (j = 2 * mN S 2 + 1) && decide (x = 1)))) := by
  unfold prs
  rw [ansS_N, ansS_3, if_pos rfl]
  by_cases h1 : j < 2 * mN S 2
  · have h2 : ¬ j / 2 = mN S 2 := by omega
    have h3 : ¬ j = 2 * mN S 2 := by omega
    have h4 : ¬ j = 2 * mN S 2 + 1 := by omega
    have h5 : j < 2 * (mN S 2 + 1) := by omega
    simp [h1, h2, h3, h4, h5]
  · by_cases h3 : j = 2 * mN S 2
    · subst h3
      have h5 : 2 * mN S 2 < 2 * (mN S 2 + 1) := by omega
      simp [h5]
    · by_cases h4 : j = 2 * mN S 2 + 1
      · subst h4
        have h2 : (2 * mN S 2 + 1) / 2 = mN S 2 := by omega
        have h5 : 2 * mN S 2 + 1 < 2 * (mN S 2 + 1) := by omega
        have h6 : (2 * mN S 2 + 1) % 2 = 1 := by omega
        simp [h1, h2, h3, h5, h6]
      · have h5 : ¬ j < 2 * (mN S 2 + 1) := by omega
        simp [h1, h3, h4, h5]
theorem RepC_addans {u : Nat} {q ia ra : Nat → Nat} {S : MM} {σ σ1 : MM} {a b : Nat} {x y z : Int32} (h : RepC u q ia ra S (setS S) σ)
    (hag : ∀ b, mK σ b ≠ 0 → b ≠ u → b ≠ q 5 → agr σ σ1 b) (hu : mK σ1 u = mK σ u) (hur : mR σ1 u = mR σ u) (hui : ∀ k, mI σ1 u k = if k = 6 then nI (mN S 2 + 1) else mI σ u k)
    (hqk : mK σ1 (q 5) = 9) (hqn : mN σ1 (q 5) = 160) (hqr : ∀ j, mR σ1 (q 5) j = if j = 2 * mN S 2 then some a else if j = 2 * mN S 2 + 1 ∧ x = 1 then some b else mR σ (q 5) j)
    (ha : mK σ a = 0) (hb : x = 1 → mK σ b = 0) (hab : x = 1 → a ≠ b) (ka : mK σ1 a = 1) (kb : x = 1 → mK σ1 b = 1)
    (v0_a : mI σ1 a 0 = y) (v0_b : x = 1 → mI σ1 b 0 = y)
    (v1_a : mI σ1 a 1 = z) (v1_b : x = 1 → mI σ1 b 1 = z)
    (v2_a : mL σ1 a 2 = 0) (v2_b : x = 1 → mL σ1 b 2 = 0)
    (v3_a : mL σ1 a 3 = 0) (v3_b : x = 1 → mL σ1 b 3 = 0)
    (v4_a : mI σ1 a 4 = 0) (v4_b : x = 1 → mI σ1 b 4 = 0)
    (v5_a : mI σ1 a 5 = (-1)) (v5_b : x = 1 → mI σ1 b 5 = (-1))
    (v6_a : mI σ1 a 6 = (-1)) (v6_b : x = 1 → mI σ1 b 6 = (-1))
    (v7_a : mI σ1 a 7 = (-1)) (v7_b : x = 1 → mI σ1 b 7 = (-1))
    (v8_a : mI σ1 a 8 = (-1)) (v8_b : x = 1 → mI σ1 b 8 = (-1)) :
    RepC u q (va_up (va_up ia (2 * mN S 2) a) (2 * mN S 2 + 1) b) ra (ansS S x y z) (setS (ansS S x y z)) σ1 := by
  have A0 : agr σ σ1 (q 0) := hag (q 0) (by rw [RepC_k0 h]; decide) (ne_k (RepC_k0 h) (RepC_K h) (by decide)) (RepC_ne h 0 5 (by decide) (by decide) (by decide))
  have A1 : agr σ σ1 (q 1) := hag (q 1) (by rw [RepC_k1 h]; decide) (ne_k (RepC_k1 h) (RepC_K h) (by decide)) (RepC_ne h 1 5 (by decide) (by decide) (by decide))
  have A2 : agr σ σ1 (q 2) := hag (q 2) (by rw [RepC_k2 h]; decide) (ne_k (RepC_k2 h) (RepC_K h) (by decide)) (RepC_ne h 2 5 (by decide) (by decide) (by decide))
  have A3 : agr σ σ1 (q 3) := hag (q 3) (by rw [RepC_k3 h]; decide) (ne_k (RepC_k3 h) (RepC_K h) (by decide)) (RepC_ne h 3 5 (by decide) (by decide) (by decide))
  have A4 : agr σ σ1 (q 4) := hag (q 4) (by rw [RepC_k4 h]; decide) (ne_k (RepC_k4 h) (RepC_K h) (by decide)) (RepC_ne h 4 5 (by decide) (by decide) (by decide))
  have A7 : agr σ σ1 (q 7) := hag (q 7) (by rw [RepC_k7 h]; decide) (ne_k (RepC_k7 h) (RepC_K h) (by decide)) (RepC_ne h 7 5 (by decide) (by decide) (by decide))
  have A11 : agr σ σ1 (q 11) := hag (q 11) (by rw [RepC_k11 h]; decide) (ne_k (RepC_k11 h) (RepC_K h) (by decide)) (RepC_ne h 11 5 (by decide) (by decide) (by decide))
  have A20 : agr σ σ1 (q 20) := hag (q 20) (by rw [RepC_k20 h]; decide) (ne_k (RepC_k20 h) (RepC_K h) (by decide)) (RepC_ne h 20 5 (by decide) (by decide) (by decide))
  have A21 : agr σ σ1 (q 21) := hag (q 21) (by rw [RepC_k21 h]; decide) (ne_k (RepC_k21 h) (RepC_K h) (by decide)) (RepC_ne h 21 5 (by decide) (by decide) (by decide))
  have AI : ∀ j, prs S j = true → agr σ σ1 (ia j) := fun j hj => hag (ia j) (by rw [RepC_tK h j hj]; decide) (ne_k (RepC_tK h j hj) (RepC_K h) (by decide)) (ne_k (RepC_tK h j hj) (RepC_k5 h) (by decide))
  have AR : ∀ j, j < mN S 3 → agr σ σ1 (ra j) := fun j hj => hag (ra j) (by rw [RepC_uK h j hj]; decide) (ne_k (RepC_uK h j hj) (RepC_K h) (by decide)) (ne_k (RepC_uK h j hj) (RepC_k5 h) (by decide))
  have NI : ∀ j, prs (ansS S x y z) j = true → (prs S j = true ∧ va_up (va_up ia (2 * mN S 2) a) (2 * mN S 2 + 1) b j = ia j) ∨ (j = 2 * mN S 2 ∧ va_up (va_up ia (2 * mN S 2) a) (2 * mN S 2 + 1) b j = a) ∨ (j = 2 * mN S 2 + 1 ∧ va_up (va_up ia (2 * mN S 2) a) (2 * mN S 2 + 1) b j = b ∧ x = 1) := fun j hj => by
    have hj2 : prs S j = true ∨ j = 2 * mN S 2 ∨ j = 2 * mN S 2 + 1 ∧ x = 1 := by rw [ansS_prs] at hj; simpa using hj
    rcases hj2 with e | e | e
    · have := prs_lt e
      exact Or.inl ⟨e, by rw [va_up_ne _ _ (by omega), va_up_ne _ _ (by omega)]⟩
    · exact Or.inr (Or.inl ⟨e, by rw [va_up_ne _ _ (by omega), e, va_up_self]⟩)
    · exact Or.inr (Or.inr ⟨e.1, by rw [e.1, va_up_self], e.2⟩)
  have NN : ∀ j, prs (ansS S x y z) j = false → ¬ j = 2 * mN S 2 ∧ ¬ (j = 2 * mN S 2 + 1 ∧ x = 1) ∧ prs S j = false := fun j hj => by
    have hj2 : prs S j = false ∧ ¬ j = 2 * mN S 2 ∧ (j = 2 * mN S 2 + 1 → ¬ x = 1) := by rw [ansS_prs] at hj; simpa using hj
    exact ⟨hj2.2.1, fun e => hj2.2.2 e.1 e.2, hj2.1⟩
  have d1 : 2 * mN S 2 / 2 = mN S 2 := by omega
  have d2 : (2 * mN S 2 + 1) / 2 = mN S 2 := by omega
  have G0 : ∀ j, j < 2 * mN S 2 → mI (ansS S x y z) 4 (j / 2) = mI S 4 (j / 2) := fun j hj => by rw [ansS_4, if_neg (by omega)]
  have H0 : mI (ansS S x y z) 4 (2 * mN S 2 / 2) = y := by rw [ansS_4, if_pos d1]
  have J0 : mI (ansS S x y z) 4 ((2 * mN S 2 + 1) / 2) = y := by rw [ansS_4, if_pos d2]
  have G1 : ∀ j, j < 2 * mN S 2 → mI (ansS S x y z) 5 (j / 2) = mI S 5 (j / 2) := fun j hj => by rw [ansS_5, if_neg (by omega)]
  have H1 : mI (ansS S x y z) 5 (2 * mN S 2 / 2) = z := by rw [ansS_5, if_pos d1]
  have J1 : mI (ansS S x y z) 5 ((2 * mN S 2 + 1) / 2) = z := by rw [ansS_5, if_pos d2]
  have G2 : ∀ j, j < 2 * mN S 2 → mL (ansS S x y z) 1 j = mL S 1 j := fun j hj => by rw [ansS_L1, if_neg (by omega), if_neg (by omega)]
  have H2 : mL (ansS S x y z) 1 (2 * mN S 2) = 0 := by rw [ansS_L1, if_neg (by omega), if_pos rfl]
  have J2 : mL (ansS S x y z) 1 (2 * mN S 2 + 1) = 0 := by rw [ansS_L1, if_pos rfl]
  have G3 : ∀ j, j < 2 * mN S 2 → setS (ansS S x y z) j = setS S j := fun j hj => by rw [ansS_set, if_neg (by omega), if_neg (by omega)]
  have H3 : setS (ansS S x y z) (2 * mN S 2) = 0 := by rw [ansS_set, if_neg (by omega), if_pos rfl]
  have J3 : setS (ansS S x y z) (2 * mN S 2 + 1) = 0 := by rw [ansS_set, if_pos rfl]
  have G4 : ∀ j, j < 2 * mN S 2 → mI (ansS S x y z) 6 j = mI S 6 j := fun j hj => by rw [ansS_6, if_neg (by omega), if_neg (by omega)]
  have H4 : mI (ansS S x y z) 6 (2 * mN S 2) = 0 := by rw [ansS_6, if_neg (by omega), if_pos rfl]
  have J4 : mI (ansS S x y z) 6 (2 * mN S 2 + 1) = 0 := by rw [ansS_6, if_pos rfl]
  have G5 : ∀ j, j < 2 * mN S 2 → mI (ansS S x y z) 7 j = mI S 7 j := fun j hj => by rw [ansS_7, if_neg (by omega), if_neg (by omega)]
  have H5 : mI (ansS S x y z) 7 (2 * mN S 2) = (-1) := by rw [ansS_7, if_neg (by omega), if_pos rfl]
  have J5 : mI (ansS S x y z) 7 (2 * mN S 2 + 1) = (-1) := by rw [ansS_7, if_pos rfl]
  have G6 : ∀ j, j < 2 * mN S 2 → mI (ansS S x y z) 8 j = mI S 8 j := fun j hj => by rw [ansS_8, if_neg (by omega), if_neg (by omega)]
  have H6 : mI (ansS S x y z) 8 (2 * mN S 2) = (-1) := by rw [ansS_8, if_neg (by omega), if_pos rfl]
  have J6 : mI (ansS S x y z) 8 (2 * mN S 2 + 1) = (-1) := by rw [ansS_8, if_pos rfl]
  have G7 : ∀ j, j < 2 * mN S 2 → mI (ansS S x y z) 9 j = mI S 9 j := fun j hj => by rw [ansS_9, if_neg (by omega), if_neg (by omega)]
  have H7 : mI (ansS S x y z) 9 (2 * mN S 2) = (-1) := by rw [ansS_9, if_neg (by omega), if_pos rfl]
  have J7 : mI (ansS S x y z) 9 (2 * mN S 2 + 1) = (-1) := by rw [ansS_9, if_pos rfl]
  have G8 : ∀ j, j < 2 * mN S 2 → mI (ansS S x y z) 10 j = mI S 10 j := fun j hj => by rw [ansS_10, if_neg (by omega), if_neg (by omega)]
  have H8 : mI (ansS S x y z) 10 (2 * mN S 2) = (-1) := by rw [ansS_10, if_neg (by omega), if_pos rfl]
  have J8 : mI (ansS S x y z) 10 (2 * mN S 2 + 1) = (-1) := by rw [ansS_10, if_pos rfl]
  exact ⟨(hu.trans (RepC_K h)),
  (by rw [hur]; have e := RepC_r0 h; exact e),
  (by rw [hur]; have e := RepC_r1 h; exact e),
  (by rw [hur]; have e := RepC_r2 h; exact e),
  (by rw [hur]; have e := RepC_r3 h; exact e),
  (by rw [hur]; have e := RepC_r4 h; exact e),
  (by rw [hur]; have e := RepC_r5 h; exact e),
  (by rw [hur]; have e := RepC_r7 h; exact e),
  (by rw [hur]; have e := RepC_r11 h; exact e),
  (by rw [hui, if_pos rfl, ansS_N, if_pos rfl]),
  (by rw [hui, if_neg (by decide), ansS_Nd S x y z (d := 3) (by decide)]; have e := RepC_nR h; exact e),
  (by rw [hui, if_neg (by decide), ansS_I S x y z (c := 15) (by decide)]; have e := RepC_le h; exact e),
  (by rw [hui, if_neg (by decide), ansS_I S x y z (c := 15) (by decide)]; have e := RepC_ga h; exact e),
  (by rw [A0.1]; have e := RepC_k0 h; exact e),
  (by rw [A0.2.2.2.2]; have e := RepC_a0 h; exact e),
  (by rw [A0.2.2.1]; have e := RepC_m0 h; exact e),
  (by rw [A0.2.2.1, ansS_Nd S x y z (d := 0) (by decide)]; have e := RepC_s0 h; exact e),
  (by rw [A20.1]; have e := RepC_k20 h; exact e),
  (by rw [A20.2.1]; have e := RepC_n20 h; exact e),
  (by rw [A20.2.2.1, ansS_I S x y z (c := 0) (by decide)]; have e := RepC_i20 h; exact e),
  (by rw [A1.1]; have e := RepC_k1 h; exact e),
  (by rw [A1.2.2.2.2]; have e := RepC_a1 h; exact e),
  (by rw [A1.2.2.1]; have e := RepC_m1 h; exact e),
  (by rw [A1.2.2.1, ansS_Nd S x y z (d := 1) (by decide)]; have e := RepC_s1 h; exact e),
  (by rw [A21.1]; have e := RepC_k21 h; exact e),
  (by rw [A21.2.1]; have e := RepC_n21 h; exact e),
  (by rw [A21.2.2.1, ansS_I S x y z (c := 1) (by decide)]; have e := RepC_i21 h; exact e),
  (by rw [A2.1]; have e := RepC_k2 h; exact e),
  (by rw [A2.2.1]; have e := RepC_n2 h; exact e),
  (by rw [A2.2.2.2.1, ansS_L S x y z (c := 0) (by decide)]; have e := RepC_i2 h; exact e),
  (by rw [A3.1]; have e := RepC_k3 h; exact e),
  (by rw [A3.2.1]; have e := RepC_n3 h; exact e),
  (by rw [A3.2.2.2.1, ansS_L S x y z (c := 4) (by decide)]; have e := RepC_i3 h; exact e),
  (by rw [A4.1]; have e := RepC_k4 h; exact e),
  (by rw [A4.2.1]; have e := RepC_n4 h; exact e),
  (by rw [A4.2.2.1, ansS_I S x y z (c := 2) (by decide)]; have e := RepC_i4 h; exact e),
  hqk,
  hqn,
  (fun j => by
    rw [hqr, RepC_i5 h j]
    by_cases hp : prs (ansS S x y z) j = true
    · rw [if_pos hp]
      rcases NI j hp with ⟨p1, e1⟩ | ⟨p1, e1⟩ | ⟨p1, e1, e2⟩
      · have := prs_lt p1
        rw [if_neg (by omega), if_neg (by omega), if_pos p1, e1]
      · rw [if_pos p1, e1]
      · rw [if_neg (by omega), if_pos ⟨p1, e2⟩, e1]
    · have hn := NN j (by simpa using hp)
      rw [if_neg hp, if_neg hn.1, if_neg hn.2.1, if_neg (by rw [hn.2.2]; decide)]),
  (by rw [A7.1]; have e := RepC_k7 h; exact e),
  (by rw [A7.2.1]; have e := RepC_n7 h; exact e),
  (fun j => by rw [A7.2.2.2.2, ansS_Nd S x y z (d := 3) (by decide)]; have e := RepC_i7 h j; exact e),
  (by rw [A11.1]; have e := RepC_k11 h; exact e),
  (by rw [A11.2.1]; have e := RepC_n11 h; exact e),
  (fun j hj => by
    rcases NI j hj with ⟨p1, e1⟩ | ⟨p1, e1⟩ | ⟨p1, e1, e2⟩ <;> rw [e1]
    · exact (AI j p1).1.trans (RepC_tK h j p1)
    · exact ka
    · exact kb e2),
  (fun j hj => by
    rcases NI j hj with ⟨p1, e1⟩ | ⟨p1, e1⟩ | ⟨p1, e1, e2⟩ <;> rw [e1]
    · rw [(AI j p1).2.2.1, RepC_t0 h j p1]; exact (G0 j (prs_lt p1)).symm
    · rw [v0_a, p1]; exact (H0).symm
    · rw [v0_b e2, p1]; exact (J0).symm),
  (fun j hj => by
    rcases NI j hj with ⟨p1, e1⟩ | ⟨p1, e1⟩ | ⟨p1, e1, e2⟩ <;> rw [e1]
    · rw [(AI j p1).2.2.1, RepC_t1 h j p1]; exact (G1 j (prs_lt p1)).symm
    · rw [v1_a, p1]; exact (H1).symm
    · rw [v1_b e2, p1]; exact (J1).symm),
  (fun j hj => by
    rcases NI j hj with ⟨p1, e1⟩ | ⟨p1, e1⟩ | ⟨p1, e1, e2⟩ <;> rw [e1]
    · rw [(AI j p1).2.2.2.1, RepC_t2 h j p1]; exact (G2 j (prs_lt p1)).symm
    · rw [v2_a, p1]; exact (H2).symm
    · rw [v2_b e2, p1]; exact (J2).symm),
  (fun j hj => by
    rcases NI j hj with ⟨p1, e1⟩ | ⟨p1, e1⟩ | ⟨p1, e1, e2⟩ <;> rw [e1]
    · rw [(AI j p1).2.2.2.1, RepC_t3 h j p1]; exact (G3 j (prs_lt p1)).symm
    · rw [v3_a, p1]; exact (H3).symm
    · rw [v3_b e2, p1]; exact (J3).symm),
  (fun j hj => by
    rcases NI j hj with ⟨p1, e1⟩ | ⟨p1, e1⟩ | ⟨p1, e1, e2⟩ <;> rw [e1]
    · rw [(AI j p1).2.2.1, RepC_t4 h j p1]; exact (G4 j (prs_lt p1)).symm
    · rw [v4_a, p1]; exact (H4).symm
    · rw [v4_b e2, p1]; exact (J4).symm),
  (fun j hj => by
    rcases NI j hj with ⟨p1, e1⟩ | ⟨p1, e1⟩ | ⟨p1, e1, e2⟩ <;> rw [e1]
    · rw [(AI j p1).2.2.1, RepC_t5 h j p1]; exact (G5 j (prs_lt p1)).symm
    · rw [v5_a, p1]; exact (H5).symm
    · rw [v5_b e2, p1]; exact (J5).symm),
  (fun j hj => by
    rcases NI j hj with ⟨p1, e1⟩ | ⟨p1, e1⟩ | ⟨p1, e1, e2⟩ <;> rw [e1]
    · rw [(AI j p1).2.2.1, RepC_t6 h j p1]; exact (G6 j (prs_lt p1)).symm
    · rw [v6_a, p1]; exact (H6).symm
    · rw [v6_b e2, p1]; exact (J6).symm),
  (fun j hj => by
    rcases NI j hj with ⟨p1, e1⟩ | ⟨p1, e1⟩ | ⟨p1, e1, e2⟩ <;> rw [e1]
    · rw [(AI j p1).2.2.1, RepC_t7 h j p1]; exact (G7 j (prs_lt p1)).symm
    · rw [v7_a, p1]; exact (H7).symm
    · rw [v7_b e2, p1]; exact (J7).symm),
  (fun j hj => by
    rcases NI j hj with ⟨p1, e1⟩ | ⟨p1, e1⟩ | ⟨p1, e1, e2⟩ <;> rw [e1]
    · rw [(AI j p1).2.2.1, RepC_t8 h j p1]; exact (G8 j (prs_lt p1)).symm
    · rw [v8_a, p1]; exact (H8).symm
    · rw [v8_b e2, p1]; exact (J8).symm),
  (fun j hj => by rw [ansS_Nd S x y z (d := 3) (by decide)] at hj; rw [(AR j hj).1]; have e := RepC_uK h j hj; exact e),
  (fun j hj => by rw [ansS_Nd S x y z (d := 3) (by decide)] at hj; rw [(AR j hj).2.2.1, ansS_I S x y z (c := 11) (by decide)]; have e := RepC_u0 h j hj; exact e),
  (fun j hj => by rw [ansS_Nd S x y z (d := 3) (by decide)] at hj; rw [(AR j hj).2.2.1, ansS_I S x y z (c := 12) (by decide)]; have e := RepC_u1 h j hj; exact e),
  (fun j hj => by rw [ansS_Nd S x y z (d := 3) (by decide)] at hj; rw [(AR j hj).2.2.1, ansS_I S x y z (c := 13) (by decide)]; have e := RepC_u2 h j hj; exact e),
  (fun j hj => by rw [ansS_Nd S x y z (d := 3) (by decide)] at hj; rw [(AR j hj).2.2.2.1, ansS_L S x y z (c := 2) (by decide)]; have e := RepC_u3 h j hj; exact e),
  (fun j hj => by rw [ansS_Nd S x y z (d := 3) (by decide)] at hj; rw [(AR j hj).2.2.2.1, ansS_L S x y z (c := 3) (by decide)]; have e := RepC_u4 h j hj; exact e),
  (fun j hj => by rw [ansS_Nd S x y z (d := 3) (by decide)] at hj; rw [(AR j hj).2.2.1, ansS_I S x y z (c := 14) (by decide)]; have e := RepC_u5 h j hj; exact e),
  RepC_inj h,
  (fun j1 j2 h1 h2 e => by
    rcases NI j1 h1 with ⟨p1, e1⟩ | ⟨p1, e1⟩ | ⟨p1, e1, x1⟩ <;> rcases NI j2 h2 with ⟨p2, e2⟩ | ⟨p2, e2⟩ | ⟨p2, e2, x2⟩ <;> rw [e1, e2] at e
    · exact RepC_iin h j1 j2 p1 p2 e
    · exact absurd e (ne_new ha (RepC_tK h j1 p1) (by decide))
    · exact absurd e (ne_new (hb x2) (RepC_tK h j1 p1) (by decide))
    · exact absurd e.symm (ne_new ha (RepC_tK h j2 p2) (by decide))
    · rw [p1, p2]
    · exact absurd e (hab x2)
    · exact absurd e.symm (ne_new (hb x1) (RepC_tK h j2 p2) (by decide))
    · exact absurd e.symm (hab x1)
    · rw [p1, p2]),
  (fun a b ha hb => by rw [ansS_Nd S x y z (d := 3) (by decide)] at ha hb; exact RepC_rin h a b ha hb)⟩
