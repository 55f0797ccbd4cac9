set_option maxHeartbeats 4000000 in
set_option maxRecDepth 100000 in
theorem law_gap {p : Program} {l : Launch} {e : Env} {s : State} {m : MethodId} {below : List Frame} {meth : Method} {c : Code} {D : va_G} {cs : CS} {b L : Nat} {xs : Nat → Int32} {u t : Nat} {q qM : Nat → Nat} (C0 : lw_At p s m meth c b L xs) (hE : EN D cs (AS s) s) {i : Nat} (hi : i + 3 < L) (hL : L ≤ 2048) {cl sl : Nat} (hcl : cl ≤ 500000) (hsl : sl ≤ 7000000)
    (kn : ∀ (σ : MM) (H : Heap) (locs : List Loc), Rel u t q qM σ → PH D cs (AS s) σ H → va_S (AS s) s.heap H locs → ∀ (ls : Array Slot), lv_has ls 4 [(0, .ref b), (1, .ref u), (2, .ref t), (3, .int (nI i))] → W p l e room_1 s m #[Value.ref b] below meth c H locs (cl + 2) (sl + 24) (lw_Z below #[Value.ref b] s) (F0 m 1032 ls []))
    {σ : MM} {H : Heap} {locs : List Loc} {ls : Array Slot} (hR : Rel u t q qM σ) (hM : PH D cs (AS s) σ H) (hS : va_S (AS s) s.heap H locs) (hl : lv_has ls 4 [(0, .ref b), (1, .ref u), (2, .ref t), (3, .int (nI i))]) : W p l e room_1 s m #[Value.ref b] below meth c H locs cl sl (lw_Z below #[Value.ref b] s) (F0 m 649 ls []) := by
  obtain ⟨hx, hb, hr, hml, hown0, hts0, hX, hbl, hlocks, hgv⟩ := C0
  have hown : s.vm.findClass RL = some m.cls := hown0
  have hts : ∀ w ∈ wsL_law, w.before #[Value.ref b] s = true := fun w hw => hts0 w (wsL_law_in w hw)
  have hbA : ¬ AS s b := Nat.not_le.mpr hbl
  have hv1 : vp_in (nI i + 1) L := by rw [nI_1]; exact sc_in (by omega) hL
  have hv2 : vp_in (nI i + 2) L := by rw [nI_p2]; exact sc_in (by omega) hL
  have hv3 : vp_in (nI i + 3) L := by rw [nI_p3]; exact sc_in (by omega) hL
  refine lv_aload_n hx hb dL_law_649 rfl (lv_at hl 1 rfl) ?_
  refine lv_aload_n hx hb dL_law_650 rfl (lv_at hl 0 rfl) ?_
  refine lv_iload_n hx hb dL_law_651 rfl (lv_at hl 3 rfl) ?_
  refine lv_iconst (v := 1) hx hb dL_law_652 (by decide) ?_
  refine lv_iadd hx hb dL_law_653 ?_
  refine va_sld hx hb hX hbl hbA hS hv1 dL_law_654 ?_
  refine lv_aload_n hx hb dL_law_655 rfl (lv_at hl 0 rfl) ?_
  refine lv_iload_n hx hb dL_law_656 rfl (lv_at hl 3 rfl) ?_
  refine lv_iconst (v := 2) hx hb dL_law_657 (by decide) ?_
  refine lv_iadd hx hb dL_law_658 ?_
  refine va_sld hx hb hX hbl hbA hS hv2 dL_law_659 ?_
  refine clVi (C := RX3) (b := u) (As := [.int (xs (nI i + 1).toNatClampNeg), .int (xs (nI i + 2).toNatClampNeg)]) (rest := []) ⟨hx, hb, hml, hown, hts⟩ hM hE hS (ok_X3_gap l D cs (AS s) u (xs (nI i + 1).toNatClampNeg) (xs (nI i + 2).toNatClampNeg) _ _ (S_gap hR (xs (nI i + 1).toNatClampNeg) (xs (nI i + 2).toNatClampNeg))) (cwV 2 hts gL_law_X3_gap rfl rfl rfl (by decide +kernel) ⟨(Nat.le_of_ble_eq_true rfl), (Nat.le_of_ble_eq_true rfl)⟩) (rc3 hM hE.1 (Rel_u hR)) rfl hl.1 rfl (Nat.le_of_ble_eq_true rfl) dL_law_660 ⟨by show cl + 0 ≤ 600000; omega, by show sl + 0 ≤ 7302250; omega⟩ (fun r1 σ1 H locs h1 hM hS => ?_)
  obtain ⟨hk5, h1⟩ := h1
  refine lv_aload_n hx hb dL_law_663 rfl (lv_at hl 2 rfl) ?_
  refine lv_aload_n hx hb dL_law_664 rfl (lv_at hl 0 rfl) ?_
  refine lv_iload_n hx hb dL_law_665 rfl (lv_at hl 3 rfl) ?_
  refine lv_iconst (v := 1) hx hb dL_law_666 (by decide) ?_
  refine lv_iadd hx hb dL_law_667 ?_
  refine va_sld hx hb hX hbl hbA hS hv1 dL_law_668 ?_
  refine lv_aload_n hx hb dL_law_669 rfl (lv_at hl 0 rfl) ?_
  refine lv_iload_n hx hb dL_law_670 rfl (lv_at hl 3 rfl) ?_
  refine lv_iconst (v := 2) hx hb dL_law_671 (by decide) ?_
  refine lv_iadd hx hb dL_law_672 ?_
  refine va_sld hx hb hX hbl hbA hS hv2 dL_law_673 ?_
  refine clVi (C := RX4) (b := t) (As := [.int (xs (nI i + 1).toNatClampNeg), .int (xs (nI i + 2).toNatClampNeg)]) (rest := [.int r1]) ⟨hx, hb, hml, hown, hts⟩ hM hE hS (ok_X4_gap l D cs (AS s) t (xs (nI i + 1).toNatClampNeg) (xs (nI i + 2).toNatClampNeg) _ _ h1) (cwV 2 hts gL_law_X4_gap rfl rfl rfl (by decide +kernel) ⟨(Nat.le_of_ble_eq_true rfl), (Nat.le_of_ble_eq_true rfl)⟩) (rc4 hM hE.1 hk5) rfl hl.1 rfl (Nat.le_of_ble_eq_true rfl) dL_law_674 ⟨by show cl + 0 + 0 ≤ 600000; omega, by show sl + 0 + 0 ≤ 7302250; omega⟩ (fun r2 σ2 H locs h2 hM hS => ?_)
  obtain ⟨hrr, hR2⟩ := h2
  refine lv_icmp_eq (tgt := 1032) hx hb dL_law_677 (by decide) (fun hc => ?_) (fun hc => absurd hrr hc)
  refine W.widen (k := cl + 2) (n := sl + 24) (by omega) (by omega) ?_
  exact kn σ2 H locs hR2 hM hS ls hl
set_option maxHeartbeats 4000000 in
set_option maxRecDepth 100000 in
theorem law_likeness {p : Program} {l : Launch} {e : Env} {s : State} {m : MethodId} {below : List Frame} {meth : Method} {c : Code} {D : va_G} {cs : CS} {b L : Nat} {xs : Nat → Int32} {u t : Nat} {q qM : Nat → Nat} (C0 : lw_At p s m meth c b L xs) (hE : EN D cs (AS s) s) {i : Nat} (hi : i + 3 < L) (hL : L ≤ 2048) {cl sl : Nat} (hcl : cl ≤ 500000) (hsl : sl ≤ 7000000)
    (kn : ∀ (σ : MM) (H : Heap) (locs : List Loc), Rel u t q qM σ → PH D cs (AS s) σ H → va_S (AS s) s.heap H locs → ∀ (ls : Array Slot), lv_has ls 4 [(0, .ref b), (1, .ref u), (2, .ref t), (3, .int (nI i))] → W p l e room_1 s m #[Value.ref b] below meth c H locs (cl + 2) (sl + 24) (lw_Z below #[Value.ref b] s) (F0 m 1032 ls []))
    {σ : MM} {H : Heap} {locs : List Loc} {ls : Array Slot} (hR : Rel u t q qM σ) (hM : PH D cs (AS s) σ H) (hS : va_S (AS s) s.heap H locs) (hl : lv_has ls 4 [(0, .ref b), (1, .ref u), (2, .ref t), (3, .int (nI i))]) : W p l e room_1 s m #[Value.ref b] below meth c H locs cl sl (lw_Z below #[Value.ref b] s) (F0 m 682 ls []) := by
  obtain ⟨hx, hb, hr, hml, hown0, hts0, hX, hbl, hlocks, hgv⟩ := C0
  have hown : s.vm.findClass RL = some m.cls := hown0
  have hts : ∀ w ∈ wsL_law, w.before #[Value.ref b] s = true := fun w hw => hts0 w (wsL_law_in w hw)
  have hbA : ¬ AS s b := Nat.not_le.mpr hbl
  have hv1 : vp_in (nI i + 1) L := by rw [nI_1]; exact sc_in (by omega) hL
  have hv2 : vp_in (nI i + 2) L := by rw [nI_p2]; exact sc_in (by omega) hL
  have hv3 : vp_in (nI i + 3) L := by rw [nI_p3]; exact sc_in (by omega) hL
  refine lv_aload_n hx hb dL_law_682 rfl (lv_at hl 1 rfl) ?_
  refine lv_aload_n hx hb dL_law_683 rfl (lv_at hl 0 rfl) ?_
  refine lv_iload_n hx hb dL_law_684 rfl (lv_at hl 3 rfl) ?_
  refine lv_iconst (v := 1) hx hb dL_law_685 (by decide) ?_
  refine lv_iadd hx hb dL_law_686 ?_
  refine va_sld hx hb hX hbl hbA hS hv1 dL_law_687 ?_
  refine lv_aload_n hx hb dL_law_688 rfl (lv_at hl 0 rfl) ?_
  refine lv_iload_n hx hb dL_law_689 rfl (lv_at hl 3 rfl) ?_
  refine lv_iconst (v := 2) hx hb dL_law_690 (by decide) ?_
  refine lv_iadd hx hb dL_law_691 ?_
  refine va_sld hx hb hX hbl hbA hS hv2 dL_law_692 ?_
  refine clVi (C := RX3) (b := u) (As := [.int (xs (nI i + 1).toNatClampNeg), .int (xs (nI i + 2).toNatClampNeg)]) (rest := []) ⟨hx, hb, hml, hown, hts⟩ hM hE hS (ok_X3_likeness l D cs (AS s) u (xs (nI i + 1).toNatClampNeg) (xs (nI i + 2).toNatClampNeg) _ _ (S_likeness hR (xs (nI i + 1).toNatClampNeg) (xs (nI i + 2).toNatClampNeg))) (cwV 2 hts gL_law_X3_likeness rfl rfl rfl (by decide +kernel) ⟨(Nat.le_of_ble_eq_true rfl), (Nat.le_of_ble_eq_true rfl)⟩) (rc3 hM hE.1 (Rel_u hR)) rfl hl.1 rfl (Nat.le_of_ble_eq_true rfl) dL_law_693 ⟨by show cl + 0 ≤ 600000; omega, by show sl + 0 ≤ 7302250; omega⟩ (fun r1 σ1 H locs h1 hM hS => ?_)
  obtain ⟨hk5, h1⟩ := h1
  refine lv_aload_n hx hb dL_law_696 rfl (lv_at hl 2 rfl) ?_
  refine lv_aload_n hx hb dL_law_697 rfl (lv_at hl 0 rfl) ?_
  refine lv_iload_n hx hb dL_law_698 rfl (lv_at hl 3 rfl) ?_
  refine lv_iconst (v := 1) hx hb dL_law_699 (by decide) ?_
  refine lv_iadd hx hb dL_law_700 ?_
  refine va_sld hx hb hX hbl hbA hS hv1 dL_law_701 ?_
  refine lv_aload_n hx hb dL_law_702 rfl (lv_at hl 0 rfl) ?_
  refine lv_iload_n hx hb dL_law_703 rfl (lv_at hl 3 rfl) ?_
  refine lv_iconst (v := 2) hx hb dL_law_704 (by decide) ?_
  refine lv_iadd hx hb dL_law_705 ?_
  refine va_sld hx hb hX hbl hbA hS hv2 dL_law_706 ?_
  refine clVi (C := RX4) (b := t) (As := [.int (xs (nI i + 1).toNatClampNeg), .int (xs (nI i + 2).toNatClampNeg)]) (rest := [.int r1]) ⟨hx, hb, hml, hown, hts⟩ hM hE hS (ok_X4_likeness l D cs (AS s) t (xs (nI i + 1).toNatClampNeg) (xs (nI i + 2).toNatClampNeg) _ _ h1) (cwV 2 hts gL_law_X4_likeness rfl rfl rfl (by decide +kernel) ⟨(Nat.le_of_ble_eq_true rfl), (Nat.le_of_ble_eq_true rfl)⟩) (rc4 hM hE.1 hk5) rfl hl.1 rfl (Nat.le_of_ble_eq_true rfl) dL_law_707 ⟨by show cl + 0 + 0 ≤ 600000; omega, by show sl + 0 + 0 ≤ 7302250; omega⟩ (fun r2 σ2 H locs h2 hM hS => ?_)
  obtain ⟨hrr, hR2⟩ := h2
  refine lv_icmp_eq (tgt := 1032) hx hb dL_law_710 (by decide) (fun hc => ?_) (fun hc => absurd hrr hc)
  refine W.widen (k := cl + 2) (n := sl + 24) (by omega) (by omega) ?_
  exact kn σ2 H locs hR2 hM hS ls hl
set_option maxHeartbeats 4000000 in
set_option maxRecDepth 100000 in
theorem law_near {p : Program} {l : Launch} {e : Env} {s : State} {m : MethodId} {below : List Frame} {meth : Method} {c : Code} {D : va_G} {cs : CS} {b L : Nat} {xs : Nat → Int32} {u t : Nat} {q qM : Nat → Nat} (C0 : lw_At p s m meth c b L xs) (hE : EN D cs (AS s) s) {i : Nat} (hi : i + 3 < L) (hL : L ≤ 2048) {cl sl : Nat} (hcl : cl ≤ 500000) (hsl : sl ≤ 7000000)
    (kn : ∀ (σ : MM) (H : Heap) (locs : List Loc), Rel u t q qM σ → PH D cs (AS s) σ H → va_S (AS s) s.heap H locs → ∀ (ls : Array Slot), lv_has ls 4 [(0, .ref b), (1, .ref u), (2, .ref t), (3, .int (nI i))] → W p l e room_1 s m #[Value.ref b] below meth c H locs (cl + 2) (sl + 24) (lw_Z below #[Value.ref b] s) (F0 m 1032 ls []))
    {σ : MM} {H : Heap} {locs : List Loc} {ls : Array Slot} (hR : Rel u t q qM σ) (hM : PH D cs (AS s) σ H) (hS : va_S (AS s) s.heap H locs) (hl : lv_has ls 4 [(0, .ref b), (1, .ref u), (2, .ref t), (3, .int (nI i))]) : W p l e room_1 s m #[Value.ref b] below meth c H locs cl sl (lw_Z below #[Value.ref b] s) (F0 m 715 ls []) := by
  obtain ⟨hx, hb, hr, hml, hown0, hts0, hX, hbl, hlocks, hgv⟩ := C0
  have hown : s.vm.findClass RL = some m.cls := hown0
  have hts : ∀ w ∈ wsL_law, w.before #[Value.ref b] s = true := fun w hw => hts0 w (wsL_law_in w hw)
  have hbA : ¬ AS s b := Nat.not_le.mpr hbl
  have hv1 : vp_in (nI i + 1) L := by rw [nI_1]; exact sc_in (by omega) hL
  have hv2 : vp_in (nI i + 2) L := by rw [nI_p2]; exact sc_in (by omega) hL
  have hv3 : vp_in (nI i + 3) L := by rw [nI_p3]; exact sc_in (by omega) hL
  refine lv_aload_n hx hb dL_law_715 rfl (lv_at hl 1 rfl) ?_
  refine lv_aload_n hx hb dL_law_716 rfl (lv_at hl 0 rfl) ?_
  refine lv_iload_n hx hb dL_law_717 rfl (lv_at hl 3 rfl) ?_
  refine lv_iconst (v := 1) hx hb dL_law_718 (by decide) ?_
  refine lv_iadd hx hb dL_law_719 ?_
  refine va_sld hx hb hX hbl hbA hS hv1 dL_law_720 ?_
  refine lv_aload_n hx hb dL_law_721 rfl (lv_at hl 0 rfl) ?_
  refine lv_iload_n hx hb dL_law_722 rfl (lv_at hl 3 rfl) ?_
  refine lv_iconst (v := 2) hx hb dL_law_723 (by decide) ?_
  refine lv_iadd hx hb dL_law_724 ?_
  refine va_sld hx hb hX hbl hbA hS hv2 dL_law_725 ?_
  refine clVi (C := RX3) (b := u) (As := [.int (xs (nI i + 1).toNatClampNeg), .int (xs (nI i + 2).toNatClampNeg)]) (rest := []) ⟨hx, hb, hml, hown, hts⟩ hM hE hS (ok_X3_near l D cs (AS s) u (xs (nI i + 1).toNatClampNeg) (xs (nI i + 2).toNatClampNeg) _ _ (S_near hR (xs (nI i + 1).toNatClampNeg) (xs (nI i + 2).toNatClampNeg))) (cwV 2 hts gL_law_X3_near rfl rfl rfl (by decide +kernel) ⟨(Nat.le_of_ble_eq_true rfl), (Nat.le_of_ble_eq_true rfl)⟩) (rc3 hM hE.1 (Rel_u hR)) rfl hl.1 rfl (Nat.le_of_ble_eq_true rfl) dL_law_726 ⟨by show cl + 0 ≤ 600000; omega, by show sl + 0 ≤ 7302250; omega⟩ (fun r1 σ1 H locs h1 hM hS => ?_)
  obtain ⟨hk5, h1⟩ := h1
  refine lv_aload_n hx hb dL_law_729 rfl (lv_at hl 2 rfl) ?_
  refine lv_aload_n hx hb dL_law_730 rfl (lv_at hl 0 rfl) ?_
  refine lv_iload_n hx hb dL_law_731 rfl (lv_at hl 3 rfl) ?_
  refine lv_iconst (v := 1) hx hb dL_law_732 (by decide) ?_
  refine lv_iadd hx hb dL_law_733 ?_
  refine va_sld hx hb hX hbl hbA hS hv1 dL_law_734 ?_
  refine lv_aload_n hx hb dL_law_735 rfl (lv_at hl 0 rfl) ?_
  refine lv_iload_n hx hb dL_law_736 rfl (lv_at hl 3 rfl) ?_
  refine lv_iconst (v := 2) hx hb dL_law_737 (by decide) ?_
  refine lv_iadd hx hb dL_law_738 ?_
  refine va_sld hx hb hX hbl hbA hS hv2 dL_law_739 ?_
  refine clVi (C := RX4) (b := t) (As := [.int (xs (nI i + 1).toNatClampNeg), .int (xs (nI i + 2).toNatClampNeg)]) (rest := [.int r1]) ⟨hx, hb, hml, hown, hts⟩ hM hE hS (ok_X4_near l D cs (AS s) t (xs (nI i + 1).toNatClampNeg) (xs (nI i + 2).toNatClampNeg) _ _ h1) (cwV 2 hts gL_law_X4_near rfl rfl rfl (by decide +kernel) ⟨(Nat.le_of_ble_eq_true rfl), (Nat.le_of_ble_eq_true rfl)⟩) (rc4 hM hE.1 hk5) rfl hl.1 rfl (Nat.le_of_ble_eq_true rfl) dL_law_740 ⟨by show cl + 0 + 0 ≤ 600000; omega, by show sl + 0 + 0 ≤ 7302250; omega⟩ (fun r2 σ2 H locs h2 hM hS => ?_)
  obtain ⟨hrr, hR2⟩ := h2
  refine lv_icmp_eq (tgt := 1032) hx hb dL_law_743 (by decide) (fun hc => ?_) (fun hc => absurd hrr hc)
  refine W.widen (k := cl + 2) (n := sl + 24) (by omega) (by omega) ?_
  exact kn σ2 H locs hR2 hM hS ls hl
set_option maxHeartbeats 4000000 in
set_option maxRecDepth 100000 in
theorem law_liked {p : Program} {l : Launch} {e : Env} {s : State} {m : MethodId} {below : List Frame} {meth : Method} {c : Code} {D : va_G} {cs : CS} {b L : Nat} {xs : Nat → Int32} {u t : Nat} {q qM : Nat → Nat} (C0 : lw_At p s m meth c b L xs) (hE : EN D cs (AS s) s) {i : Nat} (hi : i + 3 < L) (hL : L ≤ 2048) {cl sl : Nat} (hcl : cl ≤ 500000) (hsl : sl ≤ 7000000)
    (kn : ∀ (σ : MM) (H : Heap) (locs : List Loc), Rel u t q qM σ → PH D cs (AS s) σ H → va_S (AS s) s.heap H locs → ∀ (ls : Array Slot), lv_has ls 4 [(0, .ref b), (1, .ref u), (2, .ref t), (3, .int (nI i))] → W p l e room_1 s m #[Value.ref b] below meth c H locs (cl + 2) (sl + 24) (lw_Z below #[Value.ref b] s) (F0 m 1032 ls []))
    {σ : MM} {H : Heap} {locs : List Loc} {ls : Array Slot} (hR : Rel u t q qM σ) (hM : PH D cs (AS s) σ H) (hS : va_S (AS s) s.heap H locs) (hl : lv_has ls 4 [(0, .ref b), (1, .ref u), (2, .ref t), (3, .int (nI i))]) : W p l e room_1 s m #[Value.ref b] below meth c H locs cl sl (lw_Z below #[Value.ref b] s) (F0 m 748 ls []) := by
  obtain ⟨hx, hb, hr, hml, hown0, hts0, hX, hbl, hlocks, hgv⟩ := C0
  have hown : s.vm.findClass RL = some m.cls := hown0
  have hts : ∀ w ∈ wsL_law, w.before #[Value.ref b] s = true := fun w hw => hts0 w (wsL_law_in w hw)
  have hbA : ¬ AS s b := Nat.not_le.mpr hbl
  have hv1 : vp_in (nI i + 1) L := by rw [nI_1]; exact sc_in (by omega) hL
  have hv2 : vp_in (nI i + 2) L := by rw [nI_p2]; exact sc_in (by omega) hL
  have hv3 : vp_in (nI i + 3) L := by rw [nI_p3]; exact sc_in (by omega) hL
  refine lv_aload_n hx hb dL_law_748 rfl (lv_at hl 1 rfl) ?_
  refine lv_aload_n hx hb dL_law_749 rfl (lv_at hl 0 rfl) ?_
  refine lv_iload_n hx hb dL_law_750 rfl (lv_at hl 3 rfl) ?_
  refine lv_iconst (v := 1) hx hb dL_law_751 (by decide) ?_
  refine lv_iadd hx hb dL_law_752 ?_
  refine va_sld hx hb hX hbl hbA hS hv1 dL_law_753 ?_
  refine clVi (C := RX3) (b := u) (As := [.int (xs (nI i + 1).toNatClampNeg)]) (rest := []) ⟨hx, hb, hml, hown, hts⟩ hM hE hS (ok_X3_liked l D cs (AS s) u (xs (nI i + 1).toNatClampNeg) _ _ (S_liked hR (xs (nI i + 1).toNatClampNeg))) (cwV 1 hts gL_law_X3_liked rfl rfl rfl (by decide +kernel) ⟨(Nat.le_of_ble_eq_true rfl), (Nat.le_of_ble_eq_true rfl)⟩) (rc3 hM hE.1 (Rel_u hR)) rfl hl.1 rfl (Nat.le_of_ble_eq_true rfl) dL_law_754 ⟨by show cl + 0 ≤ 600000; omega, by show sl + 0 ≤ 7302250; omega⟩ (fun r1 σ1 H locs h1 hM hS => ?_)
  obtain ⟨hk5, h1⟩ := h1
  refine lv_aload_n hx hb dL_law_757 rfl (lv_at hl 2 rfl) ?_
  refine lv_aload_n hx hb dL_law_758 rfl (lv_at hl 0 rfl) ?_
  refine lv_iload_n hx hb dL_law_759 rfl (lv_at hl 3 rfl) ?_
  refine lv_iconst (v := 1) hx hb dL_law_760 (by decide) ?_
  refine lv_iadd hx hb dL_law_761 ?_
  refine va_sld hx hb hX hbl hbA hS hv1 dL_law_762 ?_
  refine clVi (C := RX4) (b := t) (As := [.int (xs (nI i + 1).toNatClampNeg)]) (rest := [.int r1]) ⟨hx, hb, hml, hown, hts⟩ hM hE hS (ok_X4_liked l D cs (AS s) t (xs (nI i + 1).toNatClampNeg) _ _ h1) (cwV 1 hts gL_law_X4_liked rfl rfl rfl (by decide +kernel) ⟨(Nat.le_of_ble_eq_true rfl), (Nat.le_of_ble_eq_true rfl)⟩) (rc4 hM hE.1 hk5) rfl hl.1 rfl (Nat.le_of_ble_eq_true rfl) dL_law_763 ⟨by show cl + 0 + 0 ≤ 600000; omega, by show sl + 0 + 0 ≤ 7302250; omega⟩ (fun r2 σ2 H locs h2 hM hS => ?_)
  obtain ⟨hrr, hR2⟩ := h2
  refine lv_icmp_eq (tgt := 1032) hx hb dL_law_766 (by decide) (fun hc => ?_) (fun hc => absurd hrr hc)
  refine W.widen (k := cl + 2) (n := sl + 24) (by omega) (by omega) ?_
  exact kn σ2 H locs hR2 hM hS ls hl
set_option maxHeartbeats 4000000 in
set_option maxRecDepth 100000 in
theorem law_day {p : Program} {l : Launch} {e : Env} {s : State} {m : MethodId} {below : List Frame} {meth : Method} {c : Code} {D : va_G} {cs : CS} {b L : Nat} {xs : Nat → Int32} {u t : Nat} {q qM : Nat → Nat} (C0 : lw_At p s m meth c b L xs) (hE : EN D cs (AS s) s) {i : Nat} (hi : i + 3 < L) (hL : L ≤ 2048) {cl sl : Nat} (hcl : cl ≤ 500000) (hsl : sl ≤ 7000000)
    (kn : ∀ (σ : MM) (H : Heap) (locs : List Loc), Rel u t q qM σ → PH D cs (AS s) σ H → va_S (AS s) s.heap H locs → ∀ (ls : Array Slot), lv_has ls 4 [(0, .ref b), (1, .ref u), (2, .ref t), (3, .int (nI i))] → W p l e room_1 s m #[Value.ref b] below meth c H locs (cl + 2) (sl + 24) (lw_Z below #[Value.ref b] s) (F0 m 1032 ls []))
    {σ : MM} {H : Heap} {locs : List Loc} {ls : Array Slot} (hR : Rel u t q qM σ) (hM : PH D cs (AS s) σ H) (hS : va_S (AS s) s.heap H locs) (hl : lv_has ls 4 [(0, .ref b), (1, .ref u), (2, .ref t), (3, .int (nI i))]) : W p l e room_1 s m #[Value.ref b] below meth c H locs cl sl (lw_Z below #[Value.ref b] s) (F0 m 771 ls []) := by
  obtain ⟨hx, hb, hr, hml, hown0, hts0, hX, hbl, hlocks, hgv⟩ := C0
  have hown : s.vm.findClass RL = some m.cls := hown0
  have hts : ∀ w ∈ wsL_law, w.before #[Value.ref b] s = true := fun w hw => hts0 w (wsL_law_in w hw)
  have hbA : ¬ AS s b := Nat.not_le.mpr hbl
  have hv1 : vp_in (nI i + 1) L := by rw [nI_1]; exact sc_in (by omega) hL
  have hv2 : vp_in (nI i + 2) L := by rw [nI_p2]; exact sc_in (by omega) hL
  have hv3 : vp_in (nI i + 3) L := by rw [nI_p3]; exact sc_in (by omega) hL
  refine lv_aload_n hx hb dL_law_771 rfl (lv_at hl 1 rfl) ?_
  refine clVi (C := RX3) (b := u) (As := []) (rest := []) ⟨hx, hb, hml, hown, hts⟩ hM hE hS (ok_X3_day l D cs (AS s) u _ _ (S_day hR)) (cwV 0 hts gL_law_X3_day rfl rfl rfl (by decide +kernel) ⟨(Nat.le_of_ble_eq_true rfl), (Nat.le_of_ble_eq_true rfl)⟩) (rc3 hM hE.1 (Rel_u hR)) rfl hl.1 rfl (Nat.le_of_ble_eq_true rfl) dL_law_772 ⟨by show cl + 0 ≤ 600000; omega, by show sl + 0 ≤ 7302250; omega⟩ (fun r1 σ1 H locs h1 hM hS => ?_)
  obtain ⟨hk5, h1⟩ := h1
  refine lv_aload_n hx hb dL_law_775 rfl (lv_at hl 2 rfl) ?_
  refine clVi (C := RX4) (b := t) (As := []) (rest := [.int r1]) ⟨hx, hb, hml, hown, hts⟩ hM hE hS (ok_X4_day l D cs (AS s) t _ _ h1) (cwV 0 hts gL_law_X4_day rfl rfl rfl (by decide +kernel) ⟨(Nat.le_of_ble_eq_true rfl), (Nat.le_of_ble_eq_true rfl)⟩) (rc4 hM hE.1 hk5) rfl hl.1 rfl (Nat.le_of_ble_eq_true rfl) dL_law_776 ⟨by show cl + 0 + 0 ≤ 600000; omega, by show sl + 0 + 0 ≤ 7302250; omega⟩ (fun r2 σ2 H locs h2 hM hS => ?_)
  obtain ⟨hrr, hR2⟩ := h2
  refine lv_icmp_eq (tgt := 1032) hx hb dL_law_779 (by decide) (fun hc => ?_) (fun hc => absurd hrr hc)
  refine W.widen (k := cl + 2) (n := sl + 24) (by omega) (by omega) ?_
  exact kn σ2 H locs hR2 hM hS ls hl
set_option maxHeartbeats 4000000 in
set_option maxRecDepth 100000 in
theorem law_first {p : Program} {l : Launch} {e : Env} {s : State} {m : MethodId} {below : List Frame} {meth : Method} {c : Code} {D : va_G} {cs : CS} {b L : Nat} {xs : Nat → Int32} {u t : Nat} {q qM : Nat → Nat} (C0 : lw_At p s m meth c b L xs) (hE : EN D cs (AS s) s) {i : Nat} (hi : i + 3 < L) (hL : L ≤ 2048) {cl sl : Nat} (hcl : cl ≤ 500000) (hsl : sl ≤ 7000000)
    (kn : ∀ (σ : MM) (H : Heap) (locs : List Loc), Rel u t q qM σ → PH D cs (AS s) σ H → va_S (AS s) s.heap H locs → ∀ (ls : Array Slot), lv_has ls 4 [(0, .ref b), (1, .ref u), (2, .ref t), (3, .int (nI i))] → W p l e room_1 s m #[Value.ref b] below meth c H locs (cl + 2) (sl + 24) (lw_Z below #[Value.ref b] s) (F0 m 1032 ls []))
    {σ : MM} {H : Heap} {locs : List Loc} {ls : Array Slot} (hR : Rel u t q qM σ) (hM : PH D cs (AS s) σ H) (hS : va_S (AS s) s.heap H locs) (hl : lv_has ls 4 [(0, .ref b), (1, .ref u), (2, .ref t), (3, .int (nI i))]) : W p l e room_1 s m #[Value.ref b] below meth c H locs cl sl (lw_Z below #[Value.ref b] s) (F0 m 784 ls []) := by
  obtain ⟨hx, hb, hr, hml, hown0, hts0, hX, hbl, hlocks, hgv⟩ := C0
  have hown : s.vm.findClass RL = some m.cls := hown0
  have hts : ∀ w ∈ wsL_law, w.before #[Value.ref b] s = true := fun w hw => hts0 w (wsL_law_in w hw)
  have hbA : ¬ AS s b := Nat.not_le.mpr hbl
  have hv1 : vp_in (nI i + 1) L := by rw [nI_1]; exact sc_in (by omega) hL
  have hv2 : vp_in (nI i + 2) L := by rw [nI_p2]; exact sc_in (by omega) hL
  have hv3 : vp_in (nI i + 3) L := by rw [nI_p3]; exact sc_in (by omega) hL
  refine lv_aload_n hx hb dL_law_784 rfl (lv_at hl 1 rfl) ?_
  refine clVi (C := RX3) (b := u) (As := []) (rest := []) ⟨hx, hb, hml, hown, hts⟩ hM hE hS (ok_X3_first l D cs (AS s) u _ _ (S_first hR)) (cwV 0 hts gL_law_X3_first rfl rfl rfl (by decide +kernel) ⟨(Nat.le_of_ble_eq_true rfl), (Nat.le_of_ble_eq_true rfl)⟩) (rc3 hM hE.1 (Rel_u hR)) rfl hl.1 rfl (Nat.le_of_ble_eq_true rfl) dL_law_785 ⟨by show cl + 0 ≤ 600000; omega, by show sl + 0 ≤ 7302250; omega⟩ (fun r1 σ1 H locs h1 hM hS => ?_)
  obtain ⟨hk5, h1⟩ := h1
  refine lv_aload_n hx hb dL_law_788 rfl (lv_at hl 2 rfl) ?_
  refine clVi (C := RX4) (b := t) (As := []) (rest := [.int r1]) ⟨hx, hb, hml, hown, hts⟩ hM hE hS (ok_X4_first l D cs (AS s) t _ _ h1) (cwV 0 hts gL_law_X4_first rfl rfl rfl (by decide +kernel) ⟨(Nat.le_of_ble_eq_true rfl), (Nat.le_of_ble_eq_true rfl)⟩) (rc4 hM hE.1 hk5) rfl hl.1 rfl (Nat.le_of_ble_eq_true rfl) dL_law_789 ⟨by show cl + 0 + 0 ≤ 600000; omega, by show sl + 0 + 0 ≤ 7302250; omega⟩ (fun r2 σ2 H locs h2 hM hS => ?_)
  obtain ⟨hrr, hR2⟩ := h2
  refine lv_icmp_eq (tgt := 1032) hx hb dL_law_792 (by decide) (fun hc => ?_) (fun hc => absurd hrr hc)
  refine W.widen (k := cl + 2) (n := sl + 24) (by omega) (by omega) ?_
  exact kn σ2 H locs hR2 hM hS ls hl
set_option maxHeartbeats 4000000 in
set_option maxRecDepth 100000 in
theorem law_settle {p : Program} {l : Launch} {e : Env} {s : State} {m : MethodId} {below : List Frame} {meth : Method} {c : Code} {D : va_G} {cs : CS} {b L : Nat} {xs : Nat → Int32} {u t : Nat} {q qM : Nat → Nat} (C0 : lw_At p s m meth c b L xs) (hE : EN D cs (AS s) s) {i : Nat} (hi : i + 3 < L) (hL : L ≤ 2048) {cl sl : Nat} (hcl : cl ≤ 500000) (hsl : sl ≤ 7000000)
    (kn : ∀ (σ : MM) (H : Heap) (locs : List Loc), Rel u t q qM σ → PH D cs (AS s) σ H → va_S (AS s) s.heap H locs → ∀ (ls : Array Slot), lv_has ls 4 [(0, .ref b), (1, .ref u), (2, .ref t), (3, .int (nI i))] → W p l e room_1 s m #[Value.ref b] below meth c H locs (cl + 2) (sl + 24) (lw_Z below #[Value.ref b] s) (F0 m 1032 ls []))
    {σ : MM} {H : Heap} {locs : List Loc} {ls : Array Slot} (hR : Rel u t q qM σ) (hM : PH D cs (AS s) σ H) (hS : va_S (AS s) s.heap H locs) (hl : lv_has ls 4 [(0, .ref b), (1, .ref u), (2, .ref t), (3, .int (nI i))]) : W p l e room_1 s m #[Value.ref b] below meth c H locs cl sl (lw_Z below #[Value.ref b] s) (F0 m 797 ls []) := by
  obtain ⟨hx, hb, hr, hml, hown0, hts0, hX, hbl, hlocks, hgv⟩ := C0
  have hown : s.vm.findClass RL = some m.cls := hown0
  have hts : ∀ w ∈ wsL_law, w.before #[Value.ref b] s = true := fun w hw => hts0 w (wsL_law_in w hw)
  have hbA : ¬ AS s b := Nat.not_le.mpr hbl
  have hv1 : vp_in (nI i + 1) L := by rw [nI_1]; exact sc_in (by omega) hL
  have hv2 : vp_in (nI i + 2) L := by rw [nI_p2]; exact sc_in (by omega) hL
  have hv3 : vp_in (nI i + 3) L := by rw [nI_p3]; exact sc_in (by omega) hL
  refine lv_aload_n hx hb dL_law_797 rfl (lv_at hl 1 rfl) ?_
  refine lv_aload_n hx hb dL_law_798 rfl (lv_at hl 0 rfl) ?_
  refine lv_iload_n hx hb dL_law_799 rfl (lv_at hl 3 rfl) ?_
  refine lv_iconst (v := 1) hx hb dL_law_800 (by decide) ?_
  refine lv_iadd hx hb dL_law_801 ?_
  refine va_sld hx hb hX hbl hbA hS hv1 dL_law_802 ?_
  refine lv_aload_n hx hb dL_law_803 rfl (lv_at hl 0 rfl) ?_
  refine lv_iload_n hx hb dL_law_804 rfl (lv_at hl 3 rfl) ?_
  refine lv_iconst (v := 2) hx hb dL_law_805 (by decide) ?_
  refine lv_iadd hx hb dL_law_806 ?_
  refine va_sld hx hb hX hbl hbA hS hv2 dL_law_807 ?_
  refine lv_aload_n hx hb dL_law_808 rfl (lv_at hl 0 rfl) ?_
  refine lv_iload_n hx hb dL_law_809 rfl (lv_at hl 3 rfl) ?_
  refine lv_iconst (v := 3) hx hb dL_law_810 (by decide) ?_
  refine lv_iadd hx hb dL_law_811 ?_
  refine va_sld hx hb hX hbl hbA hS hv3 dL_law_812 ?_
  refine clVi (C := RX3) (b := u) (As := [.int (xs (nI i + 1).toNatClampNeg), .int (xs (nI i + 2).toNatClampNeg), .int (xs (nI i + 3).toNatClampNeg)]) (rest := []) ⟨hx, hb, hml, hown, hts⟩ hM hE hS (ok_X3_settle l D cs (AS s) u (xs (nI i + 1).toNatClampNeg) (xs (nI i + 2).toNatClampNeg) (xs (nI i + 3).toNatClampNeg) _ _ (S_settle hR (xs (nI i + 1).toNatClampNeg) (xs (nI i + 2).toNatClampNeg) (xs (nI i + 3).toNatClampNeg))) (cwV 3 hts gL_law_X3_settle rfl rfl rfl (by decide +kernel) ⟨(Nat.le_of_ble_eq_true rfl), (Nat.le_of_ble_eq_true rfl)⟩) (rc3 hM hE.1 (Rel_u hR)) rfl hl.1 rfl (Nat.le_of_ble_eq_true rfl) dL_law_813 ⟨by show cl + 0 ≤ 600000; omega, by show sl + 0 ≤ 7302250; omega⟩ (fun r1 σ1 H locs h1 hM hS => ?_)
  obtain ⟨hk5, h1⟩ := h1
  refine lv_aload_n hx hb dL_law_816 rfl (lv_at hl 2 rfl) ?_
  refine lv_aload_n hx hb dL_law_817 rfl (lv_at hl 0 rfl) ?_
  refine lv_iload_n hx hb dL_law_818 rfl (lv_at hl 3 rfl) ?_
  refine lv_iconst (v := 1) hx hb dL_law_819 (by decide) ?_
  refine lv_iadd hx hb dL_law_820 ?_
  refine va_sld hx hb hX hbl hbA hS hv1 dL_law_821 ?_
  refine lv_aload_n hx hb dL_law_822 rfl (lv_at hl 0 rfl) ?_
  refine lv_iload_n hx hb dL_law_823 rfl (lv_at hl 3 rfl) ?_
  refine lv_iconst (v := 2) hx hb dL_law_824 (by decide) ?_
  refine lv_iadd hx hb dL_law_825 ?_
  refine va_sld hx hb hX hbl hbA hS hv2 dL_law_826 ?_
  refine lv_aload_n hx hb dL_law_827 rfl (lv_at hl 0 rfl) ?_
  refine lv_iload_n hx hb dL_law_828 rfl (lv_at hl 3 rfl) ?_
  refine lv_iconst (v := 3) hx hb dL_law_829 (by decide) ?_
  refine lv_iadd hx hb dL_law_830 ?_
  refine va_sld hx hb hX hbl hbA hS hv3 dL_law_831 ?_
  refine clVi (C := RX4) (b := t) (As := [.int (xs (nI i + 1).toNatClampNeg), .int (xs (nI i + 2).toNatClampNeg), .int (xs (nI i + 3).toNatClampNeg)]) (rest := [.int r1]) ⟨hx, hb, hml, hown, hts⟩ hM hE hS (ok_X4_settle l D cs (AS s) t (xs (nI i + 1).toNatClampNeg) (xs (nI i + 2).toNatClampNeg) (xs (nI i + 3).toNatClampNeg) _ _ h1) (cwV 3 hts gL_law_X4_settle rfl rfl rfl (by decide +kernel) ⟨(Nat.le_of_ble_eq_true rfl), (Nat.le_of_ble_eq_true rfl)⟩) (rc4 hM hE.1 hk5) rfl hl.1 rfl (Nat.le_of_ble_eq_true rfl) dL_law_832 ⟨by show cl + 0 + 0 ≤ 600000; omega, by show sl + 0 + 0 ≤ 7302250; omega⟩ (fun r2 σ2 H locs h2 hM hS => ?_)
  obtain ⟨hrr, hR2⟩ := h2
  refine lv_icmp_eq (tgt := 1032) hx hb dL_law_835 (by decide) (fun hc => ?_) (fun hc => absurd hrr hc)
  refine W.widen (k := cl + 2) (n := sl + 24) (by omega) (by omega) ?_
  exact kn σ2 H locs hR2 hM hS ls hl
set_option maxHeartbeats 4000000 in
set_option maxRecDepth 100000 in
theorem law_recode {p : Program} {l : Launch} {e : Env} {s : State} {m : MethodId} {below : List Frame} {meth : Method} {c : Code} {D : va_G} {cs : CS} {b L : Nat} {xs : Nat → Int32} {u t : Nat} {q qM : Nat → Nat} (C0 : lw_At p s m meth c b L xs) (hE : EN D cs (AS s) s) {i : Nat} (hi : i + 3 < L) (hL : L ≤ 2048) {cl sl : Nat} (hcl : cl ≤ 500000) (hsl : sl ≤ 7000000)
    (kn : ∀ (σ : MM) (H : Heap) (locs : List Loc), Rel u t q qM σ → PH D cs (AS s) σ H → va_S (AS s) s.heap H locs → ∀ (ls : Array Slot), lv_has ls 4 [(0, .ref b), (1, .ref u), (2, .ref t), (3, .int (nI i))] → W p l e room_1 s m #[Value.ref b] below meth c H locs (cl + 2) (sl + 24) (lw_Z below #[Value.ref b] s) (F0 m 1032 ls []))
    {σ : MM} {H : Heap} {locs : List Loc} {ls : Array Slot} (hR : Rel u t q qM σ) (hM : PH D cs (AS s) σ H) (hS : va_S (AS s) s.heap H locs) (hl : lv_has ls 4 [(0, .ref b), (1, .ref u), (2, .ref t), (3, .int (nI i))]) : W p l e room_1 s m #[Value.ref b] below meth c H locs cl sl (lw_Z below #[Value.ref b] s) (F0 m 840 ls []) := by
  obtain ⟨hx, hb, hr, hml, hown0, hts0, hX, hbl, hlocks, hgv⟩ := C0
  have hown : s.vm.findClass RL = some m.cls := hown0
  have hts : ∀ w ∈ wsL_law, w.before #[Value.ref b] s = true := fun w hw => hts0 w (wsL_law_in w hw)
  have hbA : ¬ AS s b := Nat.not_le.mpr hbl
  have hv1 : vp_in (nI i + 1) L := by rw [nI_1]; exact sc_in (by omega) hL
  have hv2 : vp_in (nI i + 2) L := by rw [nI_p2]; exact sc_in (by omega) hL
  have hv3 : vp_in (nI i + 3) L := by rw [nI_p3]; exact sc_in (by omega) hL
  refine lv_aload_n hx hb dL_law_840 rfl (lv_at hl 1 rfl) ?_
  refine clVi (C := RX3) (b := u) (As := []) (rest := []) ⟨hx, hb, hml, hown, hts⟩ hM hE hS (ok_X3_recode l D cs (AS s) u _ _ (S_recode hR)) (cwV 0 hts gL_law_X3_recode rfl rfl rfl (by decide +kernel) ⟨(Nat.le_of_ble_eq_true rfl), (Nat.le_of_ble_eq_true rfl)⟩) (rc3 hM hE.1 (Rel_u hR)) rfl hl.1 rfl (Nat.le_of_ble_eq_true rfl) dL_law_841 ⟨by show cl + 0 ≤ 600000; omega, by show sl + 0 ≤ 7302250; omega⟩ (fun r1 σ1 H locs h1 hM hS => ?_)
  obtain ⟨hk5, h1⟩ := h1
  refine lv_aload_n hx hb dL_law_844 rfl (lv_at hl 2 rfl) ?_
  refine clVi (C := RX4) (b := t) (As := []) (rest := [.int r1]) ⟨hx, hb, hml, hown, hts⟩ hM hE hS (ok_X4_recode l D cs (AS s) t _ _ h1) (cwV 0 hts gL_law_X4_recode rfl rfl rfl (by decide +kernel) ⟨(Nat.le_of_ble_eq_true rfl), (Nat.le_of_ble_eq_true rfl)⟩) (rc4 hM hE.1 hk5) rfl hl.1 rfl (Nat.le_of_ble_eq_true rfl) dL_law_845 ⟨by show cl + 0 + 0 ≤ 600000; omega, by show sl + 0 + 0 ≤ 7302250; omega⟩ (fun r2 σ2 H locs h2 hM hS => ?_)
  obtain ⟨hrr, hR2⟩ := h2
  refine lv_icmp_eq (tgt := 1032) hx hb dL_law_848 (by decide) (fun hc => ?_) (fun hc => absurd hrr hc)
  refine W.widen (k := cl + 2) (n := sl + 24) (by omega) (by omega) ?_
  exact kn σ2 H locs hR2 hM hS ls hl
set_option maxHeartbeats 4000000 in
set_option maxRecDepth 100000 in
theorem law_second {p : Program} {l : Launch} {e : Env} {s : State} {m : MethodId} {below : List Frame} {meth : Method} {c : Code} {D : va_G} {cs : CS} {b L : Nat} {xs : Nat → Int32} {u t : Nat} {q qM : Nat → Nat} (C0 : lw_At p s m meth c b L xs) (hE : EN D cs (AS s) s) {i : Nat} (hi : i + 3 < L) (hL : L ≤ 2048) {cl sl : Nat} (hcl : cl ≤ 500000) (hsl : sl ≤ 7000000)
    (kn : ∀ (σ : MM) (H : Heap) (locs : List Loc), Rel u t q qM σ → PH D cs (AS s) σ H → va_S (AS s) s.heap H locs → ∀ (ls : Array Slot), lv_has ls 4 [(0, .ref b), (1, .ref u), (2, .ref t), (3, .int (nI i))] → W p l e room_1 s m #[Value.ref b] below meth c H locs (cl + 2) (sl + 24) (lw_Z below #[Value.ref b] s) (F0 m 1032 ls []))
    {σ : MM} {H : Heap} {locs : List Loc} {ls : Array Slot} (hR : Rel u t q qM σ) (hM : PH D cs (AS s) σ H) (hS : va_S (AS s) s.heap H locs) (hl : lv_has ls 4 [(0, .ref b), (1, .ref u), (2, .ref t), (3, .int (nI i))]) : W p l e room_1 s m #[Value.ref b] below meth c H locs cl sl (lw_Z below #[Value.ref b] s) (F0 m 853 ls []) := by
  obtain ⟨hx, hb, hr, hml, hown0, hts0, hX, hbl, hlocks, hgv⟩ := C0
  have hown : s.vm.findClass RL = some m.cls := hown0
  have hts : ∀ w ∈ wsL_law, w.before #[Value.ref b] s = true := fun w hw => hts0 w (wsL_law_in w hw)
  have hbA : ¬ AS s b := Nat.not_le.mpr hbl
  have hv1 : vp_in (nI i + 1) L := by rw [nI_1]; exact sc_in (by omega) hL
  have hv2 : vp_in (nI i + 2) L := by rw [nI_p2]; exact sc_in (by omega) hL
  have hv3 : vp_in (nI i + 3) L := by rw [nI_p3]; exact sc_in (by omega) hL
  refine lv_aload_n hx hb dL_law_853 rfl (lv_at hl 1 rfl) ?_
  refine lv_aload_n hx hb dL_law_854 rfl (lv_at hl 0 rfl) ?_
  refine lv_iload_n hx hb dL_law_855 rfl (lv_at hl 3 rfl) ?_
  refine lv_iconst (v := 1) hx hb dL_law_856 (by decide) ?_
  refine lv_iadd hx hb dL_law_857 ?_
  refine va_sld hx hb hX hbl hbA hS hv1 dL_law_858 ?_
  refine lv_aload_n hx hb dL_law_859 rfl (lv_at hl 0 rfl) ?_
  refine lv_iload_n hx hb dL_law_860 rfl (lv_at hl 3 rfl) ?_
  refine lv_iconst (v := 2) hx hb dL_law_861 (by decide) ?_
  refine lv_iadd hx hb dL_law_862 ?_
  refine va_sld hx hb hX hbl hbA hS hv2 dL_law_863 ?_
  refine lv_aload_n hx hb dL_law_864 rfl (lv_at hl 0 rfl) ?_
  refine lv_iload_n hx hb dL_law_865 rfl (lv_at hl 3 rfl) ?_
  refine lv_iconst (v := 3) hx hb dL_law_866 (by decide) ?_
  refine lv_iadd hx hb dL_law_867 ?_
  refine va_sld hx hb hX hbl hbA hS hv3 dL_law_868 ?_
  refine clVi (C := RX3) (b := u) (As := [.int (xs (nI i + 1).toNatClampNeg), .int (xs (nI i + 2).toNatClampNeg), .int (xs (nI i + 3).toNatClampNeg)]) (rest := []) ⟨hx, hb, hml, hown, hts⟩ hM hE hS (ok_X3_second l D cs (AS s) u (xs (nI i + 1).toNatClampNeg) (xs (nI i + 2).toNatClampNeg) (xs (nI i + 3).toNatClampNeg) _ _ (S_second hR (xs (nI i + 1).toNatClampNeg) (xs (nI i + 2).toNatClampNeg) (xs (nI i + 3).toNatClampNeg))) (cwV 3 hts gL_law_X3_second rfl rfl rfl (by decide +kernel) ⟨(Nat.le_of_ble_eq_true rfl), (Nat.le_of_ble_eq_true rfl)⟩) (rc3 hM hE.1 (Rel_u hR)) rfl hl.1 rfl (Nat.le_of_ble_eq_true rfl) dL_law_869 ⟨by show cl + 0 ≤ 600000; omega, by show sl + 0 ≤ 7302250; omega⟩ (fun r1 σ1 H locs h1 hM hS => ?_)
  obtain ⟨hk5, h1⟩ := h1
  refine lv_aload_n hx hb dL_law_872 rfl (lv_at hl 2 rfl) ?_
  refine lv_aload_n hx hb dL_law_873 rfl (lv_at hl 0 rfl) ?_
  refine lv_iload_n hx hb dL_law_874 rfl (lv_at hl 3 rfl) ?_
  refine lv_iconst (v := 1) hx hb dL_law_875 (by decide) ?_
  refine lv_iadd hx hb dL_law_876 ?_
  refine va_sld hx hb hX hbl hbA hS hv1 dL_law_877 ?_
  refine lv_aload_n hx hb dL_law_878 rfl (lv_at hl 0 rfl) ?_
  refine lv_iload_n hx hb dL_law_879 rfl (lv_at hl 3 rfl) ?_
  refine lv_iconst (v := 2) hx hb dL_law_880 (by decide) ?_
  refine lv_iadd hx hb dL_law_881 ?_
  refine va_sld hx hb hX hbl hbA hS hv2 dL_law_882 ?_
  refine lv_aload_n hx hb dL_law_883 rfl (lv_at hl 0 rfl) ?_
  refine lv_iload_n hx hb dL_law_884 rfl (lv_at hl 3 rfl) ?_
  refine lv_iconst (v := 3) hx hb dL_law_885 (by decide) ?_
  refine lv_iadd hx hb dL_law_886 ?_
  refine va_sld hx hb hX hbl hbA hS hv3 dL_law_887 ?_
  refine clVi (C := RX4) (b := t) (As := [.int (xs (nI i + 1).toNatClampNeg), .int (xs (nI i + 2).toNatClampNeg), .int (xs (nI i + 3).toNatClampNeg)]) (rest := [.int r1]) ⟨hx, hb, hml, hown, hts⟩ hM hE hS (ok_X4_second l D cs (AS s) t (xs (nI i + 1).toNatClampNeg) (xs (nI i + 2).toNatClampNeg) (xs (nI i + 3).toNatClampNeg) _ _ h1) (cwV 3 hts gL_law_X4_second rfl rfl rfl (by decide +kernel) ⟨(Nat.le_of_ble_eq_true rfl), (Nat.le_of_ble_eq_true rfl)⟩) (rc4 hM hE.1 hk5) rfl hl.1 rfl (Nat.le_of_ble_eq_true rfl) dL_law_888 ⟨by show cl + 0 + 0 ≤ 600000; omega, by show sl + 0 + 0 ≤ 7302250; omega⟩ (fun r2 σ2 H locs h2 hM hS => ?_)
  obtain ⟨hrr, hR2⟩ := h2
  refine lv_icmp_eq (tgt := 1032) hx hb dL_law_891 (by decide) (fun hc => ?_) (fun hc => absurd hrr hc)
  refine W.widen (k := cl + 2) (n := sl + 24) (by omega) (by omega) ?_
  exact kn σ2 H locs hR2 hM hS ls hl
set_option maxHeartbeats 4000000 in
set_option maxRecDepth 100000 in
theorem law_told {p : Program} {l : Launch} {e : Env} {s : State} {m : MethodId} {below : List Frame} {meth : Method} {c : Code} {D : va_G} {cs : CS} {b L : Nat} {xs : Nat → Int32} {u t : Nat} {q qM : Nat → Nat} (C0 : lw_At p s m meth c b L xs) (hE : EN D cs (AS s) s) {i : Nat} (hi : i + 3 < L) (hL : L ≤ 2048) {cl sl : Nat} (hcl : cl ≤ 500000) (hsl : sl ≤ 7000000)
    (kn : ∀ (σ : MM) (H : Heap) (locs : List Loc), Rel u t q qM σ → PH D cs (AS s) σ H → va_S (AS s) s.heap H locs → ∀ (ls : Array Slot), lv_has ls 4 [(0, .ref b), (1, .ref u), (2, .ref t), (3, .int (nI i))] → W p l e room_1 s m #[Value.ref b] below meth c H locs (cl + 2) (sl + 24) (lw_Z below #[Value.ref b] s) (F0 m 1032 ls []))
    {σ : MM} {H : Heap} {locs : List Loc} {ls : Array Slot} (hR : Rel u t q qM σ) (hM : PH D cs (AS s) σ H) (hS : va_S (AS s) s.heap H locs) (hl : lv_has ls 4 [(0, .ref b), (1, .ref u), (2, .ref t), (3, .int (nI i))]) : W p l e room_1 s m #[Value.ref b] below meth c H locs cl sl (lw_Z below #[Value.ref b] s) (F0 m 896 ls []) := by
  obtain ⟨hx, hb, hr, hml, hown0, hts0, hX, hbl, hlocks, hgv⟩ := C0
  have hown : s.vm.findClass RL = some m.cls := hown0
  have hts : ∀ w ∈ wsL_law, w.before #[Value.ref b] s = true := fun w hw => hts0 w (wsL_law_in w hw)
  have hbA : ¬ AS s b := Nat.not_le.mpr hbl
  have hv1 : vp_in (nI i + 1) L := by rw [nI_1]; exact sc_in (by omega) hL
  have hv2 : vp_in (nI i + 2) L := by rw [nI_p2]; exact sc_in (by omega) hL
  have hv3 : vp_in (nI i + 3) L := by rw [nI_p3]; exact sc_in (by omega) hL
  refine lv_aload_n hx hb dL_law_896 rfl (lv_at hl 1 rfl) ?_
  refine lv_aload_n hx hb dL_law_897 rfl (lv_at hl 0 rfl) ?_
  refine lv_iload_n hx hb dL_law_898 rfl (lv_at hl 3 rfl) ?_
  refine lv_iconst (v := 1) hx hb dL_law_899 (by decide) ?_
  refine lv_iadd hx hb dL_law_900 ?_
  refine va_sld hx hb hX hbl hbA hS hv1 dL_law_901 ?_
  refine lv_aload_n hx hb dL_law_902 rfl (lv_at hl 0 rfl) ?_
  refine lv_iload_n hx hb dL_law_903 rfl (lv_at hl 3 rfl) ?_
  refine lv_iconst (v := 2) hx hb dL_law_904 (by decide) ?_
  refine lv_iadd hx hb dL_law_905 ?_
  refine va_sld hx hb hX hbl hbA hS hv2 dL_law_906 ?_
  refine clVi (C := RX3) (b := u) (As := [.int (xs (nI i + 1).toNatClampNeg), .int (xs (nI i + 2).toNatClampNeg)]) (rest := []) ⟨hx, hb, hml, hown, hts⟩ hM hE hS (ok_X3_told l D cs (AS s) u (xs (nI i + 1).toNatClampNeg) (xs (nI i + 2).toNatClampNeg) _ _ (S_told hR (xs (nI i + 1).toNatClampNeg) (xs (nI i + 2).toNatClampNeg))) (cwV 2 hts gL_law_X3_told rfl rfl rfl (by decide +kernel) ⟨(Nat.le_of_ble_eq_true rfl), (Nat.le_of_ble_eq_true rfl)⟩) (rc3 hM hE.1 (Rel_u hR)) rfl hl.1 rfl (Nat.le_of_ble_eq_true rfl) dL_law_907 ⟨by show cl + 0 ≤ 600000; omega, by show sl + 0 ≤ 7302250; omega⟩ (fun r1 σ1 H locs h1 hM hS => ?_)
  obtain ⟨hk5, h1⟩ := h1
  refine lv_aload_n hx hb dL_law_910 rfl (lv_at hl 2 rfl) ?_
  refine lv_aload_n hx hb dL_law_911 rfl (lv_at hl 0 rfl) ?_
  refine lv_iload_n hx hb dL_law_912 rfl (lv_at hl 3 rfl) ?_
  refine lv_iconst (v := 1) hx hb dL_law_913 (by decide) ?_
  refine lv_iadd hx hb dL_law_914 ?_
  refine va_sld hx hb hX hbl hbA hS hv1 dL_law_915 ?_
  refine lv_aload_n hx hb dL_law_916 rfl (lv_at hl 0 rfl) ?_
  refine lv_iload_n hx hb dL_law_917 rfl (lv_at hl 3 rfl) ?_
  refine lv_iconst (v := 2) hx hb dL_law_918 (by decide) ?_
  refine lv_iadd hx hb dL_law_919 ?_
  refine va_sld hx hb hX hbl hbA hS hv2 dL_law_920 ?_
  refine clVi (C := RX4) (b := t) (As := [.int (xs (nI i + 1).toNatClampNeg), .int (xs (nI i + 2).toNatClampNeg)]) (rest := [.int r1]) ⟨hx, hb, hml, hown, hts⟩ hM hE hS (ok_X4_told l D cs (AS s) t (xs (nI i + 1).toNatClampNeg) (xs (nI i + 2).toNatClampNeg) _ _ h1) (cwV 2 hts gL_law_X4_told rfl rfl rfl (by decide +kernel) ⟨(Nat.le_of_ble_eq_true rfl), (Nat.le_of_ble_eq_true rfl)⟩) (rc4 hM hE.1 hk5) rfl hl.1 rfl (Nat.le_of_ble_eq_true rfl) dL_law_921 ⟨by show cl + 0 + 0 ≤ 600000; omega, by show sl + 0 + 0 ≤ 7302250; omega⟩ (fun r2 σ2 H locs h2 hM hS => ?_)
  obtain ⟨hrr, hR2⟩ := h2
  refine lv_icmp_eq (tgt := 1032) hx hb dL_law_924 (by decide) (fun hc => ?_) (fun hc => absurd hrr hc)
  refine W.widen (k := cl + 2) (n := sl + 24) (by omega) (by omega) ?_
  exact kn σ2 H locs hR2 hM hS ls hl
set_option maxHeartbeats 4000000 in
set_option maxRecDepth 100000 in
theorem law_coded {p : Program} {l : Launch} {e : Env} {s : State} {m : MethodId} {below : List Frame} {meth : Method} {c : Code} {D : va_G} {cs : CS} {b L : Nat} {xs : Nat → Int32} {u t : Nat} {q qM : Nat → Nat} (C0 : lw_At p s m meth c b L xs) (hE : EN D cs (AS s) s) {i : Nat} (hi : i + 3 < L) (hL : L ≤ 2048) {cl sl : Nat} (hcl : cl ≤ 500000) (hsl : sl ≤ 7000000)
    (kn : ∀ (σ : MM) (H : Heap) (locs : List Loc), Rel u t q qM σ → PH D cs (AS s) σ H → va_S (AS s) s.heap H locs → ∀ (ls : Array Slot), lv_has ls 4 [(0, .ref b), (1, .ref u), (2, .ref t), (3, .int (nI i))] → W p l e room_1 s m #[Value.ref b] below meth c H locs (cl + 2) (sl + 24) (lw_Z below #[Value.ref b] s) (F0 m 1032 ls []))
    {σ : MM} {H : Heap} {locs : List Loc} {ls : Array Slot} (hR : Rel u t q qM σ) (hM : PH D cs (AS s) σ H) (hS : va_S (AS s) s.heap H locs) (hl : lv_has ls 4 [(0, .ref b), (1, .ref u), (2, .ref t), (3, .int (nI i))]) : W p l e room_1 s m #[Value.ref b] below meth c H locs cl sl (lw_Z below #[Value.ref b] s) (F0 m 929 ls []) := by
  obtain ⟨hx, hb, hr, hml, hown0, hts0, hX, hbl, hlocks, hgv⟩ := C0
  have hown : s.vm.findClass RL = some m.cls := hown0
  have hts : ∀ w ∈ wsL_law, w.before #[Value.ref b] s = true := fun w hw => hts0 w (wsL_law_in w hw)
  have hbA : ¬ AS s b := Nat.not_le.mpr hbl
  have hv1 : vp_in (nI i + 1) L := by rw [nI_1]; exact sc_in (by omega) hL
  have hv2 : vp_in (nI i + 2) L := by rw [nI_p2]; exact sc_in (by omega) hL
  have hv3 : vp_in (nI i + 3) L := by rw [nI_p3]; exact sc_in (by omega) hL
  refine lv_aload_n hx hb dL_law_929 rfl (lv_at hl 1 rfl) ?_
  refine lv_aload_n hx hb dL_law_930 rfl (lv_at hl 0 rfl) ?_
  refine lv_iload_n hx hb dL_law_931 rfl (lv_at hl 3 rfl) ?_
  refine lv_iconst (v := 1) hx hb dL_law_932 (by decide) ?_
  refine lv_iadd hx hb dL_law_933 ?_
  refine va_sld hx hb hX hbl hbA hS hv1 dL_law_934 ?_
  refine clVi (C := RX3) (b := u) (As := [.int (xs (nI i + 1).toNatClampNeg)]) (rest := []) ⟨hx, hb, hml, hown, hts⟩ hM hE hS (ok_X3_coded l D cs (AS s) u (xs (nI i + 1).toNatClampNeg) _ _ (S_coded hR (xs (nI i + 1).toNatClampNeg))) (cwV 1 hts gL_law_X3_coded rfl rfl rfl (by decide +kernel) ⟨(Nat.le_of_ble_eq_true rfl), (Nat.le_of_ble_eq_true rfl)⟩) (rc3 hM hE.1 (Rel_u hR)) rfl hl.1 rfl (Nat.le_of_ble_eq_true rfl) dL_law_935 ⟨by show cl + 0 ≤ 600000; omega, by show sl + 0 ≤ 7302250; omega⟩ (fun r1 σ1 H locs h1 hM hS => ?_)
  obtain ⟨hk5, h1⟩ := h1
  refine lv_aload_n hx hb dL_law_938 rfl (lv_at hl 2 rfl) ?_
  refine lv_aload_n hx hb dL_law_939 rfl (lv_at hl 0 rfl) ?_
  refine lv_iload_n hx hb dL_law_940 rfl (lv_at hl 3 rfl) ?_
  refine lv_iconst (v := 1) hx hb dL_law_941 (by decide) ?_
  refine lv_iadd hx hb dL_law_942 ?_
  refine va_sld hx hb hX hbl hbA hS hv1 dL_law_943 ?_
  refine clVi (C := RX4) (b := t) (As := [.int (xs (nI i + 1).toNatClampNeg)]) (rest := [.int r1]) ⟨hx, hb, hml, hown, hts⟩ hM hE hS (ok_X4_coded l D cs (AS s) t (xs (nI i + 1).toNatClampNeg) _ _ h1) (cwV 1 hts gL_law_X4_coded rfl rfl rfl (by decide +kernel) ⟨(Nat.le_of_ble_eq_true rfl), (Nat.le_of_ble_eq_true rfl)⟩) (rc4 hM hE.1 hk5) rfl hl.1 rfl (Nat.le_of_ble_eq_true rfl) dL_law_944 ⟨by show cl + 0 + 0 ≤ 600000; omega, by show sl + 0 + 0 ≤ 7302250; omega⟩ (fun r2 σ2 H locs h2 hM hS => ?_)
  obtain ⟨hrr, hR2⟩ := h2
  refine lv_icmp_eq (tgt := 1032) hx hb dL_law_947 (by decide) (fun hc => ?_) (fun hc => absurd hrr hc)
  refine W.widen (k := cl + 2) (n := sl + 24) (by omega) (by omega) ?_
  exact kn σ2 H locs hR2 hM hS ls hl
set_option maxHeartbeats 4000000 in
set_option maxRecDepth 100000 in
theorem law_total {p : Program} {l : Launch} {e : Env} {s : State} {m : MethodId} {below : List Frame} {meth : Method} {c : Code} {D : va_G} {cs : CS} {b L : Nat} {xs : Nat → Int32} {u t : Nat} {q qM : Nat → Nat} (C0 : lw_At p s m meth c b L xs) (hE : EN D cs (AS s) s) {i : Nat} (hi : i + 3 < L) (hL : L ≤ 2048) {cl sl : Nat} (hcl : cl ≤ 500000) (hsl : sl ≤ 7000000)
    (kn : ∀ (σ : MM) (H : Heap) (locs : List Loc), Rel u t q qM σ → PH D cs (AS s) σ H → va_S (AS s) s.heap H locs → ∀ (ls : Array Slot), lv_has ls 4 [(0, .ref b), (1, .ref u), (2, .ref t), (3, .int (nI i))] → W p l e room_1 s m #[Value.ref b] below meth c H locs (cl + 2) (sl + 24) (lw_Z below #[Value.ref b] s) (F0 m 1032 ls []))
    {σ : MM} {H : Heap} {locs : List Loc} {ls : Array Slot} (hR : Rel u t q qM σ) (hM : PH D cs (AS s) σ H) (hS : va_S (AS s) s.heap H locs) (hl : lv_has ls 4 [(0, .ref b), (1, .ref u), (2, .ref t), (3, .int (nI i))]) : W p l e room_1 s m #[Value.ref b] below meth c H locs cl sl (lw_Z below #[Value.ref b] s) (F0 m 952 ls []) := by
  obtain ⟨hx, hb, hr, hml, hown0, hts0, hX, hbl, hlocks, hgv⟩ := C0
  have hown : s.vm.findClass RL = some m.cls := hown0
  have hts : ∀ w ∈ wsL_law, w.before #[Value.ref b] s = true := fun w hw => hts0 w (wsL_law_in w hw)
  have hbA : ¬ AS s b := Nat.not_le.mpr hbl
  have hv1 : vp_in (nI i + 1) L := by rw [nI_1]; exact sc_in (by omega) hL
  have hv2 : vp_in (nI i + 2) L := by rw [nI_p2]; exact sc_in (by omega) hL
  have hv3 : vp_in (nI i + 3) L := by rw [nI_p3]; exact sc_in (by omega) hL
  refine lv_aload_n hx hb dL_law_952 rfl (lv_at hl 1 rfl) ?_
  refine lv_aload_n hx hb dL_law_953 rfl (lv_at hl 0 rfl) ?_
  refine lv_iload_n hx hb dL_law_954 rfl (lv_at hl 3 rfl) ?_
  refine lv_iconst (v := 1) hx hb dL_law_955 (by decide) ?_
  refine lv_iadd hx hb dL_law_956 ?_
  refine va_sld hx hb hX hbl hbA hS hv1 dL_law_957 ?_
  refine lv_aload_n hx hb dL_law_958 rfl (lv_at hl 0 rfl) ?_
  refine lv_iload_n hx hb dL_law_959 rfl (lv_at hl 3 rfl) ?_
  refine lv_iconst (v := 2) hx hb dL_law_960 (by decide) ?_
  refine lv_iadd hx hb dL_law_961 ?_
  refine va_sld hx hb hX hbl hbA hS hv2 dL_law_962 ?_
  refine clVi (C := RX3) (b := u) (As := [.int (xs (nI i + 1).toNatClampNeg), .int (xs (nI i + 2).toNatClampNeg)]) (rest := []) ⟨hx, hb, hml, hown, hts⟩ hM hE hS (ok_X3_total l D cs (AS s) u (xs (nI i + 1).toNatClampNeg) (xs (nI i + 2).toNatClampNeg) _ _ (S_total hR (xs (nI i + 1).toNatClampNeg) (xs (nI i + 2).toNatClampNeg))) (cwV 2 hts gL_law_X3_total rfl rfl rfl (by decide +kernel) ⟨(Nat.le_of_ble_eq_true rfl), (Nat.le_of_ble_eq_true rfl)⟩) (rc3 hM hE.1 (Rel_u hR)) rfl hl.1 rfl (Nat.le_of_ble_eq_true rfl) dL_law_963 ⟨by show cl + 0 ≤ 600000; omega, by show sl + 0 ≤ 7302250; omega⟩ (fun r1 σ1 H locs h1 hM hS => ?_)
  obtain ⟨hk5, h1⟩ := h1
  refine lv_aload_n hx hb dL_law_966 rfl (lv_at hl 2 rfl) ?_
  refine lv_aload_n hx hb dL_law_967 rfl (lv_at hl 0 rfl) ?_
  refine lv_iload_n hx hb dL_law_968 rfl (lv_at hl 3 rfl) ?_
  refine lv_iconst (v := 1) hx hb dL_law_969 (by decide) ?_
  refine lv_iadd hx hb dL_law_970 ?_
  refine va_sld hx hb hX hbl hbA hS hv1 dL_law_971 ?_
  refine lv_aload_n hx hb dL_law_972 rfl (lv_at hl 0 rfl) ?_
  refine lv_iload_n hx hb dL_law_973 rfl (lv_at hl 3 rfl) ?_
  refine lv_iconst (v := 2) hx hb dL_law_974 (by decide) ?_
  refine lv_iadd hx hb dL_law_975 ?_
  refine va_sld hx hb hX hbl hbA hS hv2 dL_law_976 ?_
  refine clVi (C := RX4) (b := t) (As := [.int (xs (nI i + 1).toNatClampNeg), .int (xs (nI i + 2).toNatClampNeg)]) (rest := [.int r1]) ⟨hx, hb, hml, hown, hts⟩ hM hE hS (ok_X4_total l D cs (AS s) t (xs (nI i + 1).toNatClampNeg) (xs (nI i + 2).toNatClampNeg) _ _ h1) (cwV 2 hts gL_law_X4_total rfl rfl rfl (by decide +kernel) ⟨(Nat.le_of_ble_eq_true rfl), (Nat.le_of_ble_eq_true rfl)⟩) (rc4 hM hE.1 hk5) rfl hl.1 rfl (Nat.le_of_ble_eq_true rfl) dL_law_977 ⟨by show cl + 0 + 0 ≤ 600000; omega, by show sl + 0 + 0 ≤ 7302250; omega⟩ (fun r2 σ2 H locs h2 hM hS => ?_)
  obtain ⟨hrr, hR2⟩ := h2
  refine lv_icmp_eq (tgt := 1032) hx hb dL_law_980 (by decide) (fun hc => ?_) (fun hc => absurd hrr hc)
  refine W.widen (k := cl + 2) (n := sl + 24) (by omega) (by omega) ?_
  exact kn σ2 H locs hR2 hM hS ls hl
set_option maxHeartbeats 4000000 in
set_option maxRecDepth 100000 in
theorem law_agree {p : Program} {l : Launch} {e : Env} {s : State} {m : MethodId} {below : List Frame} {meth : Method} {c : Code} {D : va_G} {cs : CS} {b L : Nat} {xs : Nat → Int32} {u t : Nat} {q qM : Nat → Nat} (C0 : lw_At p s m meth c b L xs) (hE : EN D cs (AS s) s) {i : Nat} (hi : i + 3 < L) (hL : L ≤ 2048) {cl sl : Nat} (hcl : cl ≤ 500000) (hsl : sl ≤ 7000000)
    (kn : ∀ (σ : MM) (H : Heap) (locs : List Loc), Rel u t q qM σ → PH D cs (AS s) σ H → va_S (AS s) s.heap H locs → ∀ (ls : Array Slot), lv_has ls 4 [(0, .ref b), (1, .ref u), (2, .ref t), (3, .int (nI i))] → W p l e room_1 s m #[Value.ref b] below meth c H locs (cl + 2) (sl + 24) (lw_Z below #[Value.ref b] s) (F0 m 1032 ls []))
    {σ : MM} {H : Heap} {locs : List Loc} {ls : Array Slot} (hR : Rel u t q qM σ) (hM : PH D cs (AS s) σ H) (hS : va_S (AS s) s.heap H locs) (hl : lv_has ls 4 [(0, .ref b), (1, .ref u), (2, .ref t), (3, .int (nI i))]) : W p l e room_1 s m #[Value.ref b] below meth c H locs cl sl (lw_Z below #[Value.ref b] s) (F0 m 985 ls []) := by
  obtain ⟨hx, hb, hr, hml, hown0, hts0, hX, hbl, hlocks, hgv⟩ := C0
  have hown : s.vm.findClass RL = some m.cls := hown0
  have hts : ∀ w ∈ wsL_law, w.before #[Value.ref b] s = true := fun w hw => hts0 w (wsL_law_in w hw)
  have hbA : ¬ AS s b := Nat.not_le.mpr hbl
  have hv1 : vp_in (nI i + 1) L := by rw [nI_1]; exact sc_in (by omega) hL
  have hv2 : vp_in (nI i + 2) L := by rw [nI_p2]; exact sc_in (by omega) hL
  have hv3 : vp_in (nI i + 3) L := by rw [nI_p3]; exact sc_in (by omega) hL
  refine lv_aload_n hx hb dL_law_985 rfl (lv_at hl 1 rfl) ?_
  refine lv_aload_n hx hb dL_law_986 rfl (lv_at hl 0 rfl) ?_
  refine lv_iload_n hx hb dL_law_987 rfl (lv_at hl 3 rfl) ?_
  refine lv_iconst (v := 1) hx hb dL_law_988 (by decide) ?_
  refine lv_iadd hx hb dL_law_989 ?_
  refine va_sld hx hb hX hbl hbA hS hv1 dL_law_990 ?_
  refine clVl (C := RX3) (b := u) (As := [.int (xs (nI i + 1).toNatClampNeg)]) (rest := []) ⟨hx, hb, hml, hown, hts⟩ hM hE hS (ok_X3_agree l D cs (AS s) u (xs (nI i + 1).toNatClampNeg) _ _ (S_agree hR (xs (nI i + 1).toNatClampNeg))) (cwV 1 hts gL_law_X3_agree rfl rfl rfl (by decide +kernel) ⟨(Nat.le_of_ble_eq_true rfl), (Nat.le_of_ble_eq_true rfl)⟩) (rc3 hM hE.1 (Rel_u hR)) rfl hl.1 rfl (Nat.le_of_ble_eq_true rfl) dL_law_991 ⟨by show cl + 0 ≤ 600000; omega, by show sl + 0 ≤ 7302250; omega⟩ (fun r1 σ1 H locs h1 hM hS => ?_)
  obtain ⟨hk5, h1⟩ := h1
  refine lv_aload_n hx hb dL_law_994 rfl (lv_at hl 2 rfl) ?_
  refine lv_aload_n hx hb dL_law_995 rfl (lv_at hl 0 rfl) ?_
  refine lv_iload_n hx hb dL_law_996 rfl (lv_at hl 3 rfl) ?_
  refine lv_iconst (v := 1) hx hb dL_law_997 (by decide) ?_
  refine lv_iadd hx hb dL_law_998 ?_
  refine va_sld hx hb hX hbl hbA hS hv1 dL_law_999 ?_
  refine clVl (C := RX4) (b := t) (As := [.int (xs (nI i + 1).toNatClampNeg)]) (rest := [.long r1]) ⟨hx, hb, hml, hown, hts⟩ hM hE hS (ok_X4_agree l D cs (AS s) t (xs (nI i + 1).toNatClampNeg) _ _ h1) (cwV 1 hts gL_law_X4_agree rfl rfl rfl (by decide +kernel) ⟨(Nat.le_of_ble_eq_true rfl), (Nat.le_of_ble_eq_true rfl)⟩) (rc4 hM hE.1 hk5) rfl hl.1 rfl (Nat.le_of_ble_eq_true rfl) dL_law_1000 ⟨by show cl + 0 + 0 ≤ 600000; omega, by show sl + 0 + 0 ≤ 7302250; omega⟩ (fun r2 σ2 H locs h2 hM hS => ?_)
  obtain ⟨hrr, hR2⟩ := h2
  refine lc_eq (tgt := 1032) hx hb dL_law_1003 dL_law_1004 (by decide) (fun hc => ?_) (fun hc => absurd hrr hc)
  refine W.widen (k := cl + 2) (n := sl + 24) (by omega) (by omega) ?_
  exact kn σ2 H locs hR2 hM hS ls hl
set_option maxHeartbeats 4000000 in
set_option maxRecDepth 100000 in
theorem law_count {p : Program} {l : Launch} {e : Env} {s : State} {m : MethodId} {below : List Frame} {meth : Method} {c : Code} {D : va_G} {cs : CS} {b L : Nat} {xs : Nat → Int32} {u t : Nat} {q qM : Nat → Nat} (C0 : lw_At p s m meth c b L xs) (hE : EN D cs (AS s) s) {i : Nat} (hi : i + 3 < L) (hL : L ≤ 2048) {cl sl : Nat} (hcl : cl ≤ 500000) (hsl : sl ≤ 7000000)
    (kn : ∀ (σ : MM) (H : Heap) (locs : List Loc), Rel u t q qM σ → PH D cs (AS s) σ H → va_S (AS s) s.heap H locs → ∀ (ls : Array Slot), lv_has ls 4 [(0, .ref b), (1, .ref u), (2, .ref t), (3, .int (nI i))] → W p l e room_1 s m #[Value.ref b] below meth c H locs (cl + 2) (sl + 24) (lw_Z below #[Value.ref b] s) (F0 m 1032 ls []))
    {σ : MM} {H : Heap} {locs : List Loc} {ls : Array Slot} (hR : Rel u t q qM σ) (hM : PH D cs (AS s) σ H) (hS : va_S (AS s) s.heap H locs) (hl : lv_has ls 4 [(0, .ref b), (1, .ref u), (2, .ref t), (3, .int (nI i))]) : W p l e room_1 s m #[Value.ref b] below meth c H locs cl sl (lw_Z below #[Value.ref b] s) (F0 m 1009 ls []) := by
  obtain ⟨hx, hb, hr, hml, hown0, hts0, hX, hbl, hlocks, hgv⟩ := C0
  have hown : s.vm.findClass RL = some m.cls := hown0
  have hts : ∀ w ∈ wsL_law, w.before #[Value.ref b] s = true := fun w hw => hts0 w (wsL_law_in w hw)
  have hbA : ¬ AS s b := Nat.not_le.mpr hbl
  have hv1 : vp_in (nI i + 1) L := by rw [nI_1]; exact sc_in (by omega) hL
  have hv2 : vp_in (nI i + 2) L := by rw [nI_p2]; exact sc_in (by omega) hL
  have hv3 : vp_in (nI i + 3) L := by rw [nI_p3]; exact sc_in (by omega) hL
  refine lv_aload_n hx hb dL_law_1009 rfl (lv_at hl 1 rfl) ?_
  refine lv_aload_n hx hb dL_law_1010 rfl (lv_at hl 0 rfl) ?_
  refine lv_iload_n hx hb dL_law_1011 rfl (lv_at hl 3 rfl) ?_
  refine lv_iconst (v := 1) hx hb dL_law_1012 (by decide) ?_
  refine lv_iadd hx hb dL_law_1013 ?_
  refine va_sld hx hb hX hbl hbA hS hv1 dL_law_1014 ?_
  refine clVi (C := RX3) (b := u) (As := [.int (xs (nI i + 1).toNatClampNeg)]) (rest := []) ⟨hx, hb, hml, hown, hts⟩ hM hE hS (ok_X3_count l D cs (AS s) u (xs (nI i + 1).toNatClampNeg) _ _ (S_count hR (xs (nI i + 1).toNatClampNeg))) (cwV 1 hts gL_law_X3_count rfl rfl rfl (by decide +kernel) ⟨(Nat.le_of_ble_eq_true rfl), (Nat.le_of_ble_eq_true rfl)⟩) (rc3 hM hE.1 (Rel_u hR)) rfl hl.1 rfl (Nat.le_of_ble_eq_true rfl) dL_law_1015 ⟨by show cl + 0 ≤ 600000; omega, by show sl + 0 ≤ 7302250; omega⟩ (fun r1 σ1 H locs h1 hM hS => ?_)
  obtain ⟨hk5, h1⟩ := h1
  refine lv_aload_n hx hb dL_law_1018 rfl (lv_at hl 2 rfl) ?_
  refine lv_aload_n hx hb dL_law_1019 rfl (lv_at hl 0 rfl) ?_
  refine lv_iload_n hx hb dL_law_1020 rfl (lv_at hl 3 rfl) ?_
  refine lv_iconst (v := 1) hx hb dL_law_1021 (by decide) ?_
  refine lv_iadd hx hb dL_law_1022 ?_
  refine va_sld hx hb hX hbl hbA hS hv1 dL_law_1023 ?_
  refine clVi (C := RX4) (b := t) (As := [.int (xs (nI i + 1).toNatClampNeg)]) (rest := [.int r1]) ⟨hx, hb, hml, hown, hts⟩ hM hE hS (ok_X4_count l D cs (AS s) t (xs (nI i + 1).toNatClampNeg) _ _ h1) (cwV 1 hts gL_law_X4_count rfl rfl rfl (by decide +kernel) ⟨(Nat.le_of_ble_eq_true rfl), (Nat.le_of_ble_eq_true rfl)⟩) (rc4 hM hE.1 hk5) rfl hl.1 rfl (Nat.le_of_ble_eq_true rfl) dL_law_1024 ⟨by show cl + 0 + 0 ≤ 600000; omega, by show sl + 0 + 0 ≤ 7302250; omega⟩ (fun r2 σ2 H locs h2 hM hS => ?_)
  obtain ⟨hrr, hR2⟩ := h2
  refine lv_icmp_eq (tgt := 1032) hx hb dL_law_1027 (by decide) (fun hc => ?_) (fun hc => absurd hrr hc)
  refine W.widen (k := cl + 2) (n := sl + 24) (by omega) (by omega) ?_
  exact kn σ2 H locs hR2 hM hS ls hl
