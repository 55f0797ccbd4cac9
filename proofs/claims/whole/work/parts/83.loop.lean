set_option maxHeartbeats 4000000 in
set_option maxRecDepth 100000 in
theorem law_loop {p : Program} {l : Launch} {e : Env} {s : State} {m : MethodId} {below : List Frame} {meth : Method} {c : Code} {D : va_G} {cs : CS} {b L : Nat} {xs : Nat → Int32} {u t : Nat} {q qM : Nat → Nat} (C0 : lw_At p s m meth c b L xs) (hE : EN D cs (AS s) s) (hL : L ≤ 2048) : ∀ (n k : Nat), 4 * k ≤ L → L + 1 ≤ 4 * k + n → ∀ (σ : MM) (H : Heap) (locs : List Loc), Rel u t q qM σ → PH D cs (AS s) σ H → va_S (AS s) s.heap H locs → ∀ (ls : Array Slot), lv_has ls 4 [(0, .ref b), (1, .ref u), (2, .ref t), (3, .int (nI (4 * k)))] → W p l e room_1 s m #[Value.ref b] below meth c H locs (100 + 2 * k) (6000 + 24 * k) (lw_Z below #[Value.ref b] s) (F0 m 18 ls []) := by
  have C1 := C0
  obtain ⟨hx, hb, hr, hml, hown0, hts0, hX, hbl, hlocks, hgv⟩ := C1
  have hbA : ¬ AS s b := Nat.not_le.mpr hbl
  intro n
  induction n with
  | zero =>
    intro k h1 h2
    exact absurd h2 (by omega)
  | succ n ih =>
    intro k hk hn σ H locs hR hM hS ls hl
    refine lv_iload_n hx hb dL_law_18 rfl (lv_at hl 3 rfl) ?_
    refine lv_aload_n hx hb dL_law_19 rfl (lv_at hl 0 rfl) ?_
    refine va_slen hx hb hX hbl hbA hS dL_law_20 ?_
    refine lv_iconst (v := 4) hx hb dL_law_21 (by decide) ?_
    refine lv_isub hx hb dL_law_22 ?_
    have eL : (Int32.ofNat L - 4).toInt = (L : Int) - 4 := pk_sub_toInt (a := L) (b := 4) (by omega) (by decide)
    refine lv_icmp_gt (tgt := 1038) hx hb dL_law_23 (by decide) (fun hc => ?_) (fun hc => ?_)
    · refine lv_iconst (v := 1) hx hb dL_law_1038 (by decide) ?_
      refine va_forget (fun q hq => hS.2.2 q hq) ?_
      refine W.widen (k := 600000) (n := 7302250) (by omega) (by omega) ?_
      exact lw_ret hx hb hr hlocks dL_law_1039
    · have hge : 4 * k + 4 ≤ L := by
        rcases Nat.lt_or_ge L (4 * k + 4) with h | h
        · exact absurd (Int32.lt_iff_toInt_lt.mpr (by rw [eL, nI_toInt (by omega)]; omega)) hc
        · exact h
      have kn : ∀ (σ : MM) (H : Heap) (locs : List Loc), Rel u t q qM σ → PH D cs (AS s) σ H → va_S (AS s) s.heap H locs → ∀ (ls : Array Slot), lv_has ls 4 [(0, .ref b), (1, .ref u), (2, .ref t), (3, .int (nI (4 * k)))] → W p l e room_1 s m #[Value.ref b] below meth c H locs (100 + 2 * k + 2) (6000 + 24 * k + 24) (lw_Z below #[Value.ref b] s) (F0 m 1032 ls []) := by
        intro σ H locs hR hM hS ls hl
        obtain ⟨x3, ex3⟩ : ∃ y : Int32, y = nI (4 * k) + 4 := ⟨_, rfl⟩
        refine lv_iinc (v := x3) (lv' := [(3, .int x3), (0, .ref b), (1, .ref u), (2, .ref t)]) hx hb dL_law_1032 hl (k := 3) rfl (by rw [ex3]; rfl) (by decide) rfl (fun ls hl => ?_)
        refine lv_goto (tgt := 18) hx hb dL_law_1035 (by decide) ?_
        have e4 : x3 = nI (4 * (k + 1)) := by rw [ex3, nI_p4]; rfl
        rw [e4] at hl
        refine W.widen (k := 100 + 2 * (k + 1)) (n := 6000 + 24 * (k + 1)) (by omega) (by omega) ?_
        exact ih (k + 1) (by omega) (by omega) σ H locs hR hM hS ls (lv_sub hl [1, 2, 3, 0] rfl)
      have hv0 : vp_in (nI (4 * k)) L := vp_in_nI (by omega) (by omega)
      refine lv_aload_n hx hb dL_law_26 rfl (lv_at hl 0 rfl) ?_
      refine lv_iload_n hx hb dL_law_27 rfl (lv_at hl 3 rfl) ?_
      refine va_sld hx hb hX hbl hbA hS hv0 dL_law_28 ?_
      refine lv_bipush (v := 31) hx hb dL_law_29 (by decide) ?_
      refine lv_iand hx hb dL_law_31 ?_
      generalize xs (nI (4 * k)).toNatClampNeg &&& 31 = z
      rcases sw_28 z with hc | hc | hc | hc | hc | hc | hc | hc | hc | hc | hc | hc | hc | hc | hc | hc | hc | hc | hc | hc | hc | hc | hc | hc | hc | hc | hc | hc | hc | hc
      · refine lv_tableOut (tgt := 1032) hx hb dL_law_32 hc (by decide) ?_
        refine W.widen (k := 100 + 2 * k + 2) (n := 6000 + 24 * k + 24) (by omega) (by omega) ?_
        exact kn σ H locs hR hM hS ls hl
      · refine lv_tableIn (tgt := 164) (off := 132) hx hb dL_law_32 (by rw [hc]; decide) (by rw [hc]; decide) (by rw [hc]; rfl) (by decide) ?_
        exact law_code C0 hE (i := 4 * k) (by omega) hL (by omega) (by omega) kn hR hM hS hl
      · refine lv_tableIn (tgt := 187) (off := 155) hx hb dL_law_32 (by rw [hc]; decide) (by rw [hc]; decide) (by rw [hc]; rfl) (by decide) ?_
        exact law_exclude C0 hE (i := 4 * k) (by omega) hL (by omega) (by omega) kn hR hM hS hl
      · refine lv_tableIn (tgt := 230) (off := 198) hx hb dL_law_32 (by rw [hc]; decide) (by rw [hc]; decide) (by rw [hc]; rfl) (by decide) ?_
        exact law_spell C0 hE (i := 4 * k) (by omega) hL (by omega) (by omega) kn hR hM hS hl
      · refine lv_tableIn (tgt := 263) (off := 231) hx hb dL_law_32 (by rw [hc]; decide) (by rw [hc]; decide) (by rw [hc]; rfl) (by decide) ?_
        exact law_other C0 hE (i := 4 * k) (by omega) hL (by omega) (by omega) kn hR hM hS hl
      · refine lv_tableIn (tgt := 286) (off := 254) hx hb dL_law_32 (by rw [hc]; decide) (by rw [hc]; decide) (by rw [hc]; rfl) (by decide) ?_
        exact law_carry C0 hE (i := 4 * k) (by omega) hL (by omega) (by omega) kn hR hM hS hl
      · refine lv_tableIn (tgt := 329) (off := 297) hx hb dL_law_32 (by rw [hc]; decide) (by rw [hc]; decide) (by rw [hc]; rfl) (by decide) ?_
        exact law_answer C0 hE (i := 4 * k) (by omega) hL (by omega) (by omega) kn hR hM hS hl
      · refine lv_tableIn (tgt := 372) (off := 340) hx hb dL_law_32 (by rw [hc]; decide) (by rw [hc]; decide) (by rw [hc]; rfl) (by decide) ?_
        exact law_put C0 hE (i := 4 * k) (by omega) hL (by omega) (by omega) kn hR hM hS hl
      · refine lv_tableIn (tgt := 405) (off := 373) hx hb dL_law_32 (by rw [hc]; decide) (by rw [hc]; decide) (by rw [hc]; rfl) (by decide) ?_
        exact law_set C0 hE (i := 4 * k) (by omega) hL (by omega) (by omega) kn hR hM hS hl
      · refine lv_tableIn (tgt := 438) (off := 406) hx hb dL_law_32 (by rw [hc]; decide) (by rw [hc]; decide) (by rw [hc]; rfl) (by decide) ?_
        exact law_rule C0 hE (i := 4 * k) (by omega) hL (by omega) (by omega) kn hR hM hS hl
      · refine lv_tableIn (tgt := 481) (off := 449) hx hb dL_law_32 (by rw [hc]; decide) (by rw [hc]; decide) (by rw [hc]; rfl) (by decide) ?_
        exact law_with C0 hE (i := 4 * k) (by omega) hL (by omega) (by omega) kn hR hM hS hl
      · refine lv_tableIn (tgt := 524) (off := 492) hx hb dL_law_32 (by rw [hc]; decide) (by rw [hc]; decide) (by rw [hc]; rfl) (by decide) ?_
        exact law_drop C0 hE (i := 4 * k) (by omega) hL (by omega) (by omega) kn hR hM hS hl
      · refine lv_tableIn (tgt := 547) (off := 515) hx hb dL_law_32 (by rw [hc]; decide) (by rw [hc]; decide) (by rw [hc]; rfl) (by decide) ?_
        exact law_holds C0 hE (i := 4 * k) (by omega) hL (by omega) (by omega) kn hR hM hS hl
      · refine lv_tableIn (tgt := 580) (off := 548) hx hb dL_law_32 (by rw [hc]; decide) (by rw [hc]; decide) (by rw [hc]; rfl) (by decide) ?_
        exact law_ruled C0 hE (i := 4 * k) (by omega) hL (by omega) (by omega) kn hR hM hS hl
      · refine lv_tableIn (tgt := 603) (off := 571) hx hb dL_law_32 (by rw [hc]; decide) (by rw [hc]; decide) (by rw [hc]; rfl) (by decide) ?_
        exact law_quarrel C0 hE (i := 4 * k) (by omega) hL (by omega) (by omega) kn hR hM hS hl
      · refine lv_tableIn (tgt := 626) (off := 594) hx hb dL_law_32 (by rw [hc]; decide) (by rw [hc]; decide) (by rw [hc]; rfl) (by decide) ?_
        exact law_reach C0 hE (i := 4 * k) (by omega) hL (by omega) (by omega) kn hR hM hS hl
      · refine lv_tableIn (tgt := 649) (off := 617) hx hb dL_law_32 (by rw [hc]; decide) (by rw [hc]; decide) (by rw [hc]; rfl) (by decide) ?_
        exact law_gap C0 hE (i := 4 * k) (by omega) hL (by omega) (by omega) kn hR hM hS hl
      · refine lv_tableIn (tgt := 682) (off := 650) hx hb dL_law_32 (by rw [hc]; decide) (by rw [hc]; decide) (by rw [hc]; rfl) (by decide) ?_
        exact law_likeness C0 hE (i := 4 * k) (by omega) hL (by omega) (by omega) kn hR hM hS hl
      · refine lv_tableIn (tgt := 715) (off := 683) hx hb dL_law_32 (by rw [hc]; decide) (by rw [hc]; decide) (by rw [hc]; rfl) (by decide) ?_
        exact law_near C0 hE (i := 4 * k) (by omega) hL (by omega) (by omega) kn hR hM hS hl
      · refine lv_tableIn (tgt := 748) (off := 716) hx hb dL_law_32 (by rw [hc]; decide) (by rw [hc]; decide) (by rw [hc]; rfl) (by decide) ?_
        exact law_liked C0 hE (i := 4 * k) (by omega) hL (by omega) (by omega) kn hR hM hS hl
      · refine lv_tableIn (tgt := 771) (off := 739) hx hb dL_law_32 (by rw [hc]; decide) (by rw [hc]; decide) (by rw [hc]; rfl) (by decide) ?_
        exact law_day C0 hE (i := 4 * k) (by omega) hL (by omega) (by omega) kn hR hM hS hl
      · refine lv_tableIn (tgt := 784) (off := 752) hx hb dL_law_32 (by rw [hc]; decide) (by rw [hc]; decide) (by rw [hc]; rfl) (by decide) ?_
        exact law_first C0 hE (i := 4 * k) (by omega) hL (by omega) (by omega) kn hR hM hS hl
      · refine lv_tableIn (tgt := 797) (off := 765) hx hb dL_law_32 (by rw [hc]; decide) (by rw [hc]; decide) (by rw [hc]; rfl) (by decide) ?_
        exact law_settle C0 hE (i := 4 * k) (by omega) hL (by omega) (by omega) kn hR hM hS hl
      · refine lv_tableIn (tgt := 840) (off := 808) hx hb dL_law_32 (by rw [hc]; decide) (by rw [hc]; decide) (by rw [hc]; rfl) (by decide) ?_
        exact law_recode C0 hE (i := 4 * k) (by omega) hL (by omega) (by omega) kn hR hM hS hl
      · refine lv_tableIn (tgt := 853) (off := 821) hx hb dL_law_32 (by rw [hc]; decide) (by rw [hc]; decide) (by rw [hc]; rfl) (by decide) ?_
        exact law_second C0 hE (i := 4 * k) (by omega) hL (by omega) (by omega) kn hR hM hS hl
      · refine lv_tableIn (tgt := 896) (off := 864) hx hb dL_law_32 (by rw [hc]; decide) (by rw [hc]; decide) (by rw [hc]; rfl) (by decide) ?_
        exact law_told C0 hE (i := 4 * k) (by omega) hL (by omega) (by omega) kn hR hM hS hl
      · refine lv_tableIn (tgt := 929) (off := 897) hx hb dL_law_32 (by rw [hc]; decide) (by rw [hc]; decide) (by rw [hc]; rfl) (by decide) ?_
        exact law_coded C0 hE (i := 4 * k) (by omega) hL (by omega) (by omega) kn hR hM hS hl
      · refine lv_tableIn (tgt := 952) (off := 920) hx hb dL_law_32 (by rw [hc]; decide) (by rw [hc]; decide) (by rw [hc]; rfl) (by decide) ?_
        exact law_total C0 hE (i := 4 * k) (by omega) hL (by omega) (by omega) kn hR hM hS hl
      · refine lv_tableIn (tgt := 985) (off := 953) hx hb dL_law_32 (by rw [hc]; decide) (by rw [hc]; decide) (by rw [hc]; rfl) (by decide) ?_
        exact law_agree C0 hE (i := 4 * k) (by omega) hL (by omega) (by omega) kn hR hM hS hl
      · refine lv_tableIn (tgt := 1009) (off := 977) hx hb dL_law_32 (by rw [hc]; decide) (by rw [hc]; decide) (by rw [hc]; rfl) (by decide) ?_
        exact law_count C0 hE (i := 4 * k) (by omega) hL (by omega) (by omega) kn hR hM hS hl
