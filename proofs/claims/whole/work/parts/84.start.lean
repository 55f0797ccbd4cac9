theorem I_both {σ0 : MM} {u : Nat} (hu : mK σ0 u = 0) : wX3_init u (sN σ0 u 4 0) (fun σ1 => ∀ t, mK σ1 t = 0 → wX4_init t (sN σ1 t 5 0) (fun σ2 => ∃ q qM, Rel u t q qM σ2)) := by
  refine C_init hu (fun q ia ra σ1 R1 ag1 fr1 => ?_)
  intro t ht
  refine M_init ht (fun qM σ2 R2 ag2 fr2 => ?_)
  refine ⟨q, qM, S0 60, ia, ra, RepC_agr R1 (ag2 u (by rw [RepC_K R1]; decide)) (fun i hi => ag2 (q i) (kC R1 i hi).2) (fun j hj => ag2 (ia j) (by rw [RepC_tK R1 j hj]; decide)) (fun j hj => ag2 (ra j) (by rw [RepC_uK R1 j hj]; decide)), R2, Inv_S0, fun i hi j hj e => (kC R1 i hi).2 (by rw [e]; exact fr2 j hj)⟩
theorem ar_prim {s : State} {A : Array Value} {ty : FieldType} (h : (Cond.arrayClass ty).before A s = true) (hp : ∀ C, ty ≠ .object C) (hp2 : ty ≠ .boolean → True) : ∃ cA : ClassId, ArrOfT s cA ty ∧ s.vm.findClass ("[" ++ ty.toString) = some cA := by
  obtain ⟨cA, kA, comp, h1, h2, h3⟩ := Cond.arrayClass_spec h
  exact ⟨cA, fun n z => ⟨(fun k h => by cases h), kA, h2, comp, h3⟩, h1⟩
theorem ar_obj {s : State} {A : Array Value} {C : String} (h : (Cond.arrayOver (.object C)).before A s = true) : ∃ cA : ClassId, ArrOfT s cA (.object C) ∧ va_RA s cA (.object C) := by
  obtain ⟨comp, cA, kA, h1, h2, h3, h4, h5⟩ := Cond.arrayOver_spec h
  exact ⟨cA, fun n z => ⟨(fun k h => by cases h), kA, h3, comp, h4⟩, kA, comp, h3, h4, h1, h5⟩
def σ00 : MM := (fun _ => 0, fun _ => 0, fun _ _ => 0, fun _ _ => 0, fun _ _ => none)
theorem PH_0 {D : va_G} {cs : CS} {A : Nat → Prop} {H : Heap} : PH D cs A σ00 H := by
  refine ⟨[], fun a => ?_, fun k q h => ?_, fun i j p q h => ?_, fun k q h => ?_⟩
  · exact ⟨fun h => absurd h List.not_mem_nil, fun h => absurd rfl h⟩
  · simp [va_pl] at h
  · simp [va_pl] at h
  · simp [va_pl] at h
set_option maxRecDepth 20000 in
theorem EN_start {p : Program} {s : State} {m : MethodId} {meth : Method} {c : Code} {b L : Nat} {xs : Nat → Int32} (C0 : lw_At p s m meth c b L xs) : ∃ (D : va_G) (cs : CS), EN D cs (AS s) s := by
  obtain ⟨hx, hb, hr, hml, hown0, hts0, hX, hbl, hlocks, hgv⟩ := C0
  obtain ⟨c0, s0, k0⟩ := u_known (C := RX0) (T := TX0) (N := 12) (n := 12) hts0 inX0 (hts0 (.instantiable RX0 12) (List.mem_append_right _ (List.mem_of_getElem? (i := 137) (by decide +kernel))))
  obtain ⟨c1, s1, k1⟩ := u_known (C := RX1) (T := TX1) (N := 6) (n := 6) hts0 inX1 (hts0 (.instantiable RX1 6) (List.mem_append_right _ (List.mem_of_getElem? (i := 218) (by decide +kernel))))
  obtain ⟨c2, s2, k2⟩ := u_known (C := RX2) (T := TX2) (N := 3) (n := 3) hts0 inX2 (hts0 (.instantiable RX2 3) (List.mem_append_right _ (List.mem_of_getElem? (i := 17) (by decide +kernel))))
  obtain ⟨c3, s3, k3⟩ := u_known (C := RX3) (T := TX3) (N := 12) (n := 12) hts0 inX3 (hts0 (.instantiable RX3 12) (List.mem_append_right _ (List.mem_of_getElem? (i := 9) (by decide +kernel))))
  obtain ⟨c4, s4, k4⟩ := u_known (C := RX4) (T := TX4) (N := 34) (n := 34) hts0 inX4 (hts0 (.instantiable RX4 34) (List.mem_append_right _ (List.mem_of_getElem? (i := 454) (by decide +kernel))))
  obtain ⟨a0, b0, d0⟩ := ar_prim (hts0 (.arrayClass .int) (List.mem_append_right _ (List.mem_of_getElem? (i := 36) (by decide +kernel)))) (fun C h => by cases h) (fun _ => trivial)
  obtain ⟨a1, b1, d1⟩ := ar_prim (hts0 (.arrayClass .long) (List.mem_append_right _ (List.mem_of_getElem? (i := 78) (by decide +kernel)))) (fun C h => by cases h) (fun _ => trivial)
  obtain ⟨a2, b2, d2⟩ := ar_prim (hts0 (.arrayClass .boolean) (List.mem_append_right _ (List.mem_of_getElem? (i := 561) (by decide +kernel)))) (fun C h => by cases h) (fun _ => trivial)
  obtain ⟨a3, b3, d3⟩ := ar_obj (hts0 (.arrayOver (.object "WorkCoder$Item")) (List.mem_append_right _ (List.mem_of_getElem? (i := 38) (by decide +kernel))))
  obtain ⟨a4, b4, d4⟩ := ar_obj (hts0 (.arrayOver (.object "WorkCoder$Rule")) (List.mem_append_right _ (List.mem_of_getElem? (i := 40) (by decide +kernel))))
  refine ⟨(fun k => if k = 0 then c0 else if k = 1 then c1 else if k = 2 then c2 else if k = 3 then c3 else c4, fun k => if k = 0 then s0 else if k = 1 then s1 else if k = 2 then s2 else if k = 3 then s3 else s4), fun k => if k = 0 then a0 else if k = 1 then a1 else if k = 2 then a2 else if k = 3 then a3 else a4, ⟨?_, ?_⟩, fun _ h => h, va_Nw.of rfl (hts0 (.methodLinkNest "WorkCoder$Rule" 32 ⟨"WorkCoder", "bit", "(JI)I"⟩ "WorkCoder") (List.mem_append_right _ (List.mem_of_getElem? (i := 257) (by decide +kernel)))), va_Nw.of rfl (hts0 (.methodLinkNest "WorkCoder$Rule" 36 ⟨"WorkCoder", "withBit", "(JII)J"⟩ "WorkCoder") (List.mem_append_right _ (List.mem_of_getElem? (i := 258) (by decide +kernel)))), va_Nw.of rfl (hts0 (.methodLinkNest "WorkCoder$Scheme" 32 ⟨"WorkCoder", "bit", "(JI)I"⟩ "WorkCoder") (List.mem_append_right _ (List.mem_of_getElem? (i := 329) (by decide +kernel)))), va_AO.of (hts0 (.arrayOver (.object "WorkCoder$Item")) (List.mem_append_right _ (List.mem_of_getElem? (i := 38) (by decide +kernel)))), va_AO.of (hts0 (.arrayOver (.object "WorkCoder$Rule")) (List.mem_append_right _ (List.mem_of_getElem? (i := 40) (by decide +kernel))))⟩
  · intro k q hq
    match k, hq with
    | 0, hq => cases hq; exact k0
    | 1, hq => cases hq; exact k1
    | 2, hq => cases hq; exact k2
    | 3, hq => cases hq; exact k3
    | 4, hq => cases hq; exact k4
    | k + 5, hq => simp [vwCl] at hq
  · intro k q hq
    match k, hq with
    | 0, hq => cases hq; exact ⟨b0, d0⟩
    | 1, hq => cases hq; exact ⟨b1, d1⟩
    | 2, hq => cases hq; exact ⟨b2, d2⟩
    | 3, hq => cases hq; exact ⟨b3, d3⟩
    | 4, hq => cases hq; exact ⟨b4, d4⟩
    | k + 5, hq => simp at hq
set_option maxHeartbeats 4000000 in
set_option maxRecDepth 100000 in
/-- from the entry, for every script of at most 2048 ints, the law comes to its end with true -/
theorem whole_start {p : Program} {e : Env} {s : State} {m : MethodId} {below : List Frame} {meth : Method} {c : Code} (l : Launch) {b L : Nat} {xs : Nat → Int32} (hL : L ≤ 2048) (C0 : lw_At p s m meth c b L xs) : W p l e room_1 s m #[Value.ref b] below meth c s.heap [] 0 0 (lw_Z below #[Value.ref b] s) (entryFrame m ([Value.ref b] : List Value).toArray 4) := by
  obtain ⟨D, cs, hE⟩ := EN_start C0
  have C1 := C0
  obtain ⟨hx, hb, hr, hml, hown0, hts0, hX, hbl, hlocks, hgv⟩ := C1
  have hown : s.vm.findClass RL = some m.cls := hown0
  have hts : ∀ w ∈ wsL_law, w.before #[Value.ref b] s = true := fun w hw => hts0 w (wsL_law_in w hw)
  have hS : va_S (AS s) s.heap s.heap [] := va_S.rf
  have hM : PH D cs (AS s) σ00 s.heap := PH_0
  have hl := lv_entry ([.ref b]) (n := 4) (Nat.le_of_ble_eq_true rfl)
  rw [lg_entry_eq]
  generalize (lg_sl ([.ref b]) ++ List.replicate (4 - (lg_sl ([.ref b])).length) Slot.unset).toArray = ls at hl ⊢
  have hl : lv_has ls 4 [(0, .ref b)] := hl
  refine nw3 hx hb hts0 inX3 hown (hts0 (.classLink RL 7 RX3) (wsL_law_r1_in _ (by decide +kernel))) (hts0 (.instantiable RX3 12) (wsL_law_r1_in _ (by decide +kernel))) (hts0 (.initialized RX3) (wsL_law_r1_in _ (by decide +kernel))) hE.1 hM hS hE.2.1 (Nat.le_of_ble_eq_true rfl) (Nat.le_of_ble_eq_true rfl) dL_law_0 (fun u H hu hM hS => ?_)
  refine lv_dup hx hb dL_law_3 rfl ?_
  refine clIv (b := u) (As := []) (rest := [.ref u]) ⟨hx, hb, hml, hown, hts⟩ hM hE hS (ok_X3_init l D cs (AS s) u _ _ (I_both hu)) (cwI 0 hts gL_law_X3_init rfl rfl rfl (hts0 (.initialized RX3) (wsL_law_r1_in _ (by decide +kernel))) (hts0 (.methodLink RL 9 yX3_init) (wsL_law_r1_in _ (by decide +kernel))) (hts0 (.instanceMethod yX3_init) (wsL_law_r1_in _ (by decide +kernel))) rfl (by decide +kernel) ⟨(Nat.le_of_ble_eq_true rfl), (Nat.le_of_ble_eq_true rfl)⟩) rfl hl.1 rfl (Nat.le_of_ble_eq_true rfl) dL_law_4 ⟨(Nat.le_of_ble_eq_true rfl), (Nat.le_of_ble_eq_true rfl)⟩ (fun σ1 H locs h1 hM hS => ?_)
  refine lv_astore_n (i := 1) (lv' := [(1, .ref u), (0, .ref b)]) hx hb dL_law_7 rfl hl (by decide) rfl (fun ls hl => ?_)
  refine nw4 hx hb hts0 inX4 hown (hts0 (.classLink RL 10 RX4) (wsL_law_r1_in _ (by decide +kernel))) (hts0 (.instantiable RX4 34) (wsL_law_r1_in _ (by decide +kernel))) (hts0 (.initialized RX4) (wsL_law_r1_in _ (by decide +kernel))) hE.1 hM hS hE.2.1 (Nat.le_of_ble_eq_true rfl) (Nat.le_of_ble_eq_true rfl) dL_law_8 (fun t H ht hM hS => ?_)
  refine lv_dup hx hb dL_law_11 rfl ?_
  refine clIv (b := t) (As := []) (rest := [.ref t]) ⟨hx, hb, hml, hown, hts⟩ hM hE hS (ok_X4_init l D cs (AS s) t _ _ (h1 t ht)) (cwI 0 hts gL_law_X4_init rfl rfl rfl (hts0 (.initialized RX4) (wsL_law_r1_in _ (by decide +kernel))) (hts0 (.methodLink RL 12 yX4_init) (wsL_law_r2_in _ (by decide +kernel))) (hts0 (.instanceMethod yX4_init) (wsL_law_r2_in _ (by decide +kernel))) rfl (by decide +kernel) ⟨(Nat.le_of_ble_eq_true rfl), (Nat.le_of_ble_eq_true rfl)⟩) rfl hl.1 rfl (Nat.le_of_ble_eq_true rfl) dL_law_12 ⟨(Nat.le_of_ble_eq_true rfl), (Nat.le_of_ble_eq_true rfl)⟩ (fun σ2 H locs h2 hM hS => ?_)
  obtain ⟨q, qM, hR⟩ := h2
  refine lv_astore_n (i := 2) (lv' := [(2, .ref t), (1, .ref u), (0, .ref b)]) hx hb dL_law_15 rfl hl (by decide) rfl (fun ls hl => ?_)
  refine lv_iconst (v := 0) hx hb dL_law_16 (by decide) ?_
  refine lv_istore_n (i := 3) (lv' := [(3, .int 0), (2, .ref t), (1, .ref u), (0, .ref b)]) hx hb dL_law_17 rfl hl (by decide) rfl (fun ls hl => ?_)
  refine W.widen (k := 100 + 2 * 0) (n := 6000 + 24 * 0) (by decide) (by decide) ?_
  exact law_loop C0 hE hL (L + 1) 0 (Nat.zero_le L) (by omega) σ2 H locs hR hM hS ls (lv_sub hl [3, 2, 1, 0] rfl)
