abbrev AS (s : State) : Nat → Prop := fun q => s.heap.size ≤ q
theorem sc_in {i o L : Nat} (h : i + o < L) (hL : L ≤ 2048) : vp_in (nI (i + o)) L := vp_in_nI h (by omega)
theorem nI_p2 (i : Nat) : nI i + 2 = nI (i + 2) := by rw [← nI_1 (i + 1), ← nI_1 i, Int32.add_assoc]; rfl
theorem nI_p3 (i : Nat) : nI i + 3 = nI (i + 3) := by rw [← nI_1 (i + 2), ← nI_p2 i, Int32.add_assoc]; rfl
theorem nI_p4 (i : Nat) : nI i + 4 = nI (i + 4) := by rw [← nI_1 (i + 3), ← nI_p3 i, Int32.add_assoc]; rfl
set_option maxHeartbeats 4000000 in
set_option maxRecDepth 100000 in
theorem law_code {p : Program} {l : Launch} {e : Env} {s : State} {m : MethodId} {below : List Frame} {meth : Method} {c : Code} {D : va_G} {cs : CS} {b L : Nat} {xs : Nat → Int32} {u t : Nat} {q qM : Nat → Nat} (C0 : lw_At p s m meth c b L xs) (hE : EN D cs (AS s) s) {i : Nat} (hi : i + 3 < L) (hL : L ≤ 2048) {cl sl : Nat} (hcl : cl ≤ 500000) (hsl : sl ≤ 7000000)
    (kn : ∀ (σ : MM) (H : Heap) (locs : List Loc), Rel u t q qM σ → PH D cs (AS s) σ H → va_S (AS s) s.heap H locs → ∀ (ls : Array Slot), lv_has ls 4 [(0, .ref b), (1, .ref u), (2, .ref t), (3, .int (nI i))] → W p l e room_1 s m #[Value.ref b] below meth c H locs (cl + 2) (sl + 24) (lw_Z below #[Value.ref b] s) (F0 m 1032 ls []))
    {σ : MM} {H : Heap} {locs : List Loc} {ls : Array Slot} (hR : Rel u t q qM σ) (hM : PH D cs (AS s) σ H) (hS : va_S (AS s) s.heap H locs) (hl : lv_has ls 4 [(0, .ref b), (1, .ref u), (2, .ref t), (3, .int (nI i))]) : W p l e room_1 s m #[Value.ref b] below meth c H locs cl sl (lw_Z below #[Value.ref b] s) (F0 m 164 ls []) := by
  obtain ⟨hx, hb, hr, hml, hown0, hts0, hX, hbl, hlocks, hgv⟩ := C0
  have hown : s.vm.findClass RL = some m.cls := hown0
  have hts : ∀ w ∈ wsL_law, w.before #[Value.ref b] s = true := fun w hw => hts0 w (wsL_law_in w hw)
  have hbA : ¬ AS s b := Nat.not_le.mpr hbl
  have hv1 : vp_in (nI i + 1) L := by rw [nI_1]; exact sc_in (by omega) hL
  have hv2 : vp_in (nI i + 2) L := by rw [nI_p2]; exact sc_in (by omega) hL
  have hv3 : vp_in (nI i + 3) L := by rw [nI_p3]; exact sc_in (by omega) hL
  refine lv_aload_n hx hb dL_law_164 rfl (lv_at hl 1 rfl) ?_
  refine lv_aload_n hx hb dL_law_165 rfl (lv_at hl 0 rfl) ?_
  refine lv_iload_n hx hb dL_law_166 rfl (lv_at hl 3 rfl) ?_
  refine lv_iconst (v := 1) hx hb dL_law_167 (by decide) ?_
  refine lv_iadd hx hb dL_law_168 ?_
  refine va_sld hx hb hX hbl hbA hS hv1 dL_law_169 ?_
  refine clVi (C := RX3) (b := u) (As := [.int (xs (nI i + 1).toNatClampNeg)]) (rest := []) ⟨hx, hb, hml, hown, hts⟩ hM hE hS (ok_X3_code l D cs (AS s) u (xs (nI i + 1).toNatClampNeg) _ _ (S_code hR (xs (nI i + 1).toNatClampNeg))) (cwV 1 hts gL_law_X3_code rfl rfl rfl (by decide +kernel) ⟨(Nat.le_of_ble_eq_true rfl), (Nat.le_of_ble_eq_true rfl)⟩) (rc3 hM hE.1 (Rel_u hR)) rfl hl.1 rfl (Nat.le_of_ble_eq_true rfl) dL_law_170 ⟨by show cl + 0 ≤ 600000; omega, by show sl + 0 ≤ 7302250; omega⟩ (fun r1 σ1 H locs h1 hM hS => ?_)
  obtain ⟨hk5, h1⟩ := h1
  refine lv_aload_n hx hb dL_law_173 rfl (lv_at hl 2 rfl) ?_
  refine lv_aload_n hx hb dL_law_174 rfl (lv_at hl 0 rfl) ?_
  refine lv_iload_n hx hb dL_law_175 rfl (lv_at hl 3 rfl) ?_
  refine lv_iconst (v := 1) hx hb dL_law_176 (by decide) ?_
  refine lv_iadd hx hb dL_law_177 ?_
  refine va_sld hx hb hX hbl hbA hS hv1 dL_law_178 ?_
  refine clVi (C := RX4) (b := t) (As := [.int (xs (nI i + 1).toNatClampNeg)]) (rest := [.int r1]) ⟨hx, hb, hml, hown, hts⟩ hM hE hS (ok_X4_code l D cs (AS s) t (xs (nI i + 1).toNatClampNeg) _ _ h1) (cwV 1 hts gL_law_X4_code rfl rfl rfl (by decide +kernel) ⟨(Nat.le_of_ble_eq_true rfl), (Nat.le_of_ble_eq_true rfl)⟩) (rc4 hM hE.1 hk5) rfl hl.1 rfl (Nat.le_of_ble_eq_true rfl) dL_law_179 ⟨by show cl + 0 + 0 ≤ 600000; omega, by show sl + 0 + 0 ≤ 7302250; omega⟩ (fun r2 σ2 H locs h2 hM hS => ?_)
  obtain ⟨hrr, hR2⟩ := h2
  refine lv_icmp_eq (tgt := 1032) hx hb dL_law_182 (by decide) (fun hc => ?_) (fun hc => absurd hrr hc)
  refine W.widen (k := cl + 2) (n := sl + 24) (by omega) (by omega) ?_
  exact kn σ2 H locs hR2 hM hS ls hl
set_option maxHeartbeats 4000000 in
set_option maxRecDepth 100000 in
theorem law_exclude {p : Program} {l : Launch} {e : Env} {s : State} {m : MethodId} {below : List Frame} {meth : Method} {c : Code} {D : va_G} {cs : CS} {b L : Nat} {xs : Nat → Int32} {u t : Nat} {q qM : Nat → Nat} (C0 : lw_At p s m meth c b L xs) (hE : EN D cs (AS s) s) {i : Nat} (hi : i + 3 < L) (hL : L ≤ 2048) {cl sl : Nat} (hcl : cl ≤ 500000) (hsl : sl ≤ 7000000)
    (kn : ∀ (σ : MM) (H : Heap) (locs : List Loc), Rel u t q qM σ → PH D cs (AS s) σ H → va_S (AS s) s.heap H locs → ∀ (ls : Array Slot), lv_has ls 4 [(0, .ref b), (1, .ref u), (2, .ref t), (3, .int (nI i))] → W p l e room_1 s m #[Value.ref b] below meth c H locs (cl + 2) (sl + 24) (lw_Z below #[Value.ref b] s) (F0 m 1032 ls []))
    {σ : MM} {H : Heap} {locs : List Loc} {ls : Array Slot} (hR : Rel u t q qM σ) (hM : PH D cs (AS s) σ H) (hS : va_S (AS s) s.heap H locs) (hl : lv_has ls 4 [(0, .ref b), (1, .ref u), (2, .ref t), (3, .int (nI i))]) : W p l e room_1 s m #[Value.ref b] below meth c H locs cl sl (lw_Z below #[Value.ref b] s) (F0 m 187 ls []) := by
  obtain ⟨hx, hb, hr, hml, hown0, hts0, hX, hbl, hlocks, hgv⟩ := C0
  have hown : s.vm.findClass RL = some m.cls := hown0
  have hts : ∀ w ∈ wsL_law, w.before #[Value.ref b] s = true := fun w hw => hts0 w (wsL_law_in w hw)
  have hbA : ¬ AS s b := Nat.not_le.mpr hbl
  have hv1 : vp_in (nI i + 1) L := by rw [nI_1]; exact sc_in (by omega) hL
  have hv2 : vp_in (nI i + 2) L := by rw [nI_p2]; exact sc_in (by omega) hL
  have hv3 : vp_in (nI i + 3) L := by rw [nI_p3]; exact sc_in (by omega) hL
  refine lv_aload_n hx hb dL_law_187 rfl (lv_at hl 1 rfl) ?_
  refine lv_aload_n hx hb dL_law_188 rfl (lv_at hl 0 rfl) ?_
  refine lv_iload_n hx hb dL_law_189 rfl (lv_at hl 3 rfl) ?_
  refine lv_iconst (v := 1) hx hb dL_law_190 (by decide) ?_
  refine lv_iadd hx hb dL_law_191 ?_
  refine va_sld hx hb hX hbl hbA hS hv1 dL_law_192 ?_
  refine lv_aload_n hx hb dL_law_193 rfl (lv_at hl 0 rfl) ?_
  refine lv_iload_n hx hb dL_law_194 rfl (lv_at hl 3 rfl) ?_
  refine lv_iconst (v := 2) hx hb dL_law_195 (by decide) ?_
  refine lv_iadd hx hb dL_law_196 ?_
  refine va_sld hx hb hX hbl hbA hS hv2 dL_law_197 ?_
  refine lv_aload_n hx hb dL_law_198 rfl (lv_at hl 0 rfl) ?_
  refine lv_iload_n hx hb dL_law_199 rfl (lv_at hl 3 rfl) ?_
  refine lv_iconst (v := 3) hx hb dL_law_200 (by decide) ?_
  refine lv_iadd hx hb dL_law_201 ?_
  refine va_sld hx hb hX hbl hbA hS hv3 dL_law_202 ?_
  refine clVi (C := RX3) (b := u) (As := [.int (xs (nI i + 1).toNatClampNeg), .int (xs (nI i + 2).toNatClampNeg), .int (xs (nI i + 3).toNatClampNeg)]) (rest := []) ⟨hx, hb, hml, hown, hts⟩ hM hE hS (ok_X3_exclude l D cs (AS s) u (xs (nI i + 1).toNatClampNeg) (xs (nI i + 2).toNatClampNeg) (xs (nI i + 3).toNatClampNeg) _ _ (S_exclude hR (xs (nI i + 1).toNatClampNeg) (xs (nI i + 2).toNatClampNeg) (xs (nI i + 3).toNatClampNeg))) (cwV 3 hts gL_law_X3_exclude rfl rfl rfl (by decide +kernel) ⟨(Nat.le_of_ble_eq_true rfl), (Nat.le_of_ble_eq_true rfl)⟩) (rc3 hM hE.1 (Rel_u hR)) rfl hl.1 rfl (Nat.le_of_ble_eq_true rfl) dL_law_203 ⟨by show cl + 0 ≤ 600000; omega, by show sl + 0 ≤ 7302250; omega⟩ (fun r1 σ1 H locs h1 hM hS => ?_)
  obtain ⟨hk5, h1⟩ := h1
  refine lv_aload_n hx hb dL_law_206 rfl (lv_at hl 2 rfl) ?_
  refine lv_aload_n hx hb dL_law_207 rfl (lv_at hl 0 rfl) ?_
  refine lv_iload_n hx hb dL_law_208 rfl (lv_at hl 3 rfl) ?_
  refine lv_iconst (v := 1) hx hb dL_law_209 (by decide) ?_
  refine lv_iadd hx hb dL_law_210 ?_
  refine va_sld hx hb hX hbl hbA hS hv1 dL_law_211 ?_
  refine lv_aload_n hx hb dL_law_212 rfl (lv_at hl 0 rfl) ?_
  refine lv_iload_n hx hb dL_law_213 rfl (lv_at hl 3 rfl) ?_
  refine lv_iconst (v := 2) hx hb dL_law_214 (by decide) ?_
  refine lv_iadd hx hb dL_law_215 ?_
  refine va_sld hx hb hX hbl hbA hS hv2 dL_law_216 ?_
  refine lv_aload_n hx hb dL_law_217 rfl (lv_at hl 0 rfl) ?_
  refine lv_iload_n hx hb dL_law_218 rfl (lv_at hl 3 rfl) ?_
  refine lv_iconst (v := 3) hx hb dL_law_219 (by decide) ?_
  refine lv_iadd hx hb dL_law_220 ?_
  refine va_sld hx hb hX hbl hbA hS hv3 dL_law_221 ?_
  refine clVi (C := RX4) (b := t) (As := [.int (xs (nI i + 1).toNatClampNeg), .int (xs (nI i + 2).toNatClampNeg), .int (xs (nI i + 3).toNatClampNeg)]) (rest := [.int r1]) ⟨hx, hb, hml, hown, hts⟩ hM hE hS (ok_X4_exclude l D cs (AS s) t (xs (nI i + 1).toNatClampNeg) (xs (nI i + 2).toNatClampNeg) (xs (nI i + 3).toNatClampNeg) _ _ h1) (cwV 3 hts gL_law_X4_exclude rfl rfl rfl (by decide +kernel) ⟨(Nat.le_of_ble_eq_true rfl), (Nat.le_of_ble_eq_true rfl)⟩) (rc4 hM hE.1 hk5) rfl hl.1 rfl (Nat.le_of_ble_eq_true rfl) dL_law_222 ⟨by show cl + 0 + 0 ≤ 600000; omega, by show sl + 0 + 0 ≤ 7302250; omega⟩ (fun r2 σ2 H locs h2 hM hS => ?_)
  obtain ⟨hrr, hR2⟩ := h2
  refine lv_icmp_eq (tgt := 1032) hx hb dL_law_225 (by decide) (fun hc => ?_) (fun hc => absurd hrr hc)
  refine W.widen (k := cl + 2) (n := sl + 24) (by omega) (by omega) ?_
  exact kn σ2 H locs hR2 hM hS ls hl
set_option maxHeartbeats 4000000 in
set_option maxRecDepth 100000 in
theorem law_spell {p : Program} {l : Launch} {e : Env} {s : State} {m : MethodId} {below : List Frame} {meth : Method} {c : Code} {D : va_G} {cs : CS} {b L : Nat} {xs : Nat → Int32} {u t : Nat} {q qM : Nat → Nat} (C0 : lw_At p s m meth c b L xs) (hE : EN D cs (AS s) s) {i : Nat} (hi : i + 3 < L) (hL : L ≤ 2048) {cl sl : Nat} (hcl : cl ≤ 500000) (hsl : sl ≤ 7000000)
    (kn : ∀ (σ : MM) (H : Heap) (locs : List Loc), Rel u t q qM σ → PH D cs (AS s) σ H → va_S (AS s) s.heap H locs → ∀ (ls : Array Slot), lv_has ls 4 [(0, .ref b), (1, .ref u), (2, .ref t), (3, .int (nI i))] → W p l e room_1 s m #[Value.ref b] below meth c H locs (cl + 2) (sl + 24) (lw_Z below #[Value.ref b] s) (F0 m 1032 ls []))
    {σ : MM} {H : Heap} {locs : List Loc} {ls : Array Slot} (hR : Rel u t q qM σ) (hM : PH D cs (AS s) σ H) (hS : va_S (AS s) s.heap H locs) (hl : lv_has ls 4 [(0, .ref b), (1, .ref u), (2, .ref t), (3, .int (nI i))]) : W p l e room_1 s m #[Value.ref b] below meth c H locs cl sl (lw_Z below #[Value.ref b] s) (F0 m 230 ls []) := by
  obtain ⟨hx, hb, hr, hml, hown0, hts0, hX, hbl, hlocks, hgv⟩ := C0
  have hown : s.vm.findClass RL = some m.cls := hown0
  have hts : ∀ w ∈ wsL_law, w.before #[Value.ref b] s = true := fun w hw => hts0 w (wsL_law_in w hw)
  have hbA : ¬ AS s b := Nat.not_le.mpr hbl
  have hv1 : vp_in (nI i + 1) L := by rw [nI_1]; exact sc_in (by omega) hL
  have hv2 : vp_in (nI i + 2) L := by rw [nI_p2]; exact sc_in (by omega) hL
  have hv3 : vp_in (nI i + 3) L := by rw [nI_p3]; exact sc_in (by omega) hL
  refine lv_aload_n hx hb dL_law_230 rfl (lv_at hl 1 rfl) ?_
  refine lv_aload_n hx hb dL_law_231 rfl (lv_at hl 0 rfl) ?_
  refine lv_iload_n hx hb dL_law_232 rfl (lv_at hl 3 rfl) ?_
  refine lv_iconst (v := 1) hx hb dL_law_233 (by decide) ?_
  refine lv_iadd hx hb dL_law_234 ?_
  refine va_sld hx hb hX hbl hbA hS hv1 dL_law_235 ?_
  refine lv_aload_n hx hb dL_law_236 rfl (lv_at hl 0 rfl) ?_
  refine lv_iload_n hx hb dL_law_237 rfl (lv_at hl 3 rfl) ?_
  refine lv_iconst (v := 2) hx hb dL_law_238 (by decide) ?_
  refine lv_iadd hx hb dL_law_239 ?_
  refine va_sld hx hb hX hbl hbA hS hv2 dL_law_240 ?_
  refine clVi (C := RX3) (b := u) (As := [.int (xs (nI i + 1).toNatClampNeg), .int (xs (nI i + 2).toNatClampNeg)]) (rest := []) ⟨hx, hb, hml, hown, hts⟩ hM hE hS (ok_X3_spell l D cs (AS s) u (xs (nI i + 1).toNatClampNeg) (xs (nI i + 2).toNatClampNeg) _ _ (S_spell hR (xs (nI i + 1).toNatClampNeg) (xs (nI i + 2).toNatClampNeg))) (cwV 2 hts gL_law_X3_spell rfl rfl rfl (by decide +kernel) ⟨(Nat.le_of_ble_eq_true rfl), (Nat.le_of_ble_eq_true rfl)⟩) (rc3 hM hE.1 (Rel_u hR)) rfl hl.1 rfl (Nat.le_of_ble_eq_true rfl) dL_law_241 ⟨by show cl + 0 ≤ 600000; omega, by show sl + 0 ≤ 7302250; omega⟩ (fun r1 σ1 H locs h1 hM hS => ?_)
  obtain ⟨hk5, h1⟩ := h1
  refine lv_aload_n hx hb dL_law_244 rfl (lv_at hl 2 rfl) ?_
  refine lv_aload_n hx hb dL_law_245 rfl (lv_at hl 0 rfl) ?_
  refine lv_iload_n hx hb dL_law_246 rfl (lv_at hl 3 rfl) ?_
  refine lv_iconst (v := 1) hx hb dL_law_247 (by decide) ?_
  refine lv_iadd hx hb dL_law_248 ?_
  refine va_sld hx hb hX hbl hbA hS hv1 dL_law_249 ?_
  refine lv_aload_n hx hb dL_law_250 rfl (lv_at hl 0 rfl) ?_
  refine lv_iload_n hx hb dL_law_251 rfl (lv_at hl 3 rfl) ?_
  refine lv_iconst (v := 2) hx hb dL_law_252 (by decide) ?_
  refine lv_iadd hx hb dL_law_253 ?_
  refine va_sld hx hb hX hbl hbA hS hv2 dL_law_254 ?_
  refine clVi (C := RX4) (b := t) (As := [.int (xs (nI i + 1).toNatClampNeg), .int (xs (nI i + 2).toNatClampNeg)]) (rest := [.int r1]) ⟨hx, hb, hml, hown, hts⟩ hM hE hS (ok_X4_spell l D cs (AS s) t (xs (nI i + 1).toNatClampNeg) (xs (nI i + 2).toNatClampNeg) _ _ h1) (cwV 2 hts gL_law_X4_spell rfl rfl rfl (by decide +kernel) ⟨(Nat.le_of_ble_eq_true rfl), (Nat.le_of_ble_eq_true rfl)⟩) (rc4 hM hE.1 hk5) rfl hl.1 rfl (Nat.le_of_ble_eq_true rfl) dL_law_255 ⟨by show cl + 0 + 0 ≤ 600000; omega, by show sl + 0 + 0 ≤ 7302250; omega⟩ (fun r2 σ2 H locs h2 hM hS => ?_)
  obtain ⟨hrr, hR2⟩ := h2
  refine lv_icmp_eq (tgt := 1032) hx hb dL_law_258 (by decide) (fun hc => ?_) (fun hc => absurd hrr hc)
  refine W.widen (k := cl + 2) (n := sl + 24) (by omega) (by omega) ?_
  exact kn σ2 H locs hR2 hM hS ls hl
set_option maxHeartbeats 4000000 in
set_option maxRecDepth 100000 in
theorem law_other {p : Program} {l : Launch} {e : Env} {s : State} {m : MethodId} {below : List Frame} {meth : Method} {c : Code} {D : va_G} {cs : CS} {b L : Nat} {xs : Nat → Int32} {u t : Nat} {q qM : Nat → Nat} (C0 : lw_At p s m meth c b L xs) (hE : EN D cs (AS s) s) {i : Nat} (hi : i + 3 < L) (hL : L ≤ 2048) {cl sl : Nat} (hcl : cl ≤ 500000) (hsl : sl ≤ 7000000)
    (kn : ∀ (σ : MM) (H : Heap) (locs : List Loc), Rel u t q qM σ → PH D cs (AS s) σ H → va_S (AS s) s.heap H locs → ∀ (ls : Array Slot), lv_has ls 4 [(0, .ref b), (1, .ref u), (2, .ref t), (3, .int (nI i))] → W p l e room_1 s m #[Value.ref b] below meth c H locs (cl + 2) (sl + 24) (lw_Z below #[Value.ref b] s) (F0 m 1032 ls []))
    {σ : MM} {H : Heap} {locs : List Loc} {ls : Array Slot} (hR : Rel u t q qM σ) (hM : PH D cs (AS s) σ H) (hS : va_S (AS s) s.heap H locs) (hl : lv_has ls 4 [(0, .ref b), (1, .ref u), (2, .ref t), (3, .int (nI i))]) : W p l e room_1 s m #[Value.ref b] below meth c H locs cl sl (lw_Z below #[Value.ref b] s) (F0 m 263 ls []) := by
  obtain ⟨hx, hb, hr, hml, hown0, hts0, hX, hbl, hlocks, hgv⟩ := C0
  have hown : s.vm.findClass RL = some m.cls := hown0
  have hts : ∀ w ∈ wsL_law, w.before #[Value.ref b] s = true := fun w hw => hts0 w (wsL_law_in w hw)
  have hbA : ¬ AS s b := Nat.not_le.mpr hbl
  have hv1 : vp_in (nI i + 1) L := by rw [nI_1]; exact sc_in (by omega) hL
  have hv2 : vp_in (nI i + 2) L := by rw [nI_p2]; exact sc_in (by omega) hL
  have hv3 : vp_in (nI i + 3) L := by rw [nI_p3]; exact sc_in (by omega) hL
  refine lv_aload_n hx hb dL_law_263 rfl (lv_at hl 1 rfl) ?_
  refine lv_aload_n hx hb dL_law_264 rfl (lv_at hl 0 rfl) ?_
  refine lv_iload_n hx hb dL_law_265 rfl (lv_at hl 3 rfl) ?_
  refine lv_iconst (v := 1) hx hb dL_law_266 (by decide) ?_
  refine lv_iadd hx hb dL_law_267 ?_
  refine va_sld hx hb hX hbl hbA hS hv1 dL_law_268 ?_
  refine clVi (C := RX3) (b := u) (As := [.int (xs (nI i + 1).toNatClampNeg)]) (rest := []) ⟨hx, hb, hml, hown, hts⟩ hM hE hS (ok_X3_other l D cs (AS s) u (xs (nI i + 1).toNatClampNeg) _ _ (S_other hR (xs (nI i + 1).toNatClampNeg))) (cwV 1 hts gL_law_X3_other rfl rfl rfl (by decide +kernel) ⟨(Nat.le_of_ble_eq_true rfl), (Nat.le_of_ble_eq_true rfl)⟩) (rc3 hM hE.1 (Rel_u hR)) rfl hl.1 rfl (Nat.le_of_ble_eq_true rfl) dL_law_269 ⟨by show cl + 0 ≤ 600000; omega, by show sl + 0 ≤ 7302250; omega⟩ (fun r1 σ1 H locs h1 hM hS => ?_)
  obtain ⟨hk5, h1⟩ := h1
  refine lv_aload_n hx hb dL_law_272 rfl (lv_at hl 2 rfl) ?_
  refine lv_aload_n hx hb dL_law_273 rfl (lv_at hl 0 rfl) ?_
  refine lv_iload_n hx hb dL_law_274 rfl (lv_at hl 3 rfl) ?_
  refine lv_iconst (v := 1) hx hb dL_law_275 (by decide) ?_
  refine lv_iadd hx hb dL_law_276 ?_
  refine va_sld hx hb hX hbl hbA hS hv1 dL_law_277 ?_
  refine clVi (C := RX4) (b := t) (As := [.int (xs (nI i + 1).toNatClampNeg)]) (rest := [.int r1]) ⟨hx, hb, hml, hown, hts⟩ hM hE hS (ok_X4_other l D cs (AS s) t (xs (nI i + 1).toNatClampNeg) _ _ h1) (cwV 1 hts gL_law_X4_other rfl rfl rfl (by decide +kernel) ⟨(Nat.le_of_ble_eq_true rfl), (Nat.le_of_ble_eq_true rfl)⟩) (rc4 hM hE.1 hk5) rfl hl.1 rfl (Nat.le_of_ble_eq_true rfl) dL_law_278 ⟨by show cl + 0 + 0 ≤ 600000; omega, by show sl + 0 + 0 ≤ 7302250; omega⟩ (fun r2 σ2 H locs h2 hM hS => ?_)
  obtain ⟨hrr, hR2⟩ := h2
  refine lv_icmp_eq (tgt := 1032) hx hb dL_law_281 (by decide) (fun hc => ?_) (fun hc => absurd hrr hc)
  refine W.widen (k := cl + 2) (n := sl + 24) (by omega) (by omega) ?_
  exact kn σ2 H locs hR2 hM hS ls hl
set_option maxHeartbeats 4000000 in
set_option maxRecDepth 100000 in
theorem law_carry {p : Program} {l : Launch} {e : Env} {s : State} {m : MethodId} {below : List Frame} {meth : Method} {c : Code} {D : va_G} {cs : CS} {b L : Nat} {xs : Nat → Int32} {u t : Nat} {q qM : Nat → Nat} (C0 : lw_At p s m meth c b L xs) (hE : EN D cs (AS s) s) {i : Nat} (hi : i + 3 < L) (hL : L ≤ 2048) {cl sl : Nat} (hcl : cl ≤ 500000) (hsl : sl ≤ 7000000)
    (kn : ∀ (σ : MM) (H : Heap) (locs : List Loc), Rel u t q qM σ → PH D cs (AS s) σ H → va_S (AS s) s.heap H locs → ∀ (ls : Array Slot), lv_has ls 4 [(0, .ref b), (1, .ref u), (2, .ref t), (3, .int (nI i))] → W p l e room_1 s m #[Value.ref b] below meth c H locs (cl + 2) (sl + 24) (lw_Z below #[Value.ref b] s) (F0 m 1032 ls []))
    {σ : MM} {H : Heap} {locs : List Loc} {ls : Array Slot} (hR : Rel u t q qM σ) (hM : PH D cs (AS s) σ H) (hS : va_S (AS s) s.heap H locs) (hl : lv_has ls 4 [(0, .ref b), (1, .ref u), (2, .ref t), (3, .int (nI i))]) : W p l e room_1 s m #[Value.ref b] below meth c H locs cl sl (lw_Z below #[Value.ref b] s) (F0 m 286 ls []) := by
  obtain ⟨hx, hb, hr, hml, hown0, hts0, hX, hbl, hlocks, hgv⟩ := C0
  have hown : s.vm.findClass RL = some m.cls := hown0
  have hts : ∀ w ∈ wsL_law, w.before #[Value.ref b] s = true := fun w hw => hts0 w (wsL_law_in w hw)
  have hbA : ¬ AS s b := Nat.not_le.mpr hbl
  have hv1 : vp_in (nI i + 1) L := by rw [nI_1]; exact sc_in (by omega) hL
  have hv2 : vp_in (nI i + 2) L := by rw [nI_p2]; exact sc_in (by omega) hL
  have hv3 : vp_in (nI i + 3) L := by rw [nI_p3]; exact sc_in (by omega) hL
  refine lv_aload_n hx hb dL_law_286 rfl (lv_at hl 1 rfl) ?_
  refine lv_aload_n hx hb dL_law_287 rfl (lv_at hl 0 rfl) ?_
  refine lv_iload_n hx hb dL_law_288 rfl (lv_at hl 3 rfl) ?_
  refine lv_iconst (v := 1) hx hb dL_law_289 (by decide) ?_
  refine lv_iadd hx hb dL_law_290 ?_
  refine va_sld hx hb hX hbl hbA hS hv1 dL_law_291 ?_
  refine lv_aload_n hx hb dL_law_292 rfl (lv_at hl 0 rfl) ?_
  refine lv_iload_n hx hb dL_law_293 rfl (lv_at hl 3 rfl) ?_
  refine lv_iconst (v := 2) hx hb dL_law_294 (by decide) ?_
  refine lv_iadd hx hb dL_law_295 ?_
  refine va_sld hx hb hX hbl hbA hS hv2 dL_law_296 ?_
  refine lv_aload_n hx hb dL_law_297 rfl (lv_at hl 0 rfl) ?_
  refine lv_iload_n hx hb dL_law_298 rfl (lv_at hl 3 rfl) ?_
  refine lv_iconst (v := 3) hx hb dL_law_299 (by decide) ?_
  refine lv_iadd hx hb dL_law_300 ?_
  refine va_sld hx hb hX hbl hbA hS hv3 dL_law_301 ?_
  refine clVi (C := RX3) (b := u) (As := [.int (xs (nI i + 1).toNatClampNeg), .int (xs (nI i + 2).toNatClampNeg), .int (xs (nI i + 3).toNatClampNeg)]) (rest := []) ⟨hx, hb, hml, hown, hts⟩ hM hE hS (ok_X3_carry l D cs (AS s) u (xs (nI i + 1).toNatClampNeg) (xs (nI i + 2).toNatClampNeg) (xs (nI i + 3).toNatClampNeg) _ _ (S_carry hR (xs (nI i + 1).toNatClampNeg) (xs (nI i + 2).toNatClampNeg) (xs (nI i + 3).toNatClampNeg))) (cwV 3 hts gL_law_X3_carry rfl rfl rfl (by decide +kernel) ⟨(Nat.le_of_ble_eq_true rfl), (Nat.le_of_ble_eq_true rfl)⟩) (rc3 hM hE.1 (Rel_u hR)) rfl hl.1 rfl (Nat.le_of_ble_eq_true rfl) dL_law_302 ⟨by show cl + 0 ≤ 600000; omega, by show sl + 0 ≤ 7302250; omega⟩ (fun r1 σ1 H locs h1 hM hS => ?_)
  obtain ⟨hk5, h1⟩ := h1
  refine lv_aload_n hx hb dL_law_305 rfl (lv_at hl 2 rfl) ?_
  refine lv_aload_n hx hb dL_law_306 rfl (lv_at hl 0 rfl) ?_
  refine lv_iload_n hx hb dL_law_307 rfl (lv_at hl 3 rfl) ?_
  refine lv_iconst (v := 1) hx hb dL_law_308 (by decide) ?_
  refine lv_iadd hx hb dL_law_309 ?_
  refine va_sld hx hb hX hbl hbA hS hv1 dL_law_310 ?_
  refine lv_aload_n hx hb dL_law_311 rfl (lv_at hl 0 rfl) ?_
  refine lv_iload_n hx hb dL_law_312 rfl (lv_at hl 3 rfl) ?_
  refine lv_iconst (v := 2) hx hb dL_law_313 (by decide) ?_
  refine lv_iadd hx hb dL_law_314 ?_
  refine va_sld hx hb hX hbl hbA hS hv2 dL_law_315 ?_
  refine lv_aload_n hx hb dL_law_316 rfl (lv_at hl 0 rfl) ?_
  refine lv_iload_n hx hb dL_law_317 rfl (lv_at hl 3 rfl) ?_
  refine lv_iconst (v := 3) hx hb dL_law_318 (by decide) ?_
  refine lv_iadd hx hb dL_law_319 ?_
  refine va_sld hx hb hX hbl hbA hS hv3 dL_law_320 ?_
  refine clVi (C := RX4) (b := t) (As := [.int (xs (nI i + 1).toNatClampNeg), .int (xs (nI i + 2).toNatClampNeg), .int (xs (nI i + 3).toNatClampNeg)]) (rest := [.int r1]) ⟨hx, hb, hml, hown, hts⟩ hM hE hS (ok_X4_carry l D cs (AS s) t (xs (nI i + 1).toNatClampNeg) (xs (nI i + 2).toNatClampNeg) (xs (nI i + 3).toNatClampNeg) _ _ h1) (cwV 3 hts gL_law_X4_carry rfl rfl rfl (by decide +kernel) ⟨(Nat.le_of_ble_eq_true rfl), (Nat.le_of_ble_eq_true rfl)⟩) (rc4 hM hE.1 hk5) rfl hl.1 rfl (Nat.le_of_ble_eq_true rfl) dL_law_321 ⟨by show cl + 0 + 0 ≤ 600000; omega, by show sl + 0 + 0 ≤ 7302250; omega⟩ (fun r2 σ2 H locs h2 hM hS => ?_)
  obtain ⟨hrr, hR2⟩ := h2
  refine lv_icmp_eq (tgt := 1032) hx hb dL_law_324 (by decide) (fun hc => ?_) (fun hc => absurd hrr hc)
  refine W.widen (k := cl + 2) (n := sl + 24) (by omega) (by omega) ?_
  exact kn σ2 H locs hR2 hM hS ls hl
set_option maxHeartbeats 4000000 in
set_option maxRecDepth 100000 in
theorem law_answer {p : Program} {l : Launch} {e : Env} {s : State} {m : MethodId} {below : List Frame} {meth : Method} {c : Code} {D : va_G} {cs : CS} {b L : Nat} {xs : Nat → Int32} {u t : Nat} {q qM : Nat → Nat} (C0 : lw_At p s m meth c b L xs) (hE : EN D cs (AS s) s) {i : Nat} (hi : i + 3 < L) (hL : L ≤ 2048) {cl sl : Nat} (hcl : cl ≤ 500000) (hsl : sl ≤ 7000000)
    (kn : ∀ (σ : MM) (H : Heap) (locs : List Loc), Rel u t q qM σ → PH D cs (AS s) σ H → va_S (AS s) s.heap H locs → ∀ (ls : Array Slot), lv_has ls 4 [(0, .ref b), (1, .ref u), (2, .ref t), (3, .int (nI i))] → W p l e room_1 s m #[Value.ref b] below meth c H locs (cl + 2) (sl + 24) (lw_Z below #[Value.ref b] s) (F0 m 1032 ls []))
    {σ : MM} {H : Heap} {locs : List Loc} {ls : Array Slot} (hR : Rel u t q qM σ) (hM : PH D cs (AS s) σ H) (hS : va_S (AS s) s.heap H locs) (hl : lv_has ls 4 [(0, .ref b), (1, .ref u), (2, .ref t), (3, .int (nI i))]) : W p l e room_1 s m #[Value.ref b] below meth c H locs cl sl (lw_Z below #[Value.ref b] s) (F0 m 329 ls []) := by
  obtain ⟨hx, hb, hr, hml, hown0, hts0, hX, hbl, hlocks, hgv⟩ := C0
  have hown : s.vm.findClass RL = some m.cls := hown0
  have hts : ∀ w ∈ wsL_law, w.before #[Value.ref b] s = true := fun w hw => hts0 w (wsL_law_in w hw)
  have hbA : ¬ AS s b := Nat.not_le.mpr hbl
  have hv1 : vp_in (nI i + 1) L := by rw [nI_1]; exact sc_in (by omega) hL
  have hv2 : vp_in (nI i + 2) L := by rw [nI_p2]; exact sc_in (by omega) hL
  have hv3 : vp_in (nI i + 3) L := by rw [nI_p3]; exact sc_in (by omega) hL
  refine lv_aload_n hx hb dL_law_329 rfl (lv_at hl 1 rfl) ?_
  refine lv_aload_n hx hb dL_law_330 rfl (lv_at hl 0 rfl) ?_
  refine lv_iload_n hx hb dL_law_331 rfl (lv_at hl 3 rfl) ?_
  refine lv_iconst (v := 1) hx hb dL_law_332 (by decide) ?_
  refine lv_iadd hx hb dL_law_333 ?_
  refine va_sld hx hb hX hbl hbA hS hv1 dL_law_334 ?_
  refine lv_aload_n hx hb dL_law_335 rfl (lv_at hl 0 rfl) ?_
  refine lv_iload_n hx hb dL_law_336 rfl (lv_at hl 3 rfl) ?_
  refine lv_iconst (v := 2) hx hb dL_law_337 (by decide) ?_
  refine lv_iadd hx hb dL_law_338 ?_
  refine va_sld hx hb hX hbl hbA hS hv2 dL_law_339 ?_
  refine lv_aload_n hx hb dL_law_340 rfl (lv_at hl 0 rfl) ?_
  refine lv_iload_n hx hb dL_law_341 rfl (lv_at hl 3 rfl) ?_
  refine lv_iconst (v := 3) hx hb dL_law_342 (by decide) ?_
  refine lv_iadd hx hb dL_law_343 ?_
  refine va_sld hx hb hX hbl hbA hS hv3 dL_law_344 ?_
  refine clVi (C := RX3) (b := u) (As := [.int (xs (nI i + 1).toNatClampNeg), .int (xs (nI i + 2).toNatClampNeg), .int (xs (nI i + 3).toNatClampNeg)]) (rest := []) ⟨hx, hb, hml, hown, hts⟩ hM hE hS (ok_X3_answer l D cs (AS s) u (xs (nI i + 1).toNatClampNeg) (xs (nI i + 2).toNatClampNeg) (xs (nI i + 3).toNatClampNeg) _ _ (S_answer hR (xs (nI i + 1).toNatClampNeg) (xs (nI i + 2).toNatClampNeg) (xs (nI i + 3).toNatClampNeg))) (cwV 3 hts gL_law_X3_answer rfl rfl rfl (by decide +kernel) ⟨(Nat.le_of_ble_eq_true rfl), (Nat.le_of_ble_eq_true rfl)⟩) (rc3 hM hE.1 (Rel_u hR)) rfl hl.1 rfl (Nat.le_of_ble_eq_true rfl) dL_law_345 ⟨by show cl + 2 ≤ 600000; omega, by show sl + 24 ≤ 7302250; omega⟩ (fun r1 σ1 H locs h1 hM hS => ?_)
  obtain ⟨hk5, h1⟩ := h1
  refine lv_aload_n hx hb dL_law_348 rfl (lv_at hl 2 rfl) ?_
  refine lv_aload_n hx hb dL_law_349 rfl (lv_at hl 0 rfl) ?_
  refine lv_iload_n hx hb dL_law_350 rfl (lv_at hl 3 rfl) ?_
  refine lv_iconst (v := 1) hx hb dL_law_351 (by decide) ?_
  refine lv_iadd hx hb dL_law_352 ?_
  refine va_sld hx hb hX hbl hbA hS hv1 dL_law_353 ?_
  refine lv_aload_n hx hb dL_law_354 rfl (lv_at hl 0 rfl) ?_
  refine lv_iload_n hx hb dL_law_355 rfl (lv_at hl 3 rfl) ?_
  refine lv_iconst (v := 2) hx hb dL_law_356 (by decide) ?_
  refine lv_iadd hx hb dL_law_357 ?_
  refine va_sld hx hb hX hbl hbA hS hv2 dL_law_358 ?_
  refine lv_aload_n hx hb dL_law_359 rfl (lv_at hl 0 rfl) ?_
  refine lv_iload_n hx hb dL_law_360 rfl (lv_at hl 3 rfl) ?_
  refine lv_iconst (v := 3) hx hb dL_law_361 (by decide) ?_
  refine lv_iadd hx hb dL_law_362 ?_
  refine va_sld hx hb hX hbl hbA hS hv3 dL_law_363 ?_
  refine clVi (C := RX4) (b := t) (As := [.int (xs (nI i + 1).toNatClampNeg), .int (xs (nI i + 2).toNatClampNeg), .int (xs (nI i + 3).toNatClampNeg)]) (rest := [.int r1]) ⟨hx, hb, hml, hown, hts⟩ hM hE hS (ok_X4_answer l D cs (AS s) t (xs (nI i + 1).toNatClampNeg) (xs (nI i + 2).toNatClampNeg) (xs (nI i + 3).toNatClampNeg) _ _ h1) (cwV 3 hts gL_law_X4_answer rfl rfl rfl (by decide +kernel) ⟨(Nat.le_of_ble_eq_true rfl), (Nat.le_of_ble_eq_true rfl)⟩) (rc4 hM hE.1 hk5) rfl hl.1 rfl (Nat.le_of_ble_eq_true rfl) dL_law_364 ⟨by show cl + 2 + 0 ≤ 600000; omega, by show sl + 24 + 0 ≤ 7302250; omega⟩ (fun r2 σ2 H locs h2 hM hS => ?_)
  obtain ⟨hrr, hR2⟩ := h2
  refine lv_icmp_eq (tgt := 1032) hx hb dL_law_367 (by decide) (fun hc => ?_) (fun hc => absurd hrr hc)
  refine W.widen (k := cl + 2) (n := sl + 24) (by omega) (by omega) ?_
  exact kn σ2 H locs hR2 hM hS ls hl
set_option maxHeartbeats 4000000 in
set_option maxRecDepth 100000 in
theorem law_put {p : Program} {l : Launch} {e : Env} {s : State} {m : MethodId} {below : List Frame} {meth : Method} {c : Code} {D : va_G} {cs : CS} {b L : Nat} {xs : Nat → Int32} {u t : Nat} {q qM : Nat → Nat} (C0 : lw_At p s m meth c b L xs) (hE : EN D cs (AS s) s) {i : Nat} (hi : i + 3 < L) (hL : L ≤ 2048) {cl sl : Nat} (hcl : cl ≤ 500000) (hsl : sl ≤ 7000000)
    (kn : ∀ (σ : MM) (H : Heap) (locs : List Loc), Rel u t q qM σ → PH D cs (AS s) σ H → va_S (AS s) s.heap H locs → ∀ (ls : Array Slot), lv_has ls 4 [(0, .ref b), (1, .ref u), (2, .ref t), (3, .int (nI i))] → W p l e room_1 s m #[Value.ref b] below meth c H locs (cl + 2) (sl + 24) (lw_Z below #[Value.ref b] s) (F0 m 1032 ls []))
    {σ : MM} {H : Heap} {locs : List Loc} {ls : Array Slot} (hR : Rel u t q qM σ) (hM : PH D cs (AS s) σ H) (hS : va_S (AS s) s.heap H locs) (hl : lv_has ls 4 [(0, .ref b), (1, .ref u), (2, .ref t), (3, .int (nI i))]) : W p l e room_1 s m #[Value.ref b] below meth c H locs cl sl (lw_Z below #[Value.ref b] s) (F0 m 372 ls []) := by
  obtain ⟨hx, hb, hr, hml, hown0, hts0, hX, hbl, hlocks, hgv⟩ := C0
  have hown : s.vm.findClass RL = some m.cls := hown0
  have hts : ∀ w ∈ wsL_law, w.before #[Value.ref b] s = true := fun w hw => hts0 w (wsL_law_in w hw)
  have hbA : ¬ AS s b := Nat.not_le.mpr hbl
  have hv1 : vp_in (nI i + 1) L := by rw [nI_1]; exact sc_in (by omega) hL
  have hv2 : vp_in (nI i + 2) L := by rw [nI_p2]; exact sc_in (by omega) hL
  have hv3 : vp_in (nI i + 3) L := by rw [nI_p3]; exact sc_in (by omega) hL
  refine lv_aload_n hx hb dL_law_372 rfl (lv_at hl 1 rfl) ?_
  refine lv_aload_n hx hb dL_law_373 rfl (lv_at hl 0 rfl) ?_
  refine lv_iload_n hx hb dL_law_374 rfl (lv_at hl 3 rfl) ?_
  refine lv_iconst (v := 1) hx hb dL_law_375 (by decide) ?_
  refine lv_iadd hx hb dL_law_376 ?_
  refine va_sld hx hb hX hbl hbA hS hv1 dL_law_377 ?_
  refine lv_aload_n hx hb dL_law_378 rfl (lv_at hl 0 rfl) ?_
  refine lv_iload_n hx hb dL_law_379 rfl (lv_at hl 3 rfl) ?_
  refine lv_iconst (v := 2) hx hb dL_law_380 (by decide) ?_
  refine lv_iadd hx hb dL_law_381 ?_
  refine va_sld hx hb hX hbl hbA hS hv2 dL_law_382 ?_
  refine clVi (C := RX3) (b := u) (As := [.int (xs (nI i + 1).toNatClampNeg), .int (xs (nI i + 2).toNatClampNeg)]) (rest := []) ⟨hx, hb, hml, hown, hts⟩ hM hE hS (ok_X3_put l D cs (AS s) u (xs (nI i + 1).toNatClampNeg) (xs (nI i + 2).toNatClampNeg) _ _ (S_put hR (xs (nI i + 1).toNatClampNeg) (xs (nI i + 2).toNatClampNeg))) (cwV 2 hts gL_law_X3_put rfl rfl rfl (by decide +kernel) ⟨(Nat.le_of_ble_eq_true rfl), (Nat.le_of_ble_eq_true rfl)⟩) (rc3 hM hE.1 (Rel_u hR)) rfl hl.1 rfl (Nat.le_of_ble_eq_true rfl) dL_law_383 ⟨by show cl + 0 ≤ 600000; omega, by show sl + 0 ≤ 7302250; omega⟩ (fun r1 σ1 H locs h1 hM hS => ?_)
  obtain ⟨hk5, h1⟩ := h1
  refine lv_aload_n hx hb dL_law_386 rfl (lv_at hl 2 rfl) ?_
  refine lv_aload_n hx hb dL_law_387 rfl (lv_at hl 0 rfl) ?_
  refine lv_iload_n hx hb dL_law_388 rfl (lv_at hl 3 rfl) ?_
  refine lv_iconst (v := 1) hx hb dL_law_389 (by decide) ?_
  refine lv_iadd hx hb dL_law_390 ?_
  refine va_sld hx hb hX hbl hbA hS hv1 dL_law_391 ?_
  refine lv_aload_n hx hb dL_law_392 rfl (lv_at hl 0 rfl) ?_
  refine lv_iload_n hx hb dL_law_393 rfl (lv_at hl 3 rfl) ?_
  refine lv_iconst (v := 2) hx hb dL_law_394 (by decide) ?_
  refine lv_iadd hx hb dL_law_395 ?_
  refine va_sld hx hb hX hbl hbA hS hv2 dL_law_396 ?_
  refine clVi (C := RX4) (b := t) (As := [.int (xs (nI i + 1).toNatClampNeg), .int (xs (nI i + 2).toNatClampNeg)]) (rest := [.int r1]) ⟨hx, hb, hml, hown, hts⟩ hM hE hS (ok_X4_put l D cs (AS s) t (xs (nI i + 1).toNatClampNeg) (xs (nI i + 2).toNatClampNeg) _ _ h1) (cwV 2 hts gL_law_X4_put rfl rfl rfl (by decide +kernel) ⟨(Nat.le_of_ble_eq_true rfl), (Nat.le_of_ble_eq_true rfl)⟩) (rc4 hM hE.1 hk5) rfl hl.1 rfl (Nat.le_of_ble_eq_true rfl) dL_law_397 ⟨by show cl + 0 + 0 ≤ 600000; omega, by show sl + 0 + 0 ≤ 7302250; omega⟩ (fun r2 σ2 H locs h2 hM hS => ?_)
  obtain ⟨hrr, hR2⟩ := h2
  refine lv_icmp_eq (tgt := 1032) hx hb dL_law_400 (by decide) (fun hc => ?_) (fun hc => absurd hrr hc)
  refine W.widen (k := cl + 2) (n := sl + 24) (by omega) (by omega) ?_
  exact kn σ2 H locs hR2 hM hS ls hl
set_option maxHeartbeats 4000000 in
set_option maxRecDepth 100000 in
theorem law_set {p : Program} {l : Launch} {e : Env} {s : State} {m : MethodId} {below : List Frame} {meth : Method} {c : Code} {D : va_G} {cs : CS} {b L : Nat} {xs : Nat → Int32} {u t : Nat} {q qM : Nat → Nat} (C0 : lw_At p s m meth c b L xs) (hE : EN D cs (AS s) s) {i : Nat} (hi : i + 3 < L) (hL : L ≤ 2048) {cl sl : Nat} (hcl : cl ≤ 500000) (hsl : sl ≤ 7000000)
    (kn : ∀ (σ : MM) (H : Heap) (locs : List Loc), Rel u t q qM σ → PH D cs (AS s) σ H → va_S (AS s) s.heap H locs → ∀ (ls : Array Slot), lv_has ls 4 [(0, .ref b), (1, .ref u), (2, .ref t), (3, .int (nI i))] → W p l e room_1 s m #[Value.ref b] below meth c H locs (cl + 2) (sl + 24) (lw_Z below #[Value.ref b] s) (F0 m 1032 ls []))
    {σ : MM} {H : Heap} {locs : List Loc} {ls : Array Slot} (hR : Rel u t q qM σ) (hM : PH D cs (AS s) σ H) (hS : va_S (AS s) s.heap H locs) (hl : lv_has ls 4 [(0, .ref b), (1, .ref u), (2, .ref t), (3, .int (nI i))]) : W p l e room_1 s m #[Value.ref b] below meth c H locs cl sl (lw_Z below #[Value.ref b] s) (F0 m 405 ls []) := by
  obtain ⟨hx, hb, hr, hml, hown0, hts0, hX, hbl, hlocks, hgv⟩ := C0
  have hown : s.vm.findClass RL = some m.cls := hown0
  have hts : ∀ w ∈ wsL_law, w.before #[Value.ref b] s = true := fun w hw => hts0 w (wsL_law_in w hw)
  have hbA : ¬ AS s b := Nat.not_le.mpr hbl
  have hv1 : vp_in (nI i + 1) L := by rw [nI_1]; exact sc_in (by omega) hL
  have hv2 : vp_in (nI i + 2) L := by rw [nI_p2]; exact sc_in (by omega) hL
  have hv3 : vp_in (nI i + 3) L := by rw [nI_p3]; exact sc_in (by omega) hL
  refine lv_aload_n hx hb dL_law_405 rfl (lv_at hl 1 rfl) ?_
  refine lv_aload_n hx hb dL_law_406 rfl (lv_at hl 0 rfl) ?_
  refine lv_iload_n hx hb dL_law_407 rfl (lv_at hl 3 rfl) ?_
  refine lv_iconst (v := 1) hx hb dL_law_408 (by decide) ?_
  refine lv_iadd hx hb dL_law_409 ?_
  refine va_sld hx hb hX hbl hbA hS hv1 dL_law_410 ?_
  refine lv_aload_n hx hb dL_law_411 rfl (lv_at hl 0 rfl) ?_
  refine lv_iload_n hx hb dL_law_412 rfl (lv_at hl 3 rfl) ?_
  refine lv_iconst (v := 2) hx hb dL_law_413 (by decide) ?_
  refine lv_iadd hx hb dL_law_414 ?_
  refine va_sld hx hb hX hbl hbA hS hv2 dL_law_415 ?_
  refine clVi (C := RX3) (b := u) (As := [.int (xs (nI i + 1).toNatClampNeg), .int (xs (nI i + 2).toNatClampNeg)]) (rest := []) ⟨hx, hb, hml, hown, hts⟩ hM hE hS (ok_X3_set l D cs (AS s) u (xs (nI i + 1).toNatClampNeg) (xs (nI i + 2).toNatClampNeg) _ _ (S_set hR (xs (nI i + 1).toNatClampNeg) (xs (nI i + 2).toNatClampNeg))) (cwV 2 hts gL_law_X3_set rfl rfl rfl (by decide +kernel) ⟨(Nat.le_of_ble_eq_true rfl), (Nat.le_of_ble_eq_true rfl)⟩) (rc3 hM hE.1 (Rel_u hR)) rfl hl.1 rfl (Nat.le_of_ble_eq_true rfl) dL_law_416 ⟨by show cl + 0 ≤ 600000; omega, by show sl + 0 ≤ 7302250; omega⟩ (fun r1 σ1 H locs h1 hM hS => ?_)
  obtain ⟨hk5, h1⟩ := h1
  refine lv_aload_n hx hb dL_law_419 rfl (lv_at hl 2 rfl) ?_
  refine lv_aload_n hx hb dL_law_420 rfl (lv_at hl 0 rfl) ?_
  refine lv_iload_n hx hb dL_law_421 rfl (lv_at hl 3 rfl) ?_
  refine lv_iconst (v := 1) hx hb dL_law_422 (by decide) ?_
  refine lv_iadd hx hb dL_law_423 ?_
  refine va_sld hx hb hX hbl hbA hS hv1 dL_law_424 ?_
  refine lv_aload_n hx hb dL_law_425 rfl (lv_at hl 0 rfl) ?_
  refine lv_iload_n hx hb dL_law_426 rfl (lv_at hl 3 rfl) ?_
  refine lv_iconst (v := 2) hx hb dL_law_427 (by decide) ?_
  refine lv_iadd hx hb dL_law_428 ?_
  refine va_sld hx hb hX hbl hbA hS hv2 dL_law_429 ?_
  refine clVi (C := RX4) (b := t) (As := [.int (xs (nI i + 1).toNatClampNeg), .int (xs (nI i + 2).toNatClampNeg)]) (rest := [.int r1]) ⟨hx, hb, hml, hown, hts⟩ hM hE hS (ok_X4_set l D cs (AS s) t (xs (nI i + 1).toNatClampNeg) (xs (nI i + 2).toNatClampNeg) _ _ h1) (cwV 2 hts gL_law_X4_set rfl rfl rfl (by decide +kernel) ⟨(Nat.le_of_ble_eq_true rfl), (Nat.le_of_ble_eq_true rfl)⟩) (rc4 hM hE.1 hk5) rfl hl.1 rfl (Nat.le_of_ble_eq_true rfl) dL_law_430 ⟨by show cl + 0 + 0 ≤ 600000; omega, by show sl + 0 + 0 ≤ 7302250; omega⟩ (fun r2 σ2 H locs h2 hM hS => ?_)
  obtain ⟨hrr, hR2⟩ := h2
  refine lv_icmp_eq (tgt := 1032) hx hb dL_law_433 (by decide) (fun hc => ?_) (fun hc => absurd hrr hc)
  refine W.widen (k := cl + 2) (n := sl + 24) (by omega) (by omega) ?_
  exact kn σ2 H locs hR2 hM hS ls hl
set_option maxHeartbeats 4000000 in
set_option maxRecDepth 100000 in
theorem law_rule {p : Program} {l : Launch} {e : Env} {s : State} {m : MethodId} {below : List Frame} {meth : Method} {c : Code} {D : va_G} {cs : CS} {b L : Nat} {xs : Nat → Int32} {u t : Nat} {q qM : Nat → Nat} (C0 : lw_At p s m meth c b L xs) (hE : EN D cs (AS s) s) {i : Nat} (hi : i + 3 < L) (hL : L ≤ 2048) {cl sl : Nat} (hcl : cl ≤ 500000) (hsl : sl ≤ 7000000)
    (kn : ∀ (σ : MM) (H : Heap) (locs : List Loc), Rel u t q qM σ → PH D cs (AS s) σ H → va_S (AS s) s.heap H locs → ∀ (ls : Array Slot), lv_has ls 4 [(0, .ref b), (1, .ref u), (2, .ref t), (3, .int (nI i))] → W p l e room_1 s m #[Value.ref b] below meth c H locs (cl + 2) (sl + 24) (lw_Z below #[Value.ref b] s) (F0 m 1032 ls []))
    {σ : MM} {H : Heap} {locs : List Loc} {ls : Array Slot} (hR : Rel u t q qM σ) (hM : PH D cs (AS s) σ H) (hS : va_S (AS s) s.heap H locs) (hl : lv_has ls 4 [(0, .ref b), (1, .ref u), (2, .ref t), (3, .int (nI i))]) : W p l e room_1 s m #[Value.ref b] below meth c H locs cl sl (lw_Z below #[Value.ref b] s) (F0 m 438 ls []) := by
  obtain ⟨hx, hb, hr, hml, hown0, hts0, hX, hbl, hlocks, hgv⟩ := C0
  have hown : s.vm.findClass RL = some m.cls := hown0
  have hts : ∀ w ∈ wsL_law, w.before #[Value.ref b] s = true := fun w hw => hts0 w (wsL_law_in w hw)
  have hbA : ¬ AS s b := Nat.not_le.mpr hbl
  have hv1 : vp_in (nI i + 1) L := by rw [nI_1]; exact sc_in (by omega) hL
  have hv2 : vp_in (nI i + 2) L := by rw [nI_p2]; exact sc_in (by omega) hL
  have hv3 : vp_in (nI i + 3) L := by rw [nI_p3]; exact sc_in (by omega) hL
  refine lv_aload_n hx hb dL_law_438 rfl (lv_at hl 1 rfl) ?_
  refine lv_aload_n hx hb dL_law_439 rfl (lv_at hl 0 rfl) ?_
  refine lv_iload_n hx hb dL_law_440 rfl (lv_at hl 3 rfl) ?_
  refine lv_iconst (v := 1) hx hb dL_law_441 (by decide) ?_
  refine lv_iadd hx hb dL_law_442 ?_
  refine va_sld hx hb hX hbl hbA hS hv1 dL_law_443 ?_
  refine lv_aload_n hx hb dL_law_444 rfl (lv_at hl 0 rfl) ?_
  refine lv_iload_n hx hb dL_law_445 rfl (lv_at hl 3 rfl) ?_
  refine lv_iconst (v := 2) hx hb dL_law_446 (by decide) ?_
  refine lv_iadd hx hb dL_law_447 ?_
  refine va_sld hx hb hX hbl hbA hS hv2 dL_law_448 ?_
  refine lv_aload_n hx hb dL_law_449 rfl (lv_at hl 0 rfl) ?_
  refine lv_iload_n hx hb dL_law_450 rfl (lv_at hl 3 rfl) ?_
  refine lv_iconst (v := 3) hx hb dL_law_451 (by decide) ?_
  refine lv_iadd hx hb dL_law_452 ?_
  refine va_sld hx hb hX hbl hbA hS hv3 dL_law_453 ?_
  refine clVi (C := RX3) (b := u) (As := [.int (xs (nI i + 1).toNatClampNeg), .int (xs (nI i + 2).toNatClampNeg), .int (xs (nI i + 3).toNatClampNeg)]) (rest := []) ⟨hx, hb, hml, hown, hts⟩ hM hE hS (ok_X3_rule l D cs (AS s) u (xs (nI i + 1).toNatClampNeg) (xs (nI i + 2).toNatClampNeg) (xs (nI i + 3).toNatClampNeg) _ _ (S_rule hR (xs (nI i + 1).toNatClampNeg) (xs (nI i + 2).toNatClampNeg) (xs (nI i + 3).toNatClampNeg))) (cwV 3 hts gL_law_X3_rule rfl rfl rfl (by decide +kernel) ⟨(Nat.le_of_ble_eq_true rfl), (Nat.le_of_ble_eq_true rfl)⟩) (rc3 hM hE.1 (Rel_u hR)) rfl hl.1 rfl (Nat.le_of_ble_eq_true rfl) dL_law_454 ⟨by show cl + 1 ≤ 600000; omega, by show sl + 6 ≤ 7302250; omega⟩ (fun r1 σ1 H locs h1 hM hS => ?_)
  obtain ⟨hk5, h1⟩ := h1
  refine lv_aload_n hx hb dL_law_457 rfl (lv_at hl 2 rfl) ?_
  refine lv_aload_n hx hb dL_law_458 rfl (lv_at hl 0 rfl) ?_
  refine lv_iload_n hx hb dL_law_459 rfl (lv_at hl 3 rfl) ?_
  refine lv_iconst (v := 1) hx hb dL_law_460 (by decide) ?_
  refine lv_iadd hx hb dL_law_461 ?_
  refine va_sld hx hb hX hbl hbA hS hv1 dL_law_462 ?_
  refine lv_aload_n hx hb dL_law_463 rfl (lv_at hl 0 rfl) ?_
  refine lv_iload_n hx hb dL_law_464 rfl (lv_at hl 3 rfl) ?_
  refine lv_iconst (v := 2) hx hb dL_law_465 (by decide) ?_
  refine lv_iadd hx hb dL_law_466 ?_
  refine va_sld hx hb hX hbl hbA hS hv2 dL_law_467 ?_
  refine lv_aload_n hx hb dL_law_468 rfl (lv_at hl 0 rfl) ?_
  refine lv_iload_n hx hb dL_law_469 rfl (lv_at hl 3 rfl) ?_
  refine lv_iconst (v := 3) hx hb dL_law_470 (by decide) ?_
  refine lv_iadd hx hb dL_law_471 ?_
  refine va_sld hx hb hX hbl hbA hS hv3 dL_law_472 ?_
  refine clVi (C := RX4) (b := t) (As := [.int (xs (nI i + 1).toNatClampNeg), .int (xs (nI i + 2).toNatClampNeg), .int (xs (nI i + 3).toNatClampNeg)]) (rest := [.int r1]) ⟨hx, hb, hml, hown, hts⟩ hM hE hS (ok_X4_rule l D cs (AS s) t (xs (nI i + 1).toNatClampNeg) (xs (nI i + 2).toNatClampNeg) (xs (nI i + 3).toNatClampNeg) _ _ h1) (cwV 3 hts gL_law_X4_rule rfl rfl rfl (by decide +kernel) ⟨(Nat.le_of_ble_eq_true rfl), (Nat.le_of_ble_eq_true rfl)⟩) (rc4 hM hE.1 hk5) rfl hl.1 rfl (Nat.le_of_ble_eq_true rfl) dL_law_473 ⟨by show cl + 1 + 0 ≤ 600000; omega, by show sl + 6 + 0 ≤ 7302250; omega⟩ (fun r2 σ2 H locs h2 hM hS => ?_)
  obtain ⟨hrr, hR2⟩ := h2
  refine lv_icmp_eq (tgt := 1032) hx hb dL_law_476 (by decide) (fun hc => ?_) (fun hc => absurd hrr hc)
  refine W.widen (k := cl + 2) (n := sl + 24) (by omega) (by omega) ?_
  exact kn σ2 H locs hR2 hM hS ls hl
set_option maxHeartbeats 4000000 in
set_option maxRecDepth 100000 in
theorem law_with {p : Program} {l : Launch} {e : Env} {s : State} {m : MethodId} {below : List Frame} {meth : Method} {c : Code} {D : va_G} {cs : CS} {b L : Nat} {xs : Nat → Int32} {u t : Nat} {q qM : Nat → Nat} (C0 : lw_At p s m meth c b L xs) (hE : EN D cs (AS s) s) {i : Nat} (hi : i + 3 < L) (hL : L ≤ 2048) {cl sl : Nat} (hcl : cl ≤ 500000) (hsl : sl ≤ 7000000)
    (kn : ∀ (σ : MM) (H : Heap) (locs : List Loc), Rel u t q qM σ → PH D cs (AS s) σ H → va_S (AS s) s.heap H locs → ∀ (ls : Array Slot), lv_has ls 4 [(0, .ref b), (1, .ref u), (2, .ref t), (3, .int (nI i))] → W p l e room_1 s m #[Value.ref b] below meth c H locs (cl + 2) (sl + 24) (lw_Z below #[Value.ref b] s) (F0 m 1032 ls []))
    {σ : MM} {H : Heap} {locs : List Loc} {ls : Array Slot} (hR : Rel u t q qM σ) (hM : PH D cs (AS s) σ H) (hS : va_S (AS s) s.heap H locs) (hl : lv_has ls 4 [(0, .ref b), (1, .ref u), (2, .ref t), (3, .int (nI i))]) : W p l e room_1 s m #[Value.ref b] below meth c H locs cl sl (lw_Z below #[Value.ref b] s) (F0 m 481 ls []) := by
  obtain ⟨hx, hb, hr, hml, hown0, hts0, hX, hbl, hlocks, hgv⟩ := C0
  have hown : s.vm.findClass RL = some m.cls := hown0
  have hts : ∀ w ∈ wsL_law, w.before #[Value.ref b] s = true := fun w hw => hts0 w (wsL_law_in w hw)
  have hbA : ¬ AS s b := Nat.not_le.mpr hbl
  have hv1 : vp_in (nI i + 1) L := by rw [nI_1]; exact sc_in (by omega) hL
  have hv2 : vp_in (nI i + 2) L := by rw [nI_p2]; exact sc_in (by omega) hL
  have hv3 : vp_in (nI i + 3) L := by rw [nI_p3]; exact sc_in (by omega) hL
  refine lv_aload_n hx hb dL_law_481 rfl (lv_at hl 1 rfl) ?_
  refine lv_aload_n hx hb dL_law_482 rfl (lv_at hl 0 rfl) ?_
  refine lv_iload_n hx hb dL_law_483 rfl (lv_at hl 3 rfl) ?_
  refine lv_iconst (v := 1) hx hb dL_law_484 (by decide) ?_
  refine lv_iadd hx hb dL_law_485 ?_
  refine va_sld hx hb hX hbl hbA hS hv1 dL_law_486 ?_
  refine lv_aload_n hx hb dL_law_487 rfl (lv_at hl 0 rfl) ?_
  refine lv_iload_n hx hb dL_law_488 rfl (lv_at hl 3 rfl) ?_
  refine lv_iconst (v := 2) hx hb dL_law_489 (by decide) ?_
  refine lv_iadd hx hb dL_law_490 ?_
  refine va_sld hx hb hX hbl hbA hS hv2 dL_law_491 ?_
  refine lv_aload_n hx hb dL_law_492 rfl (lv_at hl 0 rfl) ?_
  refine lv_iload_n hx hb dL_law_493 rfl (lv_at hl 3 rfl) ?_
  refine lv_iconst (v := 3) hx hb dL_law_494 (by decide) ?_
  refine lv_iadd hx hb dL_law_495 ?_
  refine va_sld hx hb hX hbl hbA hS hv3 dL_law_496 ?_
  refine clVi (C := RX3) (b := u) (As := [.int (xs (nI i + 1).toNatClampNeg), .int (xs (nI i + 2).toNatClampNeg), .int (xs (nI i + 3).toNatClampNeg)]) (rest := []) ⟨hx, hb, hml, hown, hts⟩ hM hE hS (ok_X3_with l D cs (AS s) u (xs (nI i + 1).toNatClampNeg) (xs (nI i + 2).toNatClampNeg) (xs (nI i + 3).toNatClampNeg) _ _ (S_with hR (xs (nI i + 1).toNatClampNeg) (xs (nI i + 2).toNatClampNeg) (xs (nI i + 3).toNatClampNeg))) (cwV 3 hts gL_law_X3_with rfl rfl rfl (by decide +kernel) ⟨(Nat.le_of_ble_eq_true rfl), (Nat.le_of_ble_eq_true rfl)⟩) (rc3 hM hE.1 (Rel_u hR)) rfl hl.1 rfl (Nat.le_of_ble_eq_true rfl) dL_law_497 ⟨by show cl + 0 ≤ 600000; omega, by show sl + 0 ≤ 7302250; omega⟩ (fun r1 σ1 H locs h1 hM hS => ?_)
  obtain ⟨hk5, h1⟩ := h1
  refine lv_aload_n hx hb dL_law_500 rfl (lv_at hl 2 rfl) ?_
  refine lv_aload_n hx hb dL_law_501 rfl (lv_at hl 0 rfl) ?_
  refine lv_iload_n hx hb dL_law_502 rfl (lv_at hl 3 rfl) ?_
  refine lv_iconst (v := 1) hx hb dL_law_503 (by decide) ?_
  refine lv_iadd hx hb dL_law_504 ?_
  refine va_sld hx hb hX hbl hbA hS hv1 dL_law_505 ?_
  refine lv_aload_n hx hb dL_law_506 rfl (lv_at hl 0 rfl) ?_
  refine lv_iload_n hx hb dL_law_507 rfl (lv_at hl 3 rfl) ?_
  refine lv_iconst (v := 2) hx hb dL_law_508 (by decide) ?_
  refine lv_iadd hx hb dL_law_509 ?_
  refine va_sld hx hb hX hbl hbA hS hv2 dL_law_510 ?_
  refine lv_aload_n hx hb dL_law_511 rfl (lv_at hl 0 rfl) ?_
  refine lv_iload_n hx hb dL_law_512 rfl (lv_at hl 3 rfl) ?_
  refine lv_iconst (v := 3) hx hb dL_law_513 (by decide) ?_
  refine lv_iadd hx hb dL_law_514 ?_
  refine va_sld hx hb hX hbl hbA hS hv3 dL_law_515 ?_
  refine clVi (C := RX4) (b := t) (As := [.int (xs (nI i + 1).toNatClampNeg), .int (xs (nI i + 2).toNatClampNeg), .int (xs (nI i + 3).toNatClampNeg)]) (rest := [.int r1]) ⟨hx, hb, hml, hown, hts⟩ hM hE hS (ok_X4_with l D cs (AS s) t (xs (nI i + 1).toNatClampNeg) (xs (nI i + 2).toNatClampNeg) (xs (nI i + 3).toNatClampNeg) _ _ h1) (cwV 3 hts gL_law_X4_with rfl rfl rfl (by decide +kernel) ⟨(Nat.le_of_ble_eq_true rfl), (Nat.le_of_ble_eq_true rfl)⟩) (rc4 hM hE.1 hk5) rfl hl.1 rfl (Nat.le_of_ble_eq_true rfl) dL_law_516 ⟨by show cl + 0 + 0 ≤ 600000; omega, by show sl + 0 + 0 ≤ 7302250; omega⟩ (fun r2 σ2 H locs h2 hM hS => ?_)
  obtain ⟨hrr, hR2⟩ := h2
  refine lv_icmp_eq (tgt := 1032) hx hb dL_law_519 (by decide) (fun hc => ?_) (fun hc => absurd hrr hc)
  refine W.widen (k := cl + 2) (n := sl + 24) (by omega) (by omega) ?_
  exact kn σ2 H locs hR2 hM hS ls hl
set_option maxHeartbeats 4000000 in
set_option maxRecDepth 100000 in
theorem law_drop {p : Program} {l : Launch} {e : Env} {s : State} {m : MethodId} {below : List Frame} {meth : Method} {c : Code} {D : va_G} {cs : CS} {b L : Nat} {xs : Nat → Int32} {u t : Nat} {q qM : Nat → Nat} (C0 : lw_At p s m meth c b L xs) (hE : EN D cs (AS s) s) {i : Nat} (hi : i + 3 < L) (hL : L ≤ 2048) {cl sl : Nat} (hcl : cl ≤ 500000) (hsl : sl ≤ 7000000)
    (kn : ∀ (σ : MM) (H : Heap) (locs : List Loc), Rel u t q qM σ → PH D cs (AS s) σ H → va_S (AS s) s.heap H locs → ∀ (ls : Array Slot), lv_has ls 4 [(0, .ref b), (1, .ref u), (2, .ref t), (3, .int (nI i))] → W p l e room_1 s m #[Value.ref b] below meth c H locs (cl + 2) (sl + 24) (lw_Z below #[Value.ref b] s) (F0 m 1032 ls []))
    {σ : MM} {H : Heap} {locs : List Loc} {ls : Array Slot} (hR : Rel u t q qM σ) (hM : PH D cs (AS s) σ H) (hS : va_S (AS s) s.heap H locs) (hl : lv_has ls 4 [(0, .ref b), (1, .ref u), (2, .ref t), (3, .int (nI i))]) : W p l e room_1 s m #[Value.ref b] below meth c H locs cl sl (lw_Z below #[Value.ref b] s) (F0 m 524 ls []) := by
  obtain ⟨hx, hb, hr, hml, hown0, hts0, hX, hbl, hlocks, hgv⟩ := C0
  have hown : s.vm.findClass RL = some m.cls := hown0
  have hts : ∀ w ∈ wsL_law, w.before #[Value.ref b] s = true := fun w hw => hts0 w (wsL_law_in w hw)
  have hbA : ¬ AS s b := Nat.not_le.mpr hbl
  have hv1 : vp_in (nI i + 1) L := by rw [nI_1]; exact sc_in (by omega) hL
  have hv2 : vp_in (nI i + 2) L := by rw [nI_p2]; exact sc_in (by omega) hL
  have hv3 : vp_in (nI i + 3) L := by rw [nI_p3]; exact sc_in (by omega) hL
  refine lv_aload_n hx hb dL_law_524 rfl (lv_at hl 1 rfl) ?_
  refine lv_aload_n hx hb dL_law_525 rfl (lv_at hl 0 rfl) ?_
  refine lv_iload_n hx hb dL_law_526 rfl (lv_at hl 3 rfl) ?_
  refine lv_iconst (v := 1) hx hb dL_law_527 (by decide) ?_
  refine lv_iadd hx hb dL_law_528 ?_
  refine va_sld hx hb hX hbl hbA hS hv1 dL_law_529 ?_
  refine clVi (C := RX3) (b := u) (As := [.int (xs (nI i + 1).toNatClampNeg)]) (rest := []) ⟨hx, hb, hml, hown, hts⟩ hM hE hS (ok_X3_drop l D cs (AS s) u (xs (nI i + 1).toNatClampNeg) _ _ (S_drop hR (xs (nI i + 1).toNatClampNeg))) (cwV 1 hts gL_law_X3_drop rfl rfl rfl (by decide +kernel) ⟨(Nat.le_of_ble_eq_true rfl), (Nat.le_of_ble_eq_true rfl)⟩) (rc3 hM hE.1 (Rel_u hR)) rfl hl.1 rfl (Nat.le_of_ble_eq_true rfl) dL_law_530 ⟨by show cl + 0 ≤ 600000; omega, by show sl + 0 ≤ 7302250; omega⟩ (fun r1 σ1 H locs h1 hM hS => ?_)
  obtain ⟨hk5, h1⟩ := h1
  refine lv_aload_n hx hb dL_law_533 rfl (lv_at hl 2 rfl) ?_
  refine lv_aload_n hx hb dL_law_534 rfl (lv_at hl 0 rfl) ?_
  refine lv_iload_n hx hb dL_law_535 rfl (lv_at hl 3 rfl) ?_
  refine lv_iconst (v := 1) hx hb dL_law_536 (by decide) ?_
  refine lv_iadd hx hb dL_law_537 ?_
  refine va_sld hx hb hX hbl hbA hS hv1 dL_law_538 ?_
  refine clVi (C := RX4) (b := t) (As := [.int (xs (nI i + 1).toNatClampNeg)]) (rest := [.int r1]) ⟨hx, hb, hml, hown, hts⟩ hM hE hS (ok_X4_drop l D cs (AS s) t (xs (nI i + 1).toNatClampNeg) _ _ h1) (cwV 1 hts gL_law_X4_drop rfl rfl rfl (by decide +kernel) ⟨(Nat.le_of_ble_eq_true rfl), (Nat.le_of_ble_eq_true rfl)⟩) (rc4 hM hE.1 hk5) rfl hl.1 rfl (Nat.le_of_ble_eq_true rfl) dL_law_539 ⟨by show cl + 0 + 0 ≤ 600000; omega, by show sl + 0 + 0 ≤ 7302250; omega⟩ (fun r2 σ2 H locs h2 hM hS => ?_)
  obtain ⟨hrr, hR2⟩ := h2
  refine lv_icmp_eq (tgt := 1032) hx hb dL_law_542 (by decide) (fun hc => ?_) (fun hc => absurd hrr hc)
  refine W.widen (k := cl + 2) (n := sl + 24) (by omega) (by omega) ?_
  exact kn σ2 H locs hR2 hM hS ls hl
set_option maxHeartbeats 4000000 in
set_option maxRecDepth 100000 in
theorem law_holds {p : Program} {l : Launch} {e : Env} {s : State} {m : MethodId} {below : List Frame} {meth : Method} {c : Code} {D : va_G} {cs : CS} {b L : Nat} {xs : Nat → Int32} {u t : Nat} {q qM : Nat → Nat} (C0 : lw_At p s m meth c b L xs) (hE : EN D cs (AS s) s) {i : Nat} (hi : i + 3 < L) (hL : L ≤ 2048) {cl sl : Nat} (hcl : cl ≤ 500000) (hsl : sl ≤ 7000000)
    (kn : ∀ (σ : MM) (H : Heap) (locs : List Loc), Rel u t q qM σ → PH D cs (AS s) σ H → va_S (AS s) s.heap H locs → ∀ (ls : Array Slot), lv_has ls 4 [(0, .ref b), (1, .ref u), (2, .ref t), (3, .int (nI i))] → W p l e room_1 s m #[Value.ref b] below meth c H locs (cl + 2) (sl + 24) (lw_Z below #[Value.ref b] s) (F0 m 1032 ls []))
    {σ : MM} {H : Heap} {locs : List Loc} {ls : Array Slot} (hR : Rel u t q qM σ) (hM : PH D cs (AS s) σ H) (hS : va_S (AS s) s.heap H locs) (hl : lv_has ls 4 [(0, .ref b), (1, .ref u), (2, .ref t), (3, .int (nI i))]) : W p l e room_1 s m #[Value.ref b] below meth c H locs cl sl (lw_Z below #[Value.ref b] s) (F0 m 547 ls []) := by
  obtain ⟨hx, hb, hr, hml, hown0, hts0, hX, hbl, hlocks, hgv⟩ := C0
  have hown : s.vm.findClass RL = some m.cls := hown0
  have hts : ∀ w ∈ wsL_law, w.before #[Value.ref b] s = true := fun w hw => hts0 w (wsL_law_in w hw)
  have hbA : ¬ AS s b := Nat.not_le.mpr hbl
  have hv1 : vp_in (nI i + 1) L := by rw [nI_1]; exact sc_in (by omega) hL
  have hv2 : vp_in (nI i + 2) L := by rw [nI_p2]; exact sc_in (by omega) hL
  have hv3 : vp_in (nI i + 3) L := by rw [nI_p3]; exact sc_in (by omega) hL
  refine lv_aload_n hx hb dL_law_547 rfl (lv_at hl 1 rfl) ?_
  refine lv_aload_n hx hb dL_law_548 rfl (lv_at hl 0 rfl) ?_
  refine lv_iload_n hx hb dL_law_549 rfl (lv_at hl 3 rfl) ?_
  refine lv_iconst (v := 1) hx hb dL_law_550 (by decide) ?_
  refine lv_iadd hx hb dL_law_551 ?_
  refine va_sld hx hb hX hbl hbA hS hv1 dL_law_552 ?_
  refine lv_aload_n hx hb dL_law_553 rfl (lv_at hl 0 rfl) ?_
  refine lv_iload_n hx hb dL_law_554 rfl (lv_at hl 3 rfl) ?_
  refine lv_iconst (v := 2) hx hb dL_law_555 (by decide) ?_
  refine lv_iadd hx hb dL_law_556 ?_
  refine va_sld hx hb hX hbl hbA hS hv2 dL_law_557 ?_
  refine clVi (C := RX3) (b := u) (As := [.int (xs (nI i + 1).toNatClampNeg), .int (xs (nI i + 2).toNatClampNeg)]) (rest := []) ⟨hx, hb, hml, hown, hts⟩ hM hE hS (ok_X3_holds l D cs (AS s) u (xs (nI i + 1).toNatClampNeg) (xs (nI i + 2).toNatClampNeg) _ _ (S_holds hR (xs (nI i + 1).toNatClampNeg) (xs (nI i + 2).toNatClampNeg))) (cwV 2 hts gL_law_X3_holds rfl rfl rfl (by decide +kernel) ⟨(Nat.le_of_ble_eq_true rfl), (Nat.le_of_ble_eq_true rfl)⟩) (rc3 hM hE.1 (Rel_u hR)) rfl hl.1 rfl (Nat.le_of_ble_eq_true rfl) dL_law_558 ⟨by show cl + 0 ≤ 600000; omega, by show sl + 0 ≤ 7302250; omega⟩ (fun r1 σ1 H locs h1 hM hS => ?_)
  obtain ⟨hk5, h1⟩ := h1
  refine lv_aload_n hx hb dL_law_561 rfl (lv_at hl 2 rfl) ?_
  refine lv_aload_n hx hb dL_law_562 rfl (lv_at hl 0 rfl) ?_
  refine lv_iload_n hx hb dL_law_563 rfl (lv_at hl 3 rfl) ?_
  refine lv_iconst (v := 1) hx hb dL_law_564 (by decide) ?_
  refine lv_iadd hx hb dL_law_565 ?_
  refine va_sld hx hb hX hbl hbA hS hv1 dL_law_566 ?_
  refine lv_aload_n hx hb dL_law_567 rfl (lv_at hl 0 rfl) ?_
  refine lv_iload_n hx hb dL_law_568 rfl (lv_at hl 3 rfl) ?_
  refine lv_iconst (v := 2) hx hb dL_law_569 (by decide) ?_
  refine lv_iadd hx hb dL_law_570 ?_
  refine va_sld hx hb hX hbl hbA hS hv2 dL_law_571 ?_
  refine clVi (C := RX4) (b := t) (As := [.int (xs (nI i + 1).toNatClampNeg), .int (xs (nI i + 2).toNatClampNeg)]) (rest := [.int r1]) ⟨hx, hb, hml, hown, hts⟩ hM hE hS (ok_X4_holds l D cs (AS s) t (xs (nI i + 1).toNatClampNeg) (xs (nI i + 2).toNatClampNeg) _ _ h1) (cwV 2 hts gL_law_X4_holds rfl rfl rfl (by decide +kernel) ⟨(Nat.le_of_ble_eq_true rfl), (Nat.le_of_ble_eq_true rfl)⟩) (rc4 hM hE.1 hk5) rfl hl.1 rfl (Nat.le_of_ble_eq_true rfl) dL_law_572 ⟨by show cl + 0 + 0 ≤ 600000; omega, by show sl + 0 + 0 ≤ 7302250; omega⟩ (fun r2 σ2 H locs h2 hM hS => ?_)
  obtain ⟨hrr, hR2⟩ := h2
  refine lv_icmp_eq (tgt := 1032) hx hb dL_law_575 (by decide) (fun hc => ?_) (fun hc => absurd hrr hc)
  refine W.widen (k := cl + 2) (n := sl + 24) (by omega) (by omega) ?_
  exact kn σ2 H locs hR2 hM hS ls hl
set_option maxHeartbeats 4000000 in
set_option maxRecDepth 100000 in
theorem law_ruled {p : Program} {l : Launch} {e : Env} {s : State} {m : MethodId} {below : List Frame} {meth : Method} {c : Code} {D : va_G} {cs : CS} {b L : Nat} {xs : Nat → Int32} {u t : Nat} {q qM : Nat → Nat} (C0 : lw_At p s m meth c b L xs) (hE : EN D cs (AS s) s) {i : Nat} (hi : i + 3 < L) (hL : L ≤ 2048) {cl sl : Nat} (hcl : cl ≤ 500000) (hsl : sl ≤ 7000000)
    (kn : ∀ (σ : MM) (H : Heap) (locs : List Loc), Rel u t q qM σ → PH D cs (AS s) σ H → va_S (AS s) s.heap H locs → ∀ (ls : Array Slot), lv_has ls 4 [(0, .ref b), (1, .ref u), (2, .ref t), (3, .int (nI i))] → W p l e room_1 s m #[Value.ref b] below meth c H locs (cl + 2) (sl + 24) (lw_Z below #[Value.ref b] s) (F0 m 1032 ls []))
    {σ : MM} {H : Heap} {locs : List Loc} {ls : Array Slot} (hR : Rel u t q qM σ) (hM : PH D cs (AS s) σ H) (hS : va_S (AS s) s.heap H locs) (hl : lv_has ls 4 [(0, .ref b), (1, .ref u), (2, .ref t), (3, .int (nI i))]) : W p l e room_1 s m #[Value.ref b] below meth c H locs cl sl (lw_Z below #[Value.ref b] s) (F0 m 580 ls []) := by
  obtain ⟨hx, hb, hr, hml, hown0, hts0, hX, hbl, hlocks, hgv⟩ := C0
  have hown : s.vm.findClass RL = some m.cls := hown0
  have hts : ∀ w ∈ wsL_law, w.before #[Value.ref b] s = true := fun w hw => hts0 w (wsL_law_in w hw)
  have hbA : ¬ AS s b := Nat.not_le.mpr hbl
  have hv1 : vp_in (nI i + 1) L := by rw [nI_1]; exact sc_in (by omega) hL
  have hv2 : vp_in (nI i + 2) L := by rw [nI_p2]; exact sc_in (by omega) hL
  have hv3 : vp_in (nI i + 3) L := by rw [nI_p3]; exact sc_in (by omega) hL
  refine lv_aload_n hx hb dL_law_580 rfl (lv_at hl 1 rfl) ?_
  refine lv_aload_n hx hb dL_law_581 rfl (lv_at hl 0 rfl) ?_
  refine lv_iload_n hx hb dL_law_582 rfl (lv_at hl 3 rfl) ?_
  refine lv_iconst (v := 1) hx hb dL_law_583 (by decide) ?_
  refine lv_iadd hx hb dL_law_584 ?_
  refine va_sld hx hb hX hbl hbA hS hv1 dL_law_585 ?_
  refine clVi (C := RX3) (b := u) (As := [.int (xs (nI i + 1).toNatClampNeg)]) (rest := []) ⟨hx, hb, hml, hown, hts⟩ hM hE hS (ok_X3_ruled l D cs (AS s) u (xs (nI i + 1).toNatClampNeg) _ _ (S_ruled hR (xs (nI i + 1).toNatClampNeg))) (cwV 1 hts gL_law_X3_ruled rfl rfl rfl (by decide +kernel) ⟨(Nat.le_of_ble_eq_true rfl), (Nat.le_of_ble_eq_true rfl)⟩) (rc3 hM hE.1 (Rel_u hR)) rfl hl.1 rfl (Nat.le_of_ble_eq_true rfl) dL_law_586 ⟨by show cl + 0 ≤ 600000; omega, by show sl + 0 ≤ 7302250; omega⟩ (fun r1 σ1 H locs h1 hM hS => ?_)
  obtain ⟨hk5, h1⟩ := h1
  refine lv_aload_n hx hb dL_law_589 rfl (lv_at hl 2 rfl) ?_
  refine lv_aload_n hx hb dL_law_590 rfl (lv_at hl 0 rfl) ?_
  refine lv_iload_n hx hb dL_law_591 rfl (lv_at hl 3 rfl) ?_
  refine lv_iconst (v := 1) hx hb dL_law_592 (by decide) ?_
  refine lv_iadd hx hb dL_law_593 ?_
  refine va_sld hx hb hX hbl hbA hS hv1 dL_law_594 ?_
  refine clVi (C := RX4) (b := t) (As := [.int (xs (nI i + 1).toNatClampNeg)]) (rest := [.int r1]) ⟨hx, hb, hml, hown, hts⟩ hM hE hS (ok_X4_ruled l D cs (AS s) t (xs (nI i + 1).toNatClampNeg) _ _ h1) (cwV 1 hts gL_law_X4_ruled rfl rfl rfl (by decide +kernel) ⟨(Nat.le_of_ble_eq_true rfl), (Nat.le_of_ble_eq_true rfl)⟩) (rc4 hM hE.1 hk5) rfl hl.1 rfl (Nat.le_of_ble_eq_true rfl) dL_law_595 ⟨by show cl + 0 + 0 ≤ 600000; omega, by show sl + 0 + 0 ≤ 7302250; omega⟩ (fun r2 σ2 H locs h2 hM hS => ?_)
  obtain ⟨hrr, hR2⟩ := h2
  refine lv_icmp_eq (tgt := 1032) hx hb dL_law_598 (by decide) (fun hc => ?_) (fun hc => absurd hrr hc)
  refine W.widen (k := cl + 2) (n := sl + 24) (by omega) (by omega) ?_
  exact kn σ2 H locs hR2 hM hS ls hl
set_option maxHeartbeats 4000000 in
set_option maxRecDepth 100000 in
theorem law_quarrel {p : Program} {l : Launch} {e : Env} {s : State} {m : MethodId} {below : List Frame} {meth : Method} {c : Code} {D : va_G} {cs : CS} {b L : Nat} {xs : Nat → Int32} {u t : Nat} {q qM : Nat → Nat} (C0 : lw_At p s m meth c b L xs) (hE : EN D cs (AS s) s) {i : Nat} (hi : i + 3 < L) (hL : L ≤ 2048) {cl sl : Nat} (hcl : cl ≤ 500000) (hsl : sl ≤ 7000000)
    (kn : ∀ (σ : MM) (H : Heap) (locs : List Loc), Rel u t q qM σ → PH D cs (AS s) σ H → va_S (AS s) s.heap H locs → ∀ (ls : Array Slot), lv_has ls 4 [(0, .ref b), (1, .ref u), (2, .ref t), (3, .int (nI i))] → W p l e room_1 s m #[Value.ref b] below meth c H locs (cl + 2) (sl + 24) (lw_Z below #[Value.ref b] s) (F0 m 1032 ls []))
    {σ : MM} {H : Heap} {locs : List Loc} {ls : Array Slot} (hR : Rel u t q qM σ) (hM : PH D cs (AS s) σ H) (hS : va_S (AS s) s.heap H locs) (hl : lv_has ls 4 [(0, .ref b), (1, .ref u), (2, .ref t), (3, .int (nI i))]) : W p l e room_1 s m #[Value.ref b] below meth c H locs cl sl (lw_Z below #[Value.ref b] s) (F0 m 603 ls []) := by
  obtain ⟨hx, hb, hr, hml, hown0, hts0, hX, hbl, hlocks, hgv⟩ := C0
  have hown : s.vm.findClass RL = some m.cls := hown0
  have hts : ∀ w ∈ wsL_law, w.before #[Value.ref b] s = true := fun w hw => hts0 w (wsL_law_in w hw)
  have hbA : ¬ AS s b := Nat.not_le.mpr hbl
  have hv1 : vp_in (nI i + 1) L := by rw [nI_1]; exact sc_in (by omega) hL
  have hv2 : vp_in (nI i + 2) L := by rw [nI_p2]; exact sc_in (by omega) hL
  have hv3 : vp_in (nI i + 3) L := by rw [nI_p3]; exact sc_in (by omega) hL
  refine lv_aload_n hx hb dL_law_603 rfl (lv_at hl 1 rfl) ?_
  refine lv_aload_n hx hb dL_law_604 rfl (lv_at hl 0 rfl) ?_
  refine lv_iload_n hx hb dL_law_605 rfl (lv_at hl 3 rfl) ?_
  refine lv_iconst (v := 1) hx hb dL_law_606 (by decide) ?_
  refine lv_iadd hx hb dL_law_607 ?_
  refine va_sld hx hb hX hbl hbA hS hv1 dL_law_608 ?_
  refine clVi (C := RX3) (b := u) (As := [.int (xs (nI i + 1).toNatClampNeg)]) (rest := []) ⟨hx, hb, hml, hown, hts⟩ hM hE hS (ok_X3_quarrel l D cs (AS s) u (xs (nI i + 1).toNatClampNeg) _ _ (S_quarrel hR (xs (nI i + 1).toNatClampNeg))) (cwV 1 hts gL_law_X3_quarrel rfl rfl rfl (by decide +kernel) ⟨(Nat.le_of_ble_eq_true rfl), (Nat.le_of_ble_eq_true rfl)⟩) (rc3 hM hE.1 (Rel_u hR)) rfl hl.1 rfl (Nat.le_of_ble_eq_true rfl) dL_law_609 ⟨by show cl + 0 ≤ 600000; omega, by show sl + 0 ≤ 7302250; omega⟩ (fun r1 σ1 H locs h1 hM hS => ?_)
  obtain ⟨hk5, h1⟩ := h1
  refine lv_aload_n hx hb dL_law_612 rfl (lv_at hl 2 rfl) ?_
  refine lv_aload_n hx hb dL_law_613 rfl (lv_at hl 0 rfl) ?_
  refine lv_iload_n hx hb dL_law_614 rfl (lv_at hl 3 rfl) ?_
  refine lv_iconst (v := 1) hx hb dL_law_615 (by decide) ?_
  refine lv_iadd hx hb dL_law_616 ?_
  refine va_sld hx hb hX hbl hbA hS hv1 dL_law_617 ?_
  refine clVi (C := RX4) (b := t) (As := [.int (xs (nI i + 1).toNatClampNeg)]) (rest := [.int r1]) ⟨hx, hb, hml, hown, hts⟩ hM hE hS (ok_X4_quarrel l D cs (AS s) t (xs (nI i + 1).toNatClampNeg) _ _ h1) (cwV 1 hts gL_law_X4_quarrel rfl rfl rfl (by decide +kernel) ⟨(Nat.le_of_ble_eq_true rfl), (Nat.le_of_ble_eq_true rfl)⟩) (rc4 hM hE.1 hk5) rfl hl.1 rfl (Nat.le_of_ble_eq_true rfl) dL_law_618 ⟨by show cl + 0 + 0 ≤ 600000; omega, by show sl + 0 + 0 ≤ 7302250; omega⟩ (fun r2 σ2 H locs h2 hM hS => ?_)
  obtain ⟨hrr, hR2⟩ := h2
  refine lv_icmp_eq (tgt := 1032) hx hb dL_law_621 (by decide) (fun hc => ?_) (fun hc => absurd hrr hc)
  refine W.widen (k := cl + 2) (n := sl + 24) (by omega) (by omega) ?_
  exact kn σ2 H locs hR2 hM hS ls hl
set_option maxHeartbeats 4000000 in
set_option maxRecDepth 100000 in
theorem law_reach {p : Program} {l : Launch} {e : Env} {s : State} {m : MethodId} {below : List Frame} {meth : Method} {c : Code} {D : va_G} {cs : CS} {b L : Nat} {xs : Nat → Int32} {u t : Nat} {q qM : Nat → Nat} (C0 : lw_At p s m meth c b L xs) (hE : EN D cs (AS s) s) {i : Nat} (hi : i + 3 < L) (hL : L ≤ 2048) {cl sl : Nat} (hcl : cl ≤ 500000) (hsl : sl ≤ 7000000)
    (kn : ∀ (σ : MM) (H : Heap) (locs : List Loc), Rel u t q qM σ → PH D cs (AS s) σ H → va_S (AS s) s.heap H locs → ∀ (ls : Array Slot), lv_has ls 4 [(0, .ref b), (1, .ref u), (2, .ref t), (3, .int (nI i))] → W p l e room_1 s m #[Value.ref b] below meth c H locs (cl + 2) (sl + 24) (lw_Z below #[Value.ref b] s) (F0 m 1032 ls []))
    {σ : MM} {H : Heap} {locs : List Loc} {ls : Array Slot} (hR : Rel u t q qM σ) (hM : PH D cs (AS s) σ H) (hS : va_S (AS s) s.heap H locs) (hl : lv_has ls 4 [(0, .ref b), (1, .ref u), (2, .ref t), (3, .int (nI i))]) : W p l e room_1 s m #[Value.ref b] below meth c H locs cl sl (lw_Z below #[Value.ref b] s) (F0 m 626 ls []) := by
  obtain ⟨hx, hb, hr, hml, hown0, hts0, hX, hbl, hlocks, hgv⟩ := C0
  have hown : s.vm.findClass RL = some m.cls := hown0
  have hts : ∀ w ∈ wsL_law, w.before #[Value.ref b] s = true := fun w hw => hts0 w (wsL_law_in w hw)
  have hbA : ¬ AS s b := Nat.not_le.mpr hbl
  have hv1 : vp_in (nI i + 1) L := by rw [nI_1]; exact sc_in (by omega) hL
  have hv2 : vp_in (nI i + 2) L := by rw [nI_p2]; exact sc_in (by omega) hL
  have hv3 : vp_in (nI i + 3) L := by rw [nI_p3]; exact sc_in (by omega) hL
  refine lv_aload_n hx hb dL_law_626 rfl (lv_at hl 1 rfl) ?_
  refine lv_aload_n hx hb dL_law_627 rfl (lv_at hl 0 rfl) ?_
  refine lv_iload_n hx hb dL_law_628 rfl (lv_at hl 3 rfl) ?_
  refine lv_iconst (v := 1) hx hb dL_law_629 (by decide) ?_
  refine lv_iadd hx hb dL_law_630 ?_
  refine va_sld hx hb hX hbl hbA hS hv1 dL_law_631 ?_
  refine clVi (C := RX3) (b := u) (As := [.int (xs (nI i + 1).toNatClampNeg)]) (rest := []) ⟨hx, hb, hml, hown, hts⟩ hM hE hS (ok_X3_reach l D cs (AS s) u (xs (nI i + 1).toNatClampNeg) _ _ (S_reach hR (xs (nI i + 1).toNatClampNeg))) (cwV 1 hts gL_law_X3_reach rfl rfl rfl (by decide +kernel) ⟨(Nat.le_of_ble_eq_true rfl), (Nat.le_of_ble_eq_true rfl)⟩) (rc3 hM hE.1 (Rel_u hR)) rfl hl.1 rfl (Nat.le_of_ble_eq_true rfl) dL_law_632 ⟨by show cl + 0 ≤ 600000; omega, by show sl + 0 ≤ 7302250; omega⟩ (fun r1 σ1 H locs h1 hM hS => ?_)
  obtain ⟨hk5, h1⟩ := h1
  refine lv_aload_n hx hb dL_law_635 rfl (lv_at hl 2 rfl) ?_
  refine lv_aload_n hx hb dL_law_636 rfl (lv_at hl 0 rfl) ?_
  refine lv_iload_n hx hb dL_law_637 rfl (lv_at hl 3 rfl) ?_
  refine lv_iconst (v := 1) hx hb dL_law_638 (by decide) ?_
  refine lv_iadd hx hb dL_law_639 ?_
  refine va_sld hx hb hX hbl hbA hS hv1 dL_law_640 ?_
  refine clVi (C := RX4) (b := t) (As := [.int (xs (nI i + 1).toNatClampNeg)]) (rest := [.int r1]) ⟨hx, hb, hml, hown, hts⟩ hM hE hS (ok_X4_reach l D cs (AS s) t (xs (nI i + 1).toNatClampNeg) _ _ h1) (cwV 1 hts gL_law_X4_reach rfl rfl rfl (by decide +kernel) ⟨(Nat.le_of_ble_eq_true rfl), (Nat.le_of_ble_eq_true rfl)⟩) (rc4 hM hE.1 hk5) rfl hl.1 rfl (Nat.le_of_ble_eq_true rfl) dL_law_641 ⟨by show cl + 0 + 0 ≤ 600000; omega, by show sl + 0 + 0 ≤ 7302250; omega⟩ (fun r2 σ2 H locs h2 hM hS => ?_)
  obtain ⟨hrr, hR2⟩ := h2
  refine lv_icmp_eq (tgt := 1032) hx hb dL_law_644 (by decide) (fun hc => ?_) (fun hc => absurd hrr hc)
  refine W.widen (k := cl + 2) (n := sl + 24) (by omega) (by omega) ?_
  exact kn σ2 H locs hR2 hM hS ls hl
