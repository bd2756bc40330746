def rT_status (Rel : wS → wS → Prop) : Prop := ∀ (σx σm : wS), Rel σx σm → wx_X5_status (fun r1 => wm_X6_status (fun r2 σm1 => r1 = r2 ∧ Rel σx σm1) σm) σx
set_option maxRecDepth 100000 in
set_option maxHeartbeats 4000000 in
theorem law_status {Rel : wS → wS → Prop} (hr : rT_status Rel) {p : Program} {l : Launch} {e : Env} {s : State} {m : MethodId} {below : List Frame} {meth : Method} {c : Code} {H : Heap} {locs : List Loc} {QQ : State → Prop} {b L : Nat} {xs : Nat → Int32} {gx gm : wG} (C : lwC p s m c b L xs gx gm) {σx σm : wS} (hR : Rel σx σm) (hZ : lwZ gx gm σx σm H s) (hS : va_S (lwA s) s.heap H locs) {ls : Array Slot} {x3 : Int32} (hl : lv_has ls 4 [(0, .ref b), (1, .ref (gx.2.1 0)), (2, .ref (gm.2.1 0)), (3, .int x3)]) (hi : lwI x3 L)
    (kont : ∀ (σx σm : wS) (H : Heap) (locs : List Loc), Rel σx σm → lwZ gx gm σx σm H s → va_S (lwA s) s.heap H locs → W p l e room_1 s m #[Value.ref b] below meth c H locs 65 12543 QQ (F0 m 1114 ls [])) : W p l e room_1 s m #[Value.ref b] below meth c H locs 65 12543 QQ (F0 m 152 ls []) := by
  obtain ⟨hx, hb, hml, hown, hts, hX, hbl, -, -, -⟩ := id C
  have hbA : ¬ lwA s b := Nat.not_le.mpr hbl
  obtain ⟨h_0, h_1, h_2, h_3, h_4, h_5⟩ := hi
  refine lv_aload_n hx hb dL_law_152 rfl (lv_at hl 1 rfl) ?_
  have hw := hr σx σm  hR
  refine lawX C (cx_X5_status l gx (σ := σx) hw) (cwV 0 hts gL_law_X5_status rfl rfl rfl (by decide +kernel) ⟨Nat.le_of_ble_eq_true rfl, Nat.le_of_ble_eq_true rfl⟩) hZ hS hl.1 rfl rfl (Nat.le_of_ble_eq_true rfl) dL_law_153 (fun r1 σx1 H locs hw hZ hS => ?_)
  obtain ⟨hw, hq⟩ := hw
  rw [hq] at hZ
  refine lv_aload_n hx hb dL_law_156 rfl (lv_at hl 2 rfl) ?_
  refine lawM C (cm_X6_status l gm (σ := σm) hw) (cwV 0 hts gL_law_X6_status rfl rfl rfl (by decide +kernel) ⟨Nat.le_of_ble_eq_true rfl, Nat.le_of_ble_eq_true rfl⟩) hZ hS hl.1 rfl rfl (Nat.le_of_ble_eq_true rfl) dL_law_157 (fun r2 σm1 H locs hw hZ hS => ?_)
  exact lv_icmp_eq (tgt := 1114) hx hb dL_law_160 (by decide) (fun _ => kont _ _ _ _ hw.2 hZ hS) (fun hc => absurd hw.1 hc)
def rT_plate (Rel : wS → wS → Prop) : Prop := ∀ (σx σm : wS), Rel σx σm → wx_X5_plate (fun r1 σx1 => wm_X6_plate (fun r2 σm1 => r1 = r2 ∧ Rel σx1 σm1) σm) σx
set_option maxRecDepth 100000 in
set_option maxHeartbeats 4000000 in
theorem law_plate {Rel : wS → wS → Prop} (hr : rT_plate Rel) {p : Program} {l : Launch} {e : Env} {s : State} {m : MethodId} {below : List Frame} {meth : Method} {c : Code} {H : Heap} {locs : List Loc} {QQ : State → Prop} {b L : Nat} {xs : Nat → Int32} {gx gm : wG} (C : lwC p s m c b L xs gx gm) {σx σm : wS} (hR : Rel σx σm) (hZ : lwZ gx gm σx σm H s) (hS : va_S (lwA s) s.heap H locs) {ls : Array Slot} {x3 : Int32} (hl : lv_has ls 4 [(0, .ref b), (1, .ref (gx.2.1 0)), (2, .ref (gm.2.1 0)), (3, .int x3)]) (hi : lwI x3 L)
    (kont : ∀ (σx σm : wS) (H : Heap) (locs : List Loc), Rel σx σm → lwZ gx gm σx σm H s → va_S (lwA s) s.heap H locs → W p l e room_1 s m #[Value.ref b] below meth c H locs 65 12543 QQ (F0 m 1114 ls [])) : W p l e room_1 s m #[Value.ref b] below meth c H locs 65 12543 QQ (F0 m 165 ls []) := by
  obtain ⟨hx, hb, hml, hown, hts, hX, hbl, -, -, -⟩ := id C
  have hbA : ¬ lwA s b := Nat.not_le.mpr hbl
  obtain ⟨h_0, h_1, h_2, h_3, h_4, h_5⟩ := hi
  refine lv_aload_n hx hb dL_law_165 rfl (lv_at hl 1 rfl) ?_
  have hw := hr σx σm  hR
  refine lawX C (cx_X5_plate l gx (σ := σx) hw) (cwV 0 hts gL_law_X5_plate rfl rfl rfl (by decide +kernel) ⟨Nat.le_of_ble_eq_true rfl, Nat.le_of_ble_eq_true rfl⟩) hZ hS hl.1 rfl rfl (Nat.le_of_ble_eq_true rfl) dL_law_166 (fun r1 σx1 H locs hw hZ hS => ?_)
  refine lv_aload_n hx hb dL_law_169 rfl (lv_at hl 2 rfl) ?_
  refine lawM C (cm_X6_plate l gm (σ := σm) hw) (cwV 0 hts gL_law_X6_plate rfl rfl rfl (by decide +kernel) ⟨Nat.le_of_ble_eq_true rfl, Nat.le_of_ble_eq_true rfl⟩) hZ hS hl.1 rfl rfl (Nat.le_of_ble_eq_true rfl) dL_law_170 (fun r2 σm1 H locs hw hZ hS => ?_)
  exact lv_icmp_eq (tgt := 1114) hx hb dL_law_173 (by decide) (fun _ => kont _ _ _ _ hw.2 hZ hS) (fun hc => absurd hw.1 hc)
def rT_motif (Rel : wS → wS → Prop) : Prop := ∀ (σx σm : wS), Rel σx σm → wx_X5_motif (fun r1 σx1 => wm_X6_motif (fun r2 σm1 => r1 = r2 ∧ Rel σx1 σm1) σm) σx
set_option maxRecDepth 100000 in
set_option maxHeartbeats 4000000 in
theorem law_motif {Rel : wS → wS → Prop} (hr : rT_motif Rel) {p : Program} {l : Launch} {e : Env} {s : State} {m : MethodId} {below : List Frame} {meth : Method} {c : Code} {H : Heap} {locs : List Loc} {QQ : State → Prop} {b L : Nat} {xs : Nat → Int32} {gx gm : wG} (C : lwC p s m c b L xs gx gm) {σx σm : wS} (hR : Rel σx σm) (hZ : lwZ gx gm σx σm H s) (hS : va_S (lwA s) s.heap H locs) {ls : Array Slot} {x3 : Int32} (hl : lv_has ls 4 [(0, .ref b), (1, .ref (gx.2.1 0)), (2, .ref (gm.2.1 0)), (3, .int x3)]) (hi : lwI x3 L)
    (kont : ∀ (σx σm : wS) (H : Heap) (locs : List Loc), Rel σx σm → lwZ gx gm σx σm H s → va_S (lwA s) s.heap H locs → W p l e room_1 s m #[Value.ref b] below meth c H locs 65 12543 QQ (F0 m 1114 ls [])) : W p l e room_1 s m #[Value.ref b] below meth c H locs 65 12543 QQ (F0 m 178 ls []) := by
  obtain ⟨hx, hb, hml, hown, hts, hX, hbl, -, -, -⟩ := id C
  have hbA : ¬ lwA s b := Nat.not_le.mpr hbl
  obtain ⟨h_0, h_1, h_2, h_3, h_4, h_5⟩ := hi
  refine lv_aload_n hx hb dL_law_178 rfl (lv_at hl 1 rfl) ?_
  have hw := hr σx σm  hR
  refine lawX C (cx_X5_motif l gx (σ := σx) hw) (cwV 0 hts gL_law_X5_motif rfl rfl rfl (by decide +kernel) ⟨Nat.le_of_ble_eq_true rfl, Nat.le_of_ble_eq_true rfl⟩) hZ hS hl.1 rfl rfl (Nat.le_of_ble_eq_true rfl) dL_law_179 (fun r1 σx1 H locs hw hZ hS => ?_)
  refine lv_aload_n hx hb dL_law_182 rfl (lv_at hl 2 rfl) ?_
  refine lawM C (cm_X6_motif l gm (σ := σm) hw) (cwV 0 hts gL_law_X6_motif rfl rfl rfl (by decide +kernel) ⟨Nat.le_of_ble_eq_true rfl, Nat.le_of_ble_eq_true rfl⟩) hZ hS hl.1 rfl rfl (Nat.le_of_ble_eq_true rfl) dL_law_183 (fun r2 σm1 H locs hw hZ hS => ?_)
  exact lv_icmp_eq (tgt := 1114) hx hb dL_law_186 (by decide) (fun _ => kont _ _ _ _ hw.2 hZ hS) (fun hc => absurd hw.1 hc)
def rT_shows (Rel : wS → wS → Prop) : Prop := ∀ (σx σm : wS) (x1 x2 x3 : Int32), Rel σx σm → wx_X5_shows (fun r1 σx1 => wm_X6_shows (fun r2 σm1 => r1 = r2 ∧ Rel σx1 σm1) x1 x2 x3 σm) x1 x2 x3 σx
set_option maxRecDepth 100000 in
set_option maxHeartbeats 4000000 in
theorem law_shows {Rel : wS → wS → Prop} (hr : rT_shows Rel) {p : Program} {l : Launch} {e : Env} {s : State} {m : MethodId} {below : List Frame} {meth : Method} {c : Code} {H : Heap} {locs : List Loc} {QQ : State → Prop} {b L : Nat} {xs : Nat → Int32} {gx gm : wG} (C : lwC p s m c b L xs gx gm) {σx σm : wS} (hR : Rel σx σm) (hZ : lwZ gx gm σx σm H s) (hS : va_S (lwA s) s.heap H locs) {ls : Array Slot} {x3 : Int32} (hl : lv_has ls 4 [(0, .ref b), (1, .ref (gx.2.1 0)), (2, .ref (gm.2.1 0)), (3, .int x3)]) (hi : lwI x3 L)
    (kont : ∀ (σx σm : wS) (H : Heap) (locs : List Loc), Rel σx σm → lwZ gx gm σx σm H s → va_S (lwA s) s.heap H locs → W p l e room_1 s m #[Value.ref b] below meth c H locs 65 12543 QQ (F0 m 1114 ls [])) : W p l e room_1 s m #[Value.ref b] below meth c H locs 65 12543 QQ (F0 m 191 ls []) := by
  obtain ⟨hx, hb, hml, hown, hts, hX, hbl, -, -, -⟩ := id C
  have hbA : ¬ lwA s b := Nat.not_le.mpr hbl
  obtain ⟨h_0, h_1, h_2, h_3, h_4, h_5⟩ := hi
  refine lv_aload_n hx hb dL_law_191 rfl (lv_at hl 1 rfl) ?_
  refine lv_aload_n hx hb dL_law_192 rfl (lv_at hl 0 rfl) ?_
  refine lv_iload_n hx hb dL_law_193 rfl (lv_at hl 3 rfl) ?_
  refine lv_iconst (v := 1) hx hb dL_law_194 (by decide) ?_
  refine lv_iadd hx hb dL_law_195 ?_
  refine va_sld hx hb hX hbl hbA hS h_1 dL_law_196 ?_
  refine lv_aload_n hx hb dL_law_197 rfl (lv_at hl 0 rfl) ?_
  refine lv_iload_n hx hb dL_law_198 rfl (lv_at hl 3 rfl) ?_
  refine lv_iconst (v := 2) hx hb dL_law_199 (by decide) ?_
  refine lv_iadd hx hb dL_law_200 ?_
  refine va_sld hx hb hX hbl hbA hS h_2 dL_law_201 ?_
  refine lv_aload_n hx hb dL_law_202 rfl (lv_at hl 0 rfl) ?_
  refine lv_iload_n hx hb dL_law_203 rfl (lv_at hl 3 rfl) ?_
  refine lv_iconst (v := 3) hx hb dL_law_204 (by decide) ?_
  refine lv_iadd hx hb dL_law_205 ?_
  refine va_sld hx hb hX hbl hbA hS h_3 dL_law_206 ?_
  have hw := hr σx σm (xs (x3 + 1).toNatClampNeg) (xs (x3 + 2).toNatClampNeg) (xs (x3 + 3).toNatClampNeg)  hR
  refine lawX C (cx_X5_shows l gx (σ := σx) hw) (cwV 3 hts gL_law_X5_shows rfl rfl rfl (by decide +kernel) ⟨Nat.le_of_ble_eq_true rfl, Nat.le_of_ble_eq_true rfl⟩) hZ hS hl.1 rfl rfl (Nat.le_of_ble_eq_true rfl) dL_law_207 (fun r1 σx1 H locs hw hZ hS => ?_)
  refine lv_aload_n hx hb dL_law_210 rfl (lv_at hl 2 rfl) ?_
  refine lv_aload_n hx hb dL_law_211 rfl (lv_at hl 0 rfl) ?_
  refine lv_iload_n hx hb dL_law_212 rfl (lv_at hl 3 rfl) ?_
  refine lv_iconst (v := 1) hx hb dL_law_213 (by decide) ?_
  refine lv_iadd hx hb dL_law_214 ?_
  refine va_sld hx hb hX hbl hbA hS h_1 dL_law_215 ?_
  refine lv_aload_n hx hb dL_law_216 rfl (lv_at hl 0 rfl) ?_
  refine lv_iload_n hx hb dL_law_217 rfl (lv_at hl 3 rfl) ?_
  refine lv_iconst (v := 2) hx hb dL_law_218 (by decide) ?_
  refine lv_iadd hx hb dL_law_219 ?_
  refine va_sld hx hb hX hbl hbA hS h_2 dL_law_220 ?_
  refine lv_aload_n hx hb dL_law_221 rfl (lv_at hl 0 rfl) ?_
  refine lv_iload_n hx hb dL_law_222 rfl (lv_at hl 3 rfl) ?_
  refine lv_iconst (v := 3) hx hb dL_law_223 (by decide) ?_
  refine lv_iadd hx hb dL_law_224 ?_
  refine va_sld hx hb hX hbl hbA hS h_3 dL_law_225 ?_
  refine lawM C (cm_X6_shows l gm (σ := σm) hw) (cwV 3 hts gL_law_X6_shows rfl rfl rfl (by decide +kernel) ⟨Nat.le_of_ble_eq_true rfl, Nat.le_of_ble_eq_true rfl⟩) hZ hS hl.1 rfl rfl (Nat.le_of_ble_eq_true rfl) dL_law_226 (fun r2 σm1 H locs hw hZ hS => ?_)
  exact lv_icmp_eq (tgt := 1114) hx hb dL_law_229 (by decide) (fun _ => kont _ _ _ _ hw.2 hZ hS) (fun hc => absurd hw.1 hc)
def rT_ahead (Rel : wS → wS → Prop) : Prop := ∀ (σx σm : wS) (x1 x2 x3 x4 : Int32), Rel σx σm → wx_X5_ahead (fun r1 σx1 => wm_X6_ahead (fun r2 σm1 => r1 = r2 ∧ Rel σx1 σm1) x1 x2 x3 x4 σm) x1 x2 x3 x4 σx
set_option maxRecDepth 100000 in
set_option maxHeartbeats 4000000 in
theorem law_ahead {Rel : wS → wS → Prop} (hr : rT_ahead Rel) {p : Program} {l : Launch} {e : Env} {s : State} {m : MethodId} {below : List Frame} {meth : Method} {c : Code} {H : Heap} {locs : List Loc} {QQ : State → Prop} {b L : Nat} {xs : Nat → Int32} {gx gm : wG} (C : lwC p s m c b L xs gx gm) {σx σm : wS} (hR : Rel σx σm) (hZ : lwZ gx gm σx σm H s) (hS : va_S (lwA s) s.heap H locs) {ls : Array Slot} {x3 : Int32} (hl : lv_has ls 4 [(0, .ref b), (1, .ref (gx.2.1 0)), (2, .ref (gm.2.1 0)), (3, .int x3)]) (hi : lwI x3 L)
    (kont : ∀ (σx σm : wS) (H : Heap) (locs : List Loc), Rel σx σm → lwZ gx gm σx σm H s → va_S (lwA s) s.heap H locs → W p l e room_1 s m #[Value.ref b] below meth c H locs 65 12543 QQ (F0 m 1114 ls [])) : W p l e room_1 s m #[Value.ref b] below meth c H locs 65 12543 QQ (F0 m 234 ls []) := by
  obtain ⟨hx, hb, hml, hown, hts, hX, hbl, -, -, -⟩ := id C
  have hbA : ¬ lwA s b := Nat.not_le.mpr hbl
  obtain ⟨h_0, h_1, h_2, h_3, h_4, h_5⟩ := hi
  refine lv_aload_n hx hb dL_law_234 rfl (lv_at hl 1 rfl) ?_
  refine lv_aload_n hx hb dL_law_235 rfl (lv_at hl 0 rfl) ?_
  refine lv_iload_n hx hb dL_law_236 rfl (lv_at hl 3 rfl) ?_
  refine lv_iconst (v := 1) hx hb dL_law_237 (by decide) ?_
  refine lv_iadd hx hb dL_law_238 ?_
  refine va_sld hx hb hX hbl hbA hS h_1 dL_law_239 ?_
  refine lv_aload_n hx hb dL_law_240 rfl (lv_at hl 0 rfl) ?_
  refine lv_iload_n hx hb dL_law_241 rfl (lv_at hl 3 rfl) ?_
  refine lv_iconst (v := 2) hx hb dL_law_242 (by decide) ?_
  refine lv_iadd hx hb dL_law_243 ?_
  refine va_sld hx hb hX hbl hbA hS h_2 dL_law_244 ?_
  refine lv_aload_n hx hb dL_law_245 rfl (lv_at hl 0 rfl) ?_
  refine lv_iload_n hx hb dL_law_246 rfl (lv_at hl 3 rfl) ?_
  refine lv_iconst (v := 3) hx hb dL_law_247 (by decide) ?_
  refine lv_iadd hx hb dL_law_248 ?_
  refine va_sld hx hb hX hbl hbA hS h_3 dL_law_249 ?_
  refine lv_aload_n hx hb dL_law_250 rfl (lv_at hl 0 rfl) ?_
  refine lv_iload_n hx hb dL_law_251 rfl (lv_at hl 3 rfl) ?_
  refine lv_iconst (v := 4) hx hb dL_law_252 (by decide) ?_
  refine lv_iadd hx hb dL_law_253 ?_
  refine va_sld hx hb hX hbl hbA hS h_4 dL_law_254 ?_
  have hw := hr σx σm (xs (x3 + 1).toNatClampNeg) (xs (x3 + 2).toNatClampNeg) (xs (x3 + 3).toNatClampNeg) (xs (x3 + 4).toNatClampNeg)  hR
  refine lawX C (cx_X5_ahead l gx (σ := σx) hw) (cwV 4 hts gL_law_X5_ahead rfl rfl rfl (by decide +kernel) ⟨Nat.le_of_ble_eq_true rfl, Nat.le_of_ble_eq_true rfl⟩) hZ hS hl.1 rfl rfl (Nat.le_of_ble_eq_true rfl) dL_law_255 (fun r1 σx1 H locs hw hZ hS => ?_)
  refine lv_aload_n hx hb dL_law_258 rfl (lv_at hl 2 rfl) ?_
  refine lv_aload_n hx hb dL_law_259 rfl (lv_at hl 0 rfl) ?_
  refine lv_iload_n hx hb dL_law_260 rfl (lv_at hl 3 rfl) ?_
  refine lv_iconst (v := 1) hx hb dL_law_261 (by decide) ?_
  refine lv_iadd hx hb dL_law_262 ?_
  refine va_sld hx hb hX hbl hbA hS h_1 dL_law_263 ?_
  refine lv_aload_n hx hb dL_law_264 rfl (lv_at hl 0 rfl) ?_
  refine lv_iload_n hx hb dL_law_265 rfl (lv_at hl 3 rfl) ?_
  refine lv_iconst (v := 2) hx hb dL_law_266 (by decide) ?_
  refine lv_iadd hx hb dL_law_267 ?_
  refine va_sld hx hb hX hbl hbA hS h_2 dL_law_268 ?_
  refine lv_aload_n hx hb dL_law_269 rfl (lv_at hl 0 rfl) ?_
  refine lv_iload_n hx hb dL_law_270 rfl (lv_at hl 3 rfl) ?_
  refine lv_iconst (v := 3) hx hb dL_law_271 (by decide) ?_
  refine lv_iadd hx hb dL_law_272 ?_
  refine va_sld hx hb hX hbl hbA hS h_3 dL_law_273 ?_
  refine lv_aload_n hx hb dL_law_274 rfl (lv_at hl 0 rfl) ?_
  refine lv_iload_n hx hb dL_law_275 rfl (lv_at hl 3 rfl) ?_
  refine lv_iconst (v := 4) hx hb dL_law_276 (by decide) ?_
  refine lv_iadd hx hb dL_law_277 ?_
  refine va_sld hx hb hX hbl hbA hS h_4 dL_law_278 ?_
  refine lawM C (cm_X6_ahead l gm (σ := σm) hw) (cwV 4 hts gL_law_X6_ahead rfl rfl rfl (by decide +kernel) ⟨Nat.le_of_ble_eq_true rfl, Nat.le_of_ble_eq_true rfl⟩) hZ hS hl.1 rfl rfl (Nat.le_of_ble_eq_true rfl) dL_law_279 (fun r2 σm1 H locs hw hZ hS => ?_)
  exact lv_icmp_eq (tgt := 1114) hx hb dL_law_282 (by decide) (fun _ => kont _ _ _ _ hw.2 hZ hS) (fun hc => absurd hw.1 hc)
def rT_same (Rel : wS → wS → Prop) : Prop := ∀ (σx σm : wS) (x1 x2 x3 : Int32), Rel σx σm → wx_X5_same (fun r1 σx1 => wm_X6_same (fun r2 σm1 => r1 = r2 ∧ Rel σx1 σm1) x1 x2 x3 σm) x1 x2 x3 σx
set_option maxRecDepth 100000 in
set_option maxHeartbeats 4000000 in
theorem law_same {Rel : wS → wS → Prop} (hr : rT_same Rel) {p : Program} {l : Launch} {e : Env} {s : State} {m : MethodId} {below : List Frame} {meth : Method} {c : Code} {H : Heap} {locs : List Loc} {QQ : State → Prop} {b L : Nat} {xs : Nat → Int32} {gx gm : wG} (C : lwC p s m c b L xs gx gm) {σx σm : wS} (hR : Rel σx σm) (hZ : lwZ gx gm σx σm H s) (hS : va_S (lwA s) s.heap H locs) {ls : Array Slot} {x3 : Int32} (hl : lv_has ls 4 [(0, .ref b), (1, .ref (gx.2.1 0)), (2, .ref (gm.2.1 0)), (3, .int x3)]) (hi : lwI x3 L)
    (kont : ∀ (σx σm : wS) (H : Heap) (locs : List Loc), Rel σx σm → lwZ gx gm σx σm H s → va_S (lwA s) s.heap H locs → W p l e room_1 s m #[Value.ref b] below meth c H locs 65 12543 QQ (F0 m 1114 ls [])) : W p l e room_1 s m #[Value.ref b] below meth c H locs 65 12543 QQ (F0 m 287 ls []) := by
  obtain ⟨hx, hb, hml, hown, hts, hX, hbl, -, -, -⟩ := id C
  have hbA : ¬ lwA s b := Nat.not_le.mpr hbl
  obtain ⟨h_0, h_1, h_2, h_3, h_4, h_5⟩ := hi
  refine lv_aload_n hx hb dL_law_287 rfl (lv_at hl 1 rfl) ?_
  refine lv_aload_n hx hb dL_law_288 rfl (lv_at hl 0 rfl) ?_
  refine lv_iload_n hx hb dL_law_289 rfl (lv_at hl 3 rfl) ?_
  refine lv_iconst (v := 1) hx hb dL_law_290 (by decide) ?_
  refine lv_iadd hx hb dL_law_291 ?_
  refine va_sld hx hb hX hbl hbA hS h_1 dL_law_292 ?_
  refine lv_aload_n hx hb dL_law_293 rfl (lv_at hl 0 rfl) ?_
  refine lv_iload_n hx hb dL_law_294 rfl (lv_at hl 3 rfl) ?_
  refine lv_iconst (v := 2) hx hb dL_law_295 (by decide) ?_
  refine lv_iadd hx hb dL_law_296 ?_
  refine va_sld hx hb hX hbl hbA hS h_2 dL_law_297 ?_
  refine lv_aload_n hx hb dL_law_298 rfl (lv_at hl 0 rfl) ?_
  refine lv_iload_n hx hb dL_law_299 rfl (lv_at hl 3 rfl) ?_
  refine lv_iconst (v := 3) hx hb dL_law_300 (by decide) ?_
  refine lv_iadd hx hb dL_law_301 ?_
  refine va_sld hx hb hX hbl hbA hS h_3 dL_law_302 ?_
  have hw := hr σx σm (xs (x3 + 1).toNatClampNeg) (xs (x3 + 2).toNatClampNeg) (xs (x3 + 3).toNatClampNeg)  hR
  refine lawX C (cx_X5_same l gx (σ := σx) hw) (cwV 3 hts gL_law_X5_same rfl rfl rfl (by decide +kernel) ⟨Nat.le_of_ble_eq_true rfl, Nat.le_of_ble_eq_true rfl⟩) hZ hS hl.1 rfl rfl (Nat.le_of_ble_eq_true rfl) dL_law_303 (fun r1 σx1 H locs hw hZ hS => ?_)
  refine lv_aload_n hx hb dL_law_306 rfl (lv_at hl 2 rfl) ?_
  refine lv_aload_n hx hb dL_law_307 rfl (lv_at hl 0 rfl) ?_
  refine lv_iload_n hx hb dL_law_308 rfl (lv_at hl 3 rfl) ?_
  refine lv_iconst (v := 1) hx hb dL_law_309 (by decide) ?_
  refine lv_iadd hx hb dL_law_310 ?_
  refine va_sld hx hb hX hbl hbA hS h_1 dL_law_311 ?_
  refine lv_aload_n hx hb dL_law_312 rfl (lv_at hl 0 rfl) ?_
  refine lv_iload_n hx hb dL_law_313 rfl (lv_at hl 3 rfl) ?_
  refine lv_iconst (v := 2) hx hb dL_law_314 (by decide) ?_
  refine lv_iadd hx hb dL_law_315 ?_
  refine va_sld hx hb hX hbl hbA hS h_2 dL_law_316 ?_
  refine lv_aload_n hx hb dL_law_317 rfl (lv_at hl 0 rfl) ?_
  refine lv_iload_n hx hb dL_law_318 rfl (lv_at hl 3 rfl) ?_
  refine lv_iconst (v := 3) hx hb dL_law_319 (by decide) ?_
  refine lv_iadd hx hb dL_law_320 ?_
  refine va_sld hx hb hX hbl hbA hS h_3 dL_law_321 ?_
  refine lawM C (cm_X6_same l gm (σ := σm) hw) (cwV 3 hts gL_law_X6_same rfl rfl rfl (by decide +kernel) ⟨Nat.le_of_ble_eq_true rfl, Nat.le_of_ble_eq_true rfl⟩) hZ hS hl.1 rfl rfl (Nat.le_of_ble_eq_true rfl) dL_law_322 (fun r2 σm1 H locs hw hZ hS => ?_)
  exact lv_icmp_eq (tgt := 1114) hx hb dL_law_325 (by decide) (fun _ => kont _ _ _ _ hw.2 hZ hS) (fun hc => absurd hw.1 hc)
def rT_taken (Rel : wS → wS → Prop) : Prop := ∀ (σx σm : wS) (x1 x2 x3 x4 : Int32), Rel σx σm → wx_X5_taken (fun r1 σx1 => wm_X6_taken (fun r2 σm1 => r1 = r2 ∧ Rel σx1 σm1) x1 x2 x3 x4 σm) x1 x2 x3 x4 σx
set_option maxRecDepth 100000 in
set_option maxHeartbeats 4000000 in
theorem law_taken {Rel : wS → wS → Prop} (hr : rT_taken Rel) {p : Program} {l : Launch} {e : Env} {s : State} {m : MethodId} {below : List Frame} {meth : Method} {c : Code} {H : Heap} {locs : List Loc} {QQ : State → Prop} {b L : Nat} {xs : Nat → Int32} {gx gm : wG} (C : lwC p s m c b L xs gx gm) {σx σm : wS} (hR : Rel σx σm) (hZ : lwZ gx gm σx σm H s) (hS : va_S (lwA s) s.heap H locs) {ls : Array Slot} {x3 : Int32} (hl : lv_has ls 4 [(0, .ref b), (1, .ref (gx.2.1 0)), (2, .ref (gm.2.1 0)), (3, .int x3)]) (hi : lwI x3 L)
    (kont : ∀ (σx σm : wS) (H : Heap) (locs : List Loc), Rel σx σm → lwZ gx gm σx σm H s → va_S (lwA s) s.heap H locs → W p l e room_1 s m #[Value.ref b] below meth c H locs 65 12543 QQ (F0 m 1114 ls [])) : W p l e room_1 s m #[Value.ref b] below meth c H locs 65 12543 QQ (F0 m 330 ls []) := by
  obtain ⟨hx, hb, hml, hown, hts, hX, hbl, -, -, -⟩ := id C
  have hbA : ¬ lwA s b := Nat.not_le.mpr hbl
  obtain ⟨h_0, h_1, h_2, h_3, h_4, h_5⟩ := hi
  refine lv_aload_n hx hb dL_law_330 rfl (lv_at hl 1 rfl) ?_
  refine lv_aload_n hx hb dL_law_331 rfl (lv_at hl 0 rfl) ?_
  refine lv_iload_n hx hb dL_law_332 rfl (lv_at hl 3 rfl) ?_
  refine lv_iconst (v := 1) hx hb dL_law_333 (by decide) ?_
  refine lv_iadd hx hb dL_law_334 ?_
  refine va_sld hx hb hX hbl hbA hS h_1 dL_law_335 ?_
  refine lv_aload_n hx hb dL_law_336 rfl (lv_at hl 0 rfl) ?_
  refine lv_iload_n hx hb dL_law_337 rfl (lv_at hl 3 rfl) ?_
  refine lv_iconst (v := 2) hx hb dL_law_338 (by decide) ?_
  refine lv_iadd hx hb dL_law_339 ?_
  refine va_sld hx hb hX hbl hbA hS h_2 dL_law_340 ?_
  refine lv_aload_n hx hb dL_law_341 rfl (lv_at hl 0 rfl) ?_
  refine lv_iload_n hx hb dL_law_342 rfl (lv_at hl 3 rfl) ?_
  refine lv_iconst (v := 3) hx hb dL_law_343 (by decide) ?_
  refine lv_iadd hx hb dL_law_344 ?_
  refine va_sld hx hb hX hbl hbA hS h_3 dL_law_345 ?_
  refine lv_aload_n hx hb dL_law_346 rfl (lv_at hl 0 rfl) ?_
  refine lv_iload_n hx hb dL_law_347 rfl (lv_at hl 3 rfl) ?_
  refine lv_iconst (v := 4) hx hb dL_law_348 (by decide) ?_
  refine lv_iadd hx hb dL_law_349 ?_
  refine va_sld hx hb hX hbl hbA hS h_4 dL_law_350 ?_
  have hw := hr σx σm (xs (x3 + 1).toNatClampNeg) (xs (x3 + 2).toNatClampNeg) (xs (x3 + 3).toNatClampNeg) (xs (x3 + 4).toNatClampNeg)  hR
  refine lawX C (cx_X5_taken l gx (σ := σx) hw) (cwV 4 hts gL_law_X5_taken rfl rfl rfl (by decide +kernel) ⟨Nat.le_of_ble_eq_true rfl, Nat.le_of_ble_eq_true rfl⟩) hZ hS hl.1 rfl rfl (Nat.le_of_ble_eq_true rfl) dL_law_351 (fun r1 σx1 H locs hw hZ hS => ?_)
  refine lv_aload_n hx hb dL_law_354 rfl (lv_at hl 2 rfl) ?_
  refine lv_aload_n hx hb dL_law_355 rfl (lv_at hl 0 rfl) ?_
  refine lv_iload_n hx hb dL_law_356 rfl (lv_at hl 3 rfl) ?_
  refine lv_iconst (v := 1) hx hb dL_law_357 (by decide) ?_
  refine lv_iadd hx hb dL_law_358 ?_
  refine va_sld hx hb hX hbl hbA hS h_1 dL_law_359 ?_
  refine lv_aload_n hx hb dL_law_360 rfl (lv_at hl 0 rfl) ?_
  refine lv_iload_n hx hb dL_law_361 rfl (lv_at hl 3 rfl) ?_
  refine lv_iconst (v := 2) hx hb dL_law_362 (by decide) ?_
  refine lv_iadd hx hb dL_law_363 ?_
  refine va_sld hx hb hX hbl hbA hS h_2 dL_law_364 ?_
  refine lv_aload_n hx hb dL_law_365 rfl (lv_at hl 0 rfl) ?_
  refine lv_iload_n hx hb dL_law_366 rfl (lv_at hl 3 rfl) ?_
  refine lv_iconst (v := 3) hx hb dL_law_367 (by decide) ?_
  refine lv_iadd hx hb dL_law_368 ?_
  refine va_sld hx hb hX hbl hbA hS h_3 dL_law_369 ?_
  refine lv_aload_n hx hb dL_law_370 rfl (lv_at hl 0 rfl) ?_
  refine lv_iload_n hx hb dL_law_371 rfl (lv_at hl 3 rfl) ?_
  refine lv_iconst (v := 4) hx hb dL_law_372 (by decide) ?_
  refine lv_iadd hx hb dL_law_373 ?_
  refine va_sld hx hb hX hbl hbA hS h_4 dL_law_374 ?_
  refine lawM C (cm_X6_taken l gm (σ := σm) hw) (cwV 4 hts gL_law_X6_taken rfl rfl rfl (by decide +kernel) ⟨Nat.le_of_ble_eq_true rfl, Nat.le_of_ble_eq_true rfl⟩) hZ hS hl.1 rfl rfl (Nat.le_of_ble_eq_true rfl) dL_law_375 (fun r2 σm1 H locs hw hZ hS => ?_)
  exact lv_icmp_eq (tgt := 1114) hx hb dL_law_378 (by decide) (fun _ => kont _ _ _ _ hw.2 hZ hS) (fun hc => absurd hw.1 hc)
def rT_stood (Rel : wS → wS → Prop) : Prop := ∀ (σx σm : wS) (x1 x2 x3 x4 x5 : Int32), (x2 = 0 ∨ x2 = 1) → Rel σx σm → wx_X5_stood (fun r1 σx1 => wm_X6_stood (fun r2 σm1 => r1 = r2 ∧ Rel σx1 σm1) x1 x2 x3 x4 x5 σm) x1 x2 x3 x4 x5 σx
set_option maxRecDepth 100000 in
set_option maxHeartbeats 4000000 in
theorem law_stood {Rel : wS → wS → Prop} (hr : rT_stood Rel) {p : Program} {l : Launch} {e : Env} {s : State} {m : MethodId} {below : List Frame} {meth : Method} {c : Code} {H : Heap} {locs : List Loc} {QQ : State → Prop} {b L : Nat} {xs : Nat → Int32} {gx gm : wG} (C : lwC p s m c b L xs gx gm) {σx σm : wS} (hR : Rel σx σm) (hZ : lwZ gx gm σx σm H s) (hS : va_S (lwA s) s.heap H locs) {ls : Array Slot} {x3 : Int32} (hl : lv_has ls 4 [(0, .ref b), (1, .ref (gx.2.1 0)), (2, .ref (gm.2.1 0)), (3, .int x3)]) (hi : lwI x3 L)
    (kont : ∀ (σx σm : wS) (H : Heap) (locs : List Loc), Rel σx σm → lwZ gx gm σx σm H s → va_S (lwA s) s.heap H locs → W p l e room_1 s m #[Value.ref b] below meth c H locs 65 12543 QQ (F0 m 1114 ls [])) : W p l e room_1 s m #[Value.ref b] below meth c H locs 65 12543 QQ (F0 m 383 ls []) := by
  obtain ⟨hx, hb, hml, hown, hts, hX, hbl, -, -, -⟩ := id C
  have hbA : ¬ lwA s b := Nat.not_le.mpr hbl
  obtain ⟨h_0, h_1, h_2, h_3, h_4, h_5⟩ := hi
  by_cases z2 : (xs (x3 + 2).toNatClampNeg) = 0
  · refine lv_aload_n hx hb dL_law_383 rfl (lv_at hl 1 rfl) ?_
    refine lv_aload_n hx hb dL_law_384 rfl (lv_at hl 0 rfl) ?_
    refine lv_iload_n hx hb dL_law_385 rfl (lv_at hl 3 rfl) ?_
    refine lv_iconst (v := 1) hx hb dL_law_386 (by decide) ?_
    refine lv_iadd hx hb dL_law_387 ?_
    refine va_sld hx hb hX hbl hbA hS h_1 dL_law_388 ?_
    refine lv_aload_n hx hb dL_law_389 rfl (lv_at hl 0 rfl) ?_
    refine lv_iload_n hx hb dL_law_390 rfl (lv_at hl 3 rfl) ?_
    refine lv_iconst (v := 2) hx hb dL_law_391 (by decide) ?_
    refine lv_iadd hx hb dL_law_392 ?_
    refine va_sld hx hb hX hbl hbA hS h_2 dL_law_393 ?_
    refine lv_if_eq (tgt := 401) hx hb dL_law_394 (by decide) (fun _ => ?_) (fun hc => absurd z2 hc)
    refine lv_iconst (v := 0) hx hb dL_law_401 (by decide) ?_
    refine lv_aload_n hx hb dL_law_402 rfl (lv_at hl 0 rfl) ?_
    refine lv_iload_n hx hb dL_law_403 rfl (lv_at hl 3 rfl) ?_
    refine lv_iconst (v := 3) hx hb dL_law_404 (by decide) ?_
    refine lv_iadd hx hb dL_law_405 ?_
    refine va_sld hx hb hX hbl hbA hS h_3 dL_law_406 ?_
    refine lv_aload_n hx hb dL_law_407 rfl (lv_at hl 0 rfl) ?_
    refine lv_iload_n hx hb dL_law_408 rfl (lv_at hl 3 rfl) ?_
    refine lv_iconst (v := 4) hx hb dL_law_409 (by decide) ?_
    refine lv_iadd hx hb dL_law_410 ?_
    refine va_sld hx hb hX hbl hbA hS h_4 dL_law_411 ?_
    refine lv_aload_n hx hb dL_law_412 rfl (lv_at hl 0 rfl) ?_
    refine lv_iload_n hx hb dL_law_413 rfl (lv_at hl 3 rfl) ?_
    refine lv_iconst (v := 5) hx hb dL_law_414 (by decide) ?_
    refine lv_iadd hx hb dL_law_415 ?_
    refine va_sld hx hb hX hbl hbA hS h_5 dL_law_416 ?_
    have hw := hr σx σm (xs (x3 + 1).toNatClampNeg) (0 : Int32) (xs (x3 + 3).toNatClampNeg) (xs (x3 + 4).toNatClampNeg) (xs (x3 + 5).toNatClampNeg) (Or.inl rfl) hR
    refine lawX C (cx_X5_stood l gx (σ := σx) hw) (cwV 5 hts gL_law_X5_stood rfl rfl rfl (by decide +kernel) ⟨Nat.le_of_ble_eq_true rfl, Nat.le_of_ble_eq_true rfl⟩) hZ hS hl.1 rfl rfl (Nat.le_of_ble_eq_true rfl) dL_law_417 (fun r1 σx1 H locs hw hZ hS => ?_)
    refine lv_aload_n hx hb dL_law_420 rfl (lv_at hl 2 rfl) ?_
    refine lv_aload_n hx hb dL_law_421 rfl (lv_at hl 0 rfl) ?_
    refine lv_iload_n hx hb dL_law_422 rfl (lv_at hl 3 rfl) ?_
    refine lv_iconst (v := 1) hx hb dL_law_423 (by decide) ?_
    refine lv_iadd hx hb dL_law_424 ?_
    refine va_sld hx hb hX hbl hbA hS h_1 dL_law_425 ?_
    refine lv_aload_n hx hb dL_law_426 rfl (lv_at hl 0 rfl) ?_
    refine lv_iload_n hx hb dL_law_427 rfl (lv_at hl 3 rfl) ?_
    refine lv_iconst (v := 2) hx hb dL_law_428 (by decide) ?_
    refine lv_iadd hx hb dL_law_429 ?_
    refine va_sld hx hb hX hbl hbA hS h_2 dL_law_430 ?_
    refine lv_if_eq (tgt := 438) hx hb dL_law_431 (by decide) (fun _ => ?_) (fun hc => absurd z2 hc)
    refine lv_iconst (v := 0) hx hb dL_law_438 (by decide) ?_
    refine lv_aload_n hx hb dL_law_439 rfl (lv_at hl 0 rfl) ?_
    refine lv_iload_n hx hb dL_law_440 rfl (lv_at hl 3 rfl) ?_
    refine lv_iconst (v := 3) hx hb dL_law_441 (by decide) ?_
    refine lv_iadd hx hb dL_law_442 ?_
    refine va_sld hx hb hX hbl hbA hS h_3 dL_law_443 ?_
    refine lv_aload_n hx hb dL_law_444 rfl (lv_at hl 0 rfl) ?_
    refine lv_iload_n hx hb dL_law_445 rfl (lv_at hl 3 rfl) ?_
    refine lv_iconst (v := 4) hx hb dL_law_446 (by decide) ?_
    refine lv_iadd hx hb dL_law_447 ?_
    refine va_sld hx hb hX hbl hbA hS h_4 dL_law_448 ?_
    refine lv_aload_n hx hb dL_law_449 rfl (lv_at hl 0 rfl) ?_
    refine lv_iload_n hx hb dL_law_450 rfl (lv_at hl 3 rfl) ?_
    refine lv_iconst (v := 5) hx hb dL_law_451 (by decide) ?_
    refine lv_iadd hx hb dL_law_452 ?_
    refine va_sld hx hb hX hbl hbA hS h_5 dL_law_453 ?_
    refine lawM C (cm_X6_stood l gm (σ := σm) hw) (cwV 5 hts gL_law_X6_stood rfl rfl rfl (by decide +kernel) ⟨Nat.le_of_ble_eq_true rfl, Nat.le_of_ble_eq_true rfl⟩) hZ hS hl.1 rfl rfl (Nat.le_of_ble_eq_true rfl) dL_law_454 (fun r2 σm1 H locs hw hZ hS => ?_)
    exact lv_icmp_eq (tgt := 1114) hx hb dL_law_457 (by decide) (fun _ => kont _ _ _ _ hw.2 hZ hS) (fun hc => absurd hw.1 hc)
  · refine lv_aload_n hx hb dL_law_383 rfl (lv_at hl 1 rfl) ?_
    refine lv_aload_n hx hb dL_law_384 rfl (lv_at hl 0 rfl) ?_
    refine lv_iload_n hx hb dL_law_385 rfl (lv_at hl 3 rfl) ?_
    refine lv_iconst (v := 1) hx hb dL_law_386 (by decide) ?_
    refine lv_iadd hx hb dL_law_387 ?_
    refine va_sld hx hb hX hbl hbA hS h_1 dL_law_388 ?_
    refine lv_aload_n hx hb dL_law_389 rfl (lv_at hl 0 rfl) ?_
    refine lv_iload_n hx hb dL_law_390 rfl (lv_at hl 3 rfl) ?_
    refine lv_iconst (v := 2) hx hb dL_law_391 (by decide) ?_
    refine lv_iadd hx hb dL_law_392 ?_
    refine va_sld hx hb hX hbl hbA hS h_2 dL_law_393 ?_
    refine lv_if_eq (tgt := 401) hx hb dL_law_394 (by decide) (fun hc => absurd hc z2) (fun _ => ?_)
    refine lv_iconst (v := 1) hx hb dL_law_397 (by decide) ?_
    refine lv_goto (tgt := 402) hx hb dL_law_398 (by decide) ?_
    refine lv_aload_n hx hb dL_law_402 rfl (lv_at hl 0 rfl) ?_
    refine lv_iload_n hx hb dL_law_403 rfl (lv_at hl 3 rfl) ?_
    refine lv_iconst (v := 3) hx hb dL_law_404 (by decide) ?_
    refine lv_iadd hx hb dL_law_405 ?_
    refine va_sld hx hb hX hbl hbA hS h_3 dL_law_406 ?_
    refine lv_aload_n hx hb dL_law_407 rfl (lv_at hl 0 rfl) ?_
    refine lv_iload_n hx hb dL_law_408 rfl (lv_at hl 3 rfl) ?_
    refine lv_iconst (v := 4) hx hb dL_law_409 (by decide) ?_
    refine lv_iadd hx hb dL_law_410 ?_
    refine va_sld hx hb hX hbl hbA hS h_4 dL_law_411 ?_
    refine lv_aload_n hx hb dL_law_412 rfl (lv_at hl 0 rfl) ?_
    refine lv_iload_n hx hb dL_law_413 rfl (lv_at hl 3 rfl) ?_
    refine lv_iconst (v := 5) hx hb dL_law_414 (by decide) ?_
    refine lv_iadd hx hb dL_law_415 ?_
    refine va_sld hx hb hX hbl hbA hS h_5 dL_law_416 ?_
    have hw := hr σx σm (xs (x3 + 1).toNatClampNeg) (1 : Int32) (xs (x3 + 3).toNatClampNeg) (xs (x3 + 4).toNatClampNeg) (xs (x3 + 5).toNatClampNeg) (Or.inr rfl) hR
    refine lawX C (cx_X5_stood l gx (σ := σx) hw) (cwV 5 hts gL_law_X5_stood rfl rfl rfl (by decide +kernel) ⟨Nat.le_of_ble_eq_true rfl, Nat.le_of_ble_eq_true rfl⟩) hZ hS hl.1 rfl rfl (Nat.le_of_ble_eq_true rfl) dL_law_417 (fun r1 σx1 H locs hw hZ hS => ?_)
    refine lv_aload_n hx hb dL_law_420 rfl (lv_at hl 2 rfl) ?_
    refine lv_aload_n hx hb dL_law_421 rfl (lv_at hl 0 rfl) ?_
    refine lv_iload_n hx hb dL_law_422 rfl (lv_at hl 3 rfl) ?_
    refine lv_iconst (v := 1) hx hb dL_law_423 (by decide) ?_
    refine lv_iadd hx hb dL_law_424 ?_
    refine va_sld hx hb hX hbl hbA hS h_1 dL_law_425 ?_
    refine lv_aload_n hx hb dL_law_426 rfl (lv_at hl 0 rfl) ?_
    refine lv_iload_n hx hb dL_law_427 rfl (lv_at hl 3 rfl) ?_
    refine lv_iconst (v := 2) hx hb dL_law_428 (by decide) ?_
    refine lv_iadd hx hb dL_law_429 ?_
    refine va_sld hx hb hX hbl hbA hS h_2 dL_law_430 ?_
    refine lv_if_eq (tgt := 438) hx hb dL_law_431 (by decide) (fun hc => absurd hc z2) (fun _ => ?_)
    refine lv_iconst (v := 1) hx hb dL_law_434 (by decide) ?_
    refine lv_goto (tgt := 439) hx hb dL_law_435 (by decide) ?_
    refine lv_aload_n hx hb dL_law_439 rfl (lv_at hl 0 rfl) ?_
    refine lv_iload_n hx hb dL_law_440 rfl (lv_at hl 3 rfl) ?_
    refine lv_iconst (v := 3) hx hb dL_law_441 (by decide) ?_
    refine lv_iadd hx hb dL_law_442 ?_
    refine va_sld hx hb hX hbl hbA hS h_3 dL_law_443 ?_
    refine lv_aload_n hx hb dL_law_444 rfl (lv_at hl 0 rfl) ?_
    refine lv_iload_n hx hb dL_law_445 rfl (lv_at hl 3 rfl) ?_
    refine lv_iconst (v := 4) hx hb dL_law_446 (by decide) ?_
    refine lv_iadd hx hb dL_law_447 ?_
    refine va_sld hx hb hX hbl hbA hS h_4 dL_law_448 ?_
    refine lv_aload_n hx hb dL_law_449 rfl (lv_at hl 0 rfl) ?_
    refine lv_iload_n hx hb dL_law_450 rfl (lv_at hl 3 rfl) ?_
    refine lv_iconst (v := 5) hx hb dL_law_451 (by decide) ?_
    refine lv_iadd hx hb dL_law_452 ?_
    refine va_sld hx hb hX hbl hbA hS h_5 dL_law_453 ?_
    refine lawM C (cm_X6_stood l gm (σ := σm) hw) (cwV 5 hts gL_law_X6_stood rfl rfl rfl (by decide +kernel) ⟨Nat.le_of_ble_eq_true rfl, Nat.le_of_ble_eq_true rfl⟩) hZ hS hl.1 rfl rfl (Nat.le_of_ble_eq_true rfl) dL_law_454 (fun r2 σm1 H locs hw hZ hS => ?_)
    exact lv_icmp_eq (tgt := 1114) hx hb dL_law_457 (by decide) (fun _ => kont _ _ _ _ hw.2 hZ hS) (fun hc => absurd hw.1 hc)
def rT_cross (Rel : wS → wS → Prop) : Prop := ∀ (σx σm : wS) (x1 x2 : Int32), Rel σx σm → wx_X5_cross (fun r1 σx1 => wm_X6_cross (fun r2 σm1 => r1 = r2 ∧ Rel σx1 σm1) x1 x2 σm) x1 x2 σx
set_option maxRecDepth 100000 in
set_option maxHeartbeats 4000000 in
theorem law_cross {Rel : wS → wS → Prop} (hr : rT_cross Rel) {p : Program} {l : Launch} {e : Env} {s : State} {m : MethodId} {below : List Frame} {meth : Method} {c : Code} {H : Heap} {locs : List Loc} {QQ : State → Prop} {b L : Nat} {xs : Nat → Int32} {gx gm : wG} (C : lwC p s m c b L xs gx gm) {σx σm : wS} (hR : Rel σx σm) (hZ : lwZ gx gm σx σm H s) (hS : va_S (lwA s) s.heap H locs) {ls : Array Slot} {x3 : Int32} (hl : lv_has ls 4 [(0, .ref b), (1, .ref (gx.2.1 0)), (2, .ref (gm.2.1 0)), (3, .int x3)]) (hi : lwI x3 L)
    (kont : ∀ (σx σm : wS) (H : Heap) (locs : List Loc), Rel σx σm → lwZ gx gm σx σm H s → va_S (lwA s) s.heap H locs → W p l e room_1 s m #[Value.ref b] below meth c H locs 65 12543 QQ (F0 m 1114 ls [])) : W p l e room_1 s m #[Value.ref b] below meth c H locs 65 12543 QQ (F0 m 462 ls []) := by
  obtain ⟨hx, hb, hml, hown, hts, hX, hbl, -, -, -⟩ := id C
  have hbA : ¬ lwA s b := Nat.not_le.mpr hbl
  obtain ⟨h_0, h_1, h_2, h_3, h_4, h_5⟩ := hi
  refine lv_aload_n hx hb dL_law_462 rfl (lv_at hl 1 rfl) ?_
  refine lv_aload_n hx hb dL_law_463 rfl (lv_at hl 0 rfl) ?_
  refine lv_iload_n hx hb dL_law_464 rfl (lv_at hl 3 rfl) ?_
  refine lv_iconst (v := 1) hx hb dL_law_465 (by decide) ?_
  refine lv_iadd hx hb dL_law_466 ?_
  refine va_sld hx hb hX hbl hbA hS h_1 dL_law_467 ?_
  refine lv_aload_n hx hb dL_law_468 rfl (lv_at hl 0 rfl) ?_
  refine lv_iload_n hx hb dL_law_469 rfl (lv_at hl 3 rfl) ?_
  refine lv_iconst (v := 2) hx hb dL_law_470 (by decide) ?_
  refine lv_iadd hx hb dL_law_471 ?_
  refine va_sld hx hb hX hbl hbA hS h_2 dL_law_472 ?_
  have hw := hr σx σm (xs (x3 + 1).toNatClampNeg) (xs (x3 + 2).toNatClampNeg)  hR
  refine lawX C (cx_X5_cross l gx (σ := σx) hw) (cwV 2 hts gL_law_X5_cross rfl rfl rfl (by decide +kernel) ⟨Nat.le_of_ble_eq_true rfl, Nat.le_of_ble_eq_true rfl⟩) hZ hS hl.1 rfl rfl (Nat.le_of_ble_eq_true rfl) dL_law_473 (fun r1 σx1 H locs hw hZ hS => ?_)
  refine lv_aload_n hx hb dL_law_476 rfl (lv_at hl 2 rfl) ?_
  refine lv_aload_n hx hb dL_law_477 rfl (lv_at hl 0 rfl) ?_
  refine lv_iload_n hx hb dL_law_478 rfl (lv_at hl 3 rfl) ?_
  refine lv_iconst (v := 1) hx hb dL_law_479 (by decide) ?_
  refine lv_iadd hx hb dL_law_480 ?_
  refine va_sld hx hb hX hbl hbA hS h_1 dL_law_481 ?_
  refine lv_aload_n hx hb dL_law_482 rfl (lv_at hl 0 rfl) ?_
  refine lv_iload_n hx hb dL_law_483 rfl (lv_at hl 3 rfl) ?_
  refine lv_iconst (v := 2) hx hb dL_law_484 (by decide) ?_
  refine lv_iadd hx hb dL_law_485 ?_
  refine va_sld hx hb hX hbl hbA hS h_2 dL_law_486 ?_
  refine lawM C (cm_X6_cross l gm (σ := σm) hw) (cwV 2 hts gL_law_X6_cross rfl rfl rfl (by decide +kernel) ⟨Nat.le_of_ble_eq_true rfl, Nat.le_of_ble_eq_true rfl⟩) hZ hS hl.1 rfl rfl (Nat.le_of_ble_eq_true rfl) dL_law_487 (fun r2 σm1 H locs hw hZ hS => ?_)
  exact lv_icmp_eq (tgt := 1114) hx hb dL_law_490 (by decide) (fun _ => kont _ _ _ _ hw.2 hZ hS) (fun hc => absurd hw.1 hc)
def rT_fact (Rel : wS → wS → Prop) : Prop := ∀ (σx σm : wS) (x1 x2 : Int32), Rel σx σm → wx_X5_fact (fun r1 σx1 => wm_X6_fact (fun r2 σm1 => r1 = r2 ∧ Rel σx1 σm1) x1 x2 σm) x1 x2 σx
set_option maxRecDepth 100000 in
set_option maxHeartbeats 4000000 in
theorem law_fact {Rel : wS → wS → Prop} (hr : rT_fact Rel) {p : Program} {l : Launch} {e : Env} {s : State} {m : MethodId} {below : List Frame} {meth : Method} {c : Code} {H : Heap} {locs : List Loc} {QQ : State → Prop} {b L : Nat} {xs : Nat → Int32} {gx gm : wG} (C : lwC p s m c b L xs gx gm) {σx σm : wS} (hR : Rel σx σm) (hZ : lwZ gx gm σx σm H s) (hS : va_S (lwA s) s.heap H locs) {ls : Array Slot} {x3 : Int32} (hl : lv_has ls 4 [(0, .ref b), (1, .ref (gx.2.1 0)), (2, .ref (gm.2.1 0)), (3, .int x3)]) (hi : lwI x3 L)
    (kont : ∀ (σx σm : wS) (H : Heap) (locs : List Loc), Rel σx σm → lwZ gx gm σx σm H s → va_S (lwA s) s.heap H locs → W p l e room_1 s m #[Value.ref b] below meth c H locs 65 12543 QQ (F0 m 1114 ls [])) : W p l e room_1 s m #[Value.ref b] below meth c H locs 65 12543 QQ (F0 m 495 ls []) := by
  obtain ⟨hx, hb, hml, hown, hts, hX, hbl, -, -, -⟩ := id C
  have hbA : ¬ lwA s b := Nat.not_le.mpr hbl
  obtain ⟨h_0, h_1, h_2, h_3, h_4, h_5⟩ := hi
  refine lv_aload_n hx hb dL_law_495 rfl (lv_at hl 1 rfl) ?_
  refine lv_aload_n hx hb dL_law_496 rfl (lv_at hl 0 rfl) ?_
  refine lv_iload_n hx hb dL_law_497 rfl (lv_at hl 3 rfl) ?_
  refine lv_iconst (v := 1) hx hb dL_law_498 (by decide) ?_
  refine lv_iadd hx hb dL_law_499 ?_
  refine va_sld hx hb hX hbl hbA hS h_1 dL_law_500 ?_
  refine lv_aload_n hx hb dL_law_501 rfl (lv_at hl 0 rfl) ?_
  refine lv_iload_n hx hb dL_law_502 rfl (lv_at hl 3 rfl) ?_
  refine lv_iconst (v := 2) hx hb dL_law_503 (by decide) ?_
  refine lv_iadd hx hb dL_law_504 ?_
  refine va_sld hx hb hX hbl hbA hS h_2 dL_law_505 ?_
  have hw := hr σx σm (xs (x3 + 1).toNatClampNeg) (xs (x3 + 2).toNatClampNeg)  hR
  refine lawX C (cx_X5_fact l gx (σ := σx) hw) (cwV 2 hts gL_law_X5_fact rfl rfl rfl (by decide +kernel) ⟨Nat.le_of_ble_eq_true rfl, Nat.le_of_ble_eq_true rfl⟩) hZ hS hl.1 rfl rfl (Nat.le_of_ble_eq_true rfl) dL_law_506 (fun r1 σx1 H locs hw hZ hS => ?_)
  refine lv_aload_n hx hb dL_law_509 rfl (lv_at hl 2 rfl) ?_
  refine lv_aload_n hx hb dL_law_510 rfl (lv_at hl 0 rfl) ?_
  refine lv_iload_n hx hb dL_law_511 rfl (lv_at hl 3 rfl) ?_
  refine lv_iconst (v := 1) hx hb dL_law_512 (by decide) ?_
  refine lv_iadd hx hb dL_law_513 ?_
  refine va_sld hx hb hX hbl hbA hS h_1 dL_law_514 ?_
  refine lv_aload_n hx hb dL_law_515 rfl (lv_at hl 0 rfl) ?_
  refine lv_iload_n hx hb dL_law_516 rfl (lv_at hl 3 rfl) ?_
  refine lv_iconst (v := 2) hx hb dL_law_517 (by decide) ?_
  refine lv_iadd hx hb dL_law_518 ?_
  refine va_sld hx hb hX hbl hbA hS h_2 dL_law_519 ?_
  refine lawM C (cm_X6_fact l gm (σ := σm) hw) (cwV 2 hts gL_law_X6_fact rfl rfl rfl (by decide +kernel) ⟨Nat.le_of_ble_eq_true rfl, Nat.le_of_ble_eq_true rfl⟩) hZ hS hl.1 rfl rfl (Nat.le_of_ble_eq_true rfl) dL_law_520 (fun r2 σm1 H locs hw hZ hS => ?_)
  exact lv_icmp_eq (tgt := 1114) hx hb dL_law_523 (by decide) (fun _ => kont _ _ _ _ hw.2 hZ hS) (fun hc => absurd hw.1 hc)
def rT_span (Rel : wS → wS → Prop) : Prop := ∀ (σx σm : wS) (x1 x2 x3 : Int32), (x2 = 0 ∨ x2 = 1) → Rel σx σm → wx_X5_span (fun r1 σx1 => wm_X6_span (fun r2 σm1 => r1 = r2 ∧ Rel σx1 σm1) x1 x2 x3 σm) x1 x2 x3 σx
set_option maxRecDepth 100000 in
set_option maxHeartbeats 4000000 in
theorem law_span {Rel : wS → wS → Prop} (hr : rT_span Rel) {p : Program} {l : Launch} {e : Env} {s : State} {m : MethodId} {below : List Frame} {meth : Method} {c : Code} {H : Heap} {locs : List Loc} {QQ : State → Prop} {b L : Nat} {xs : Nat → Int32} {gx gm : wG} (C : lwC p s m c b L xs gx gm) {σx σm : wS} (hR : Rel σx σm) (hZ : lwZ gx gm σx σm H s) (hS : va_S (lwA s) s.heap H locs) {ls : Array Slot} {x3 : Int32} (hl : lv_has ls 4 [(0, .ref b), (1, .ref (gx.2.1 0)), (2, .ref (gm.2.1 0)), (3, .int x3)]) (hi : lwI x3 L)
    (kont : ∀ (σx σm : wS) (H : Heap) (locs : List Loc), Rel σx σm → lwZ gx gm σx σm H s → va_S (lwA s) s.heap H locs → W p l e room_1 s m #[Value.ref b] below meth c H locs 65 12543 QQ (F0 m 1114 ls [])) : W p l e room_1 s m #[Value.ref b] below meth c H locs 65 12543 QQ (F0 m 528 ls []) := by
  obtain ⟨hx, hb, hml, hown, hts, hX, hbl, -, -, -⟩ := id C
  have hbA : ¬ lwA s b := Nat.not_le.mpr hbl
  obtain ⟨h_0, h_1, h_2, h_3, h_4, h_5⟩ := hi
  by_cases z2 : (xs (x3 + 2).toNatClampNeg) = 0
  · refine lv_aload_n hx hb dL_law_528 rfl (lv_at hl 1 rfl) ?_
    refine lv_aload_n hx hb dL_law_529 rfl (lv_at hl 0 rfl) ?_
    refine lv_iload_n hx hb dL_law_530 rfl (lv_at hl 3 rfl) ?_
    refine lv_iconst (v := 1) hx hb dL_law_531 (by decide) ?_
    refine lv_iadd hx hb dL_law_532 ?_
    refine va_sld hx hb hX hbl hbA hS h_1 dL_law_533 ?_
    refine lv_aload_n hx hb dL_law_534 rfl (lv_at hl 0 rfl) ?_
    refine lv_iload_n hx hb dL_law_535 rfl (lv_at hl 3 rfl) ?_
    refine lv_iconst (v := 2) hx hb dL_law_536 (by decide) ?_
    refine lv_iadd hx hb dL_law_537 ?_
    refine va_sld hx hb hX hbl hbA hS h_2 dL_law_538 ?_
    refine lv_if_eq (tgt := 546) hx hb dL_law_539 (by decide) (fun _ => ?_) (fun hc => absurd z2 hc)
    refine lv_iconst (v := 0) hx hb dL_law_546 (by decide) ?_
    refine lv_aload_n hx hb dL_law_547 rfl (lv_at hl 0 rfl) ?_
    refine lv_iload_n hx hb dL_law_548 rfl (lv_at hl 3 rfl) ?_
    refine lv_iconst (v := 3) hx hb dL_law_549 (by decide) ?_
    refine lv_iadd hx hb dL_law_550 ?_
    refine va_sld hx hb hX hbl hbA hS h_3 dL_law_551 ?_
    have hw := hr σx σm (xs (x3 + 1).toNatClampNeg) (0 : Int32) (xs (x3 + 3).toNatClampNeg) (Or.inl rfl) hR
    refine lawX C (cx_X5_span l gx (σ := σx) hw) (cwV 3 hts gL_law_X5_span rfl rfl rfl (by decide +kernel) ⟨Nat.le_of_ble_eq_true rfl, Nat.le_of_ble_eq_true rfl⟩) hZ hS hl.1 rfl rfl (Nat.le_of_ble_eq_true rfl) dL_law_552 (fun r1 σx1 H locs hw hZ hS => ?_)
    refine lv_aload_n hx hb dL_law_555 rfl (lv_at hl 2 rfl) ?_
    refine lv_aload_n hx hb dL_law_556 rfl (lv_at hl 0 rfl) ?_
    refine lv_iload_n hx hb dL_law_557 rfl (lv_at hl 3 rfl) ?_
    refine lv_iconst (v := 1) hx hb dL_law_558 (by decide) ?_
    refine lv_iadd hx hb dL_law_559 ?_
    refine va_sld hx hb hX hbl hbA hS h_1 dL_law_560 ?_
    refine lv_aload_n hx hb dL_law_561 rfl (lv_at hl 0 rfl) ?_
    refine lv_iload_n hx hb dL_law_562 rfl (lv_at hl 3 rfl) ?_
    refine lv_iconst (v := 2) hx hb dL_law_563 (by decide) ?_
    refine lv_iadd hx hb dL_law_564 ?_
    refine va_sld hx hb hX hbl hbA hS h_2 dL_law_565 ?_
    refine lv_if_eq (tgt := 573) hx hb dL_law_566 (by decide) (fun _ => ?_) (fun hc => absurd z2 hc)
    refine lv_iconst (v := 0) hx hb dL_law_573 (by decide) ?_
    refine lv_aload_n hx hb dL_law_574 rfl (lv_at hl 0 rfl) ?_
    refine lv_iload_n hx hb dL_law_575 rfl (lv_at hl 3 rfl) ?_
    refine lv_iconst (v := 3) hx hb dL_law_576 (by decide) ?_
    refine lv_iadd hx hb dL_law_577 ?_
    refine va_sld hx hb hX hbl hbA hS h_3 dL_law_578 ?_
    refine lawM C (cm_X6_span l gm (σ := σm) hw) (cwV 3 hts gL_law_X6_span rfl rfl rfl (by decide +kernel) ⟨Nat.le_of_ble_eq_true rfl, Nat.le_of_ble_eq_true rfl⟩) hZ hS hl.1 rfl rfl (Nat.le_of_ble_eq_true rfl) dL_law_579 (fun r2 σm1 H locs hw hZ hS => ?_)
    exact lv_icmp_eq (tgt := 1114) hx hb dL_law_582 (by decide) (fun _ => kont _ _ _ _ hw.2 hZ hS) (fun hc => absurd hw.1 hc)
  · refine lv_aload_n hx hb dL_law_528 rfl (lv_at hl 1 rfl) ?_
    refine lv_aload_n hx hb dL_law_529 rfl (lv_at hl 0 rfl) ?_
    refine lv_iload_n hx hb dL_law_530 rfl (lv_at hl 3 rfl) ?_
    refine lv_iconst (v := 1) hx hb dL_law_531 (by decide) ?_
    refine lv_iadd hx hb dL_law_532 ?_
    refine va_sld hx hb hX hbl hbA hS h_1 dL_law_533 ?_
    refine lv_aload_n hx hb dL_law_534 rfl (lv_at hl 0 rfl) ?_
    refine lv_iload_n hx hb dL_law_535 rfl (lv_at hl 3 rfl) ?_
    refine lv_iconst (v := 2) hx hb dL_law_536 (by decide) ?_
    refine lv_iadd hx hb dL_law_537 ?_
    refine va_sld hx hb hX hbl hbA hS h_2 dL_law_538 ?_
    refine lv_if_eq (tgt := 546) hx hb dL_law_539 (by decide) (fun hc => absurd hc z2) (fun _ => ?_)
    refine lv_iconst (v := 1) hx hb dL_law_542 (by decide) ?_
    refine lv_goto (tgt := 547) hx hb dL_law_543 (by decide) ?_
    refine lv_aload_n hx hb dL_law_547 rfl (lv_at hl 0 rfl) ?_
    refine lv_iload_n hx hb dL_law_548 rfl (lv_at hl 3 rfl) ?_
    refine lv_iconst (v := 3) hx hb dL_law_549 (by decide) ?_
    refine lv_iadd hx hb dL_law_550 ?_
    refine va_sld hx hb hX hbl hbA hS h_3 dL_law_551 ?_
    have hw := hr σx σm (xs (x3 + 1).toNatClampNeg) (1 : Int32) (xs (x3 + 3).toNatClampNeg) (Or.inr rfl) hR
    refine lawX C (cx_X5_span l gx (σ := σx) hw) (cwV 3 hts gL_law_X5_span rfl rfl rfl (by decide +kernel) ⟨Nat.le_of_ble_eq_true rfl, Nat.le_of_ble_eq_true rfl⟩) hZ hS hl.1 rfl rfl (Nat.le_of_ble_eq_true rfl) dL_law_552 (fun r1 σx1 H locs hw hZ hS => ?_)
    refine lv_aload_n hx hb dL_law_555 rfl (lv_at hl 2 rfl) ?_
    refine lv_aload_n hx hb dL_law_556 rfl (lv_at hl 0 rfl) ?_
    refine lv_iload_n hx hb dL_law_557 rfl (lv_at hl 3 rfl) ?_
    refine lv_iconst (v := 1) hx hb dL_law_558 (by decide) ?_
    refine lv_iadd hx hb dL_law_559 ?_
    refine va_sld hx hb hX hbl hbA hS h_1 dL_law_560 ?_
    refine lv_aload_n hx hb dL_law_561 rfl (lv_at hl 0 rfl) ?_
    refine lv_iload_n hx hb dL_law_562 rfl (lv_at hl 3 rfl) ?_
    refine lv_iconst (v := 2) hx hb dL_law_563 (by decide) ?_
    refine lv_iadd hx hb dL_law_564 ?_
    refine va_sld hx hb hX hbl hbA hS h_2 dL_law_565 ?_
    refine lv_if_eq (tgt := 573) hx hb dL_law_566 (by decide) (fun hc => absurd hc z2) (fun _ => ?_)
    refine lv_iconst (v := 1) hx hb dL_law_569 (by decide) ?_
    refine lv_goto (tgt := 574) hx hb dL_law_570 (by decide) ?_
    refine lv_aload_n hx hb dL_law_574 rfl (lv_at hl 0 rfl) ?_
    refine lv_iload_n hx hb dL_law_575 rfl (lv_at hl 3 rfl) ?_
    refine lv_iconst (v := 3) hx hb dL_law_576 (by decide) ?_
    refine lv_iadd hx hb dL_law_577 ?_
    refine va_sld hx hb hX hbl hbA hS h_3 dL_law_578 ?_
    refine lawM C (cm_X6_span l gm (σ := σm) hw) (cwV 3 hts gL_law_X6_span rfl rfl rfl (by decide +kernel) ⟨Nat.le_of_ble_eq_true rfl, Nat.le_of_ble_eq_true rfl⟩) hZ hS hl.1 rfl rfl (Nat.le_of_ble_eq_true rfl) dL_law_579 (fun r2 σm1 H locs hw hZ hS => ?_)
    exact lv_icmp_eq (tgt := 1114) hx hb dL_law_582 (by decide) (fun _ => kont _ _ _ _ hw.2 hZ hS) (fun hc => absurd hw.1 hc)
def rT_times (Rel : wS → wS → Prop) : Prop := ∀ (σx σm : wS) (x1 x2 x3 x4 : Int32), (x2 = 0 ∨ x2 = 1) → (x3 = 0 ∨ x3 = 1) → Rel σx σm → wx_X5_times (fun r1 σx1 => wm_X6_times (fun r2 σm1 => r1 = r2 ∧ Rel σx1 σm1) x1 x2 x3 x4 σm) x1 x2 x3 x4 σx
set_option maxRecDepth 100000 in
set_option maxHeartbeats 4000000 in
theorem law_times {Rel : wS → wS → Prop} (hr : rT_times Rel) {p : Program} {l : Launch} {e : Env} {s : State} {m : MethodId} {below : List Frame} {meth : Method} {c : Code} {H : Heap} {locs : List Loc} {QQ : State → Prop} {b L : Nat} {xs : Nat → Int32} {gx gm : wG} (C : lwC p s m c b L xs gx gm) {σx σm : wS} (hR : Rel σx σm) (hZ : lwZ gx gm σx σm H s) (hS : va_S (lwA s) s.heap H locs) {ls : Array Slot} {x3 : Int32} (hl : lv_has ls 4 [(0, .ref b), (1, .ref (gx.2.1 0)), (2, .ref (gm.2.1 0)), (3, .int x3)]) (hi : lwI x3 L)
    (kont : ∀ (σx σm : wS) (H : Heap) (locs : List Loc), Rel σx σm → lwZ gx gm σx σm H s → va_S (lwA s) s.heap H locs → W p l e room_1 s m #[Value.ref b] below meth c H locs 65 12543 QQ (F0 m 1114 ls [])) : W p l e room_1 s m #[Value.ref b] below meth c H locs 65 12543 QQ (F0 m 587 ls []) := by
  obtain ⟨hx, hb, hml, hown, hts, hX, hbl, -, -, -⟩ := id C
  have hbA : ¬ lwA s b := Nat.not_le.mpr hbl
  obtain ⟨h_0, h_1, h_2, h_3, h_4, h_5⟩ := hi
  by_cases z2 : (xs (x3 + 2).toNatClampNeg) = 0
  · by_cases z3 : (xs (x3 + 3).toNatClampNeg) = 0
    · refine lv_aload_n hx hb dL_law_587 rfl (lv_at hl 1 rfl) ?_
      refine lv_aload_n hx hb dL_law_588 rfl (lv_at hl 0 rfl) ?_
      refine lv_iload_n hx hb dL_law_589 rfl (lv_at hl 3 rfl) ?_
      refine lv_iconst (v := 1) hx hb dL_law_590 (by decide) ?_
      refine lv_iadd hx hb dL_law_591 ?_
      refine va_sld hx hb hX hbl hbA hS h_1 dL_law_592 ?_
      refine lv_aload_n hx hb dL_law_593 rfl (lv_at hl 0 rfl) ?_
      refine lv_iload_n hx hb dL_law_594 rfl (lv_at hl 3 rfl) ?_
      refine lv_iconst (v := 2) hx hb dL_law_595 (by decide) ?_
      refine lv_iadd hx hb dL_law_596 ?_
      refine va_sld hx hb hX hbl hbA hS h_2 dL_law_597 ?_
      refine lv_if_eq (tgt := 605) hx hb dL_law_598 (by decide) (fun _ => ?_) (fun hc => absurd z2 hc)
      refine lv_iconst (v := 0) hx hb dL_law_605 (by decide) ?_
      refine lv_aload_n hx hb dL_law_606 rfl (lv_at hl 0 rfl) ?_
      refine lv_iload_n hx hb dL_law_607 rfl (lv_at hl 3 rfl) ?_
      refine lv_iconst (v := 3) hx hb dL_law_608 (by decide) ?_
      refine lv_iadd hx hb dL_law_609 ?_
      refine va_sld hx hb hX hbl hbA hS h_3 dL_law_610 ?_
      refine lv_if_eq (tgt := 618) hx hb dL_law_611 (by decide) (fun _ => ?_) (fun hc => absurd z3 hc)
      refine lv_iconst (v := 0) hx hb dL_law_618 (by decide) ?_
      refine lv_aload_n hx hb dL_law_619 rfl (lv_at hl 0 rfl) ?_
      refine lv_iload_n hx hb dL_law_620 rfl (lv_at hl 3 rfl) ?_
      refine lv_iconst (v := 4) hx hb dL_law_621 (by decide) ?_
      refine lv_iadd hx hb dL_law_622 ?_
      refine va_sld hx hb hX hbl hbA hS h_4 dL_law_623 ?_
      have hw := hr σx σm (xs (x3 + 1).toNatClampNeg) (0 : Int32) (0 : Int32) (xs (x3 + 4).toNatClampNeg) (Or.inl rfl) (Or.inl rfl) hR
      refine lawX C (cx_X5_times l gx (σ := σx) hw) (cwV 4 hts gL_law_X5_times rfl rfl rfl (by decide +kernel) ⟨Nat.le_of_ble_eq_true rfl, Nat.le_of_ble_eq_true rfl⟩) hZ hS hl.1 rfl rfl (Nat.le_of_ble_eq_true rfl) dL_law_624 (fun r1 σx1 H locs hw hZ hS => ?_)
      refine lv_aload_n hx hb dL_law_627 rfl (lv_at hl 2 rfl) ?_
      refine lv_aload_n hx hb dL_law_628 rfl (lv_at hl 0 rfl) ?_
      refine lv_iload_n hx hb dL_law_629 rfl (lv_at hl 3 rfl) ?_
      refine lv_iconst (v := 1) hx hb dL_law_630 (by decide) ?_
      refine lv_iadd hx hb dL_law_631 ?_
      refine va_sld hx hb hX hbl hbA hS h_1 dL_law_632 ?_
      refine lv_aload_n hx hb dL_law_633 rfl (lv_at hl 0 rfl) ?_
      refine lv_iload_n hx hb dL_law_634 rfl (lv_at hl 3 rfl) ?_
      refine lv_iconst (v := 2) hx hb dL_law_635 (by decide) ?_
      refine lv_iadd hx hb dL_law_636 ?_
      refine va_sld hx hb hX hbl hbA hS h_2 dL_law_637 ?_
      refine lv_if_eq (tgt := 645) hx hb dL_law_638 (by decide) (fun _ => ?_) (fun hc => absurd z2 hc)
      refine lv_iconst (v := 0) hx hb dL_law_645 (by decide) ?_
      refine lv_aload_n hx hb dL_law_646 rfl (lv_at hl 0 rfl) ?_
      refine lv_iload_n hx hb dL_law_647 rfl (lv_at hl 3 rfl) ?_
      refine lv_iconst (v := 3) hx hb dL_law_648 (by decide) ?_
      refine lv_iadd hx hb dL_law_649 ?_
      refine va_sld hx hb hX hbl hbA hS h_3 dL_law_650 ?_
      refine lv_if_eq (tgt := 658) hx hb dL_law_651 (by decide) (fun _ => ?_) (fun hc => absurd z3 hc)
      refine lv_iconst (v := 0) hx hb dL_law_658 (by decide) ?_
      refine lv_aload_n hx hb dL_law_659 rfl (lv_at hl 0 rfl) ?_
      refine lv_iload_n hx hb dL_law_660 rfl (lv_at hl 3 rfl) ?_
      refine lv_iconst (v := 4) hx hb dL_law_661 (by decide) ?_
      refine lv_iadd hx hb dL_law_662 ?_
      refine va_sld hx hb hX hbl hbA hS h_4 dL_law_663 ?_
      refine lawM C (cm_X6_times l gm (σ := σm) hw) (cwV 4 hts gL_law_X6_times rfl rfl rfl (by decide +kernel) ⟨Nat.le_of_ble_eq_true rfl, Nat.le_of_ble_eq_true rfl⟩) hZ hS hl.1 rfl rfl (Nat.le_of_ble_eq_true rfl) dL_law_664 (fun r2 σm1 H locs hw hZ hS => ?_)
      exact lv_icmp_eq (tgt := 1114) hx hb dL_law_667 (by decide) (fun _ => kont _ _ _ _ hw.2 hZ hS) (fun hc => absurd hw.1 hc)
    · refine lv_aload_n hx hb dL_law_587 rfl (lv_at hl 1 rfl) ?_
      refine lv_aload_n hx hb dL_law_588 rfl (lv_at hl 0 rfl) ?_
      refine lv_iload_n hx hb dL_law_589 rfl (lv_at hl 3 rfl) ?_
      refine lv_iconst (v := 1) hx hb dL_law_590 (by decide) ?_
      refine lv_iadd hx hb dL_law_591 ?_
      refine va_sld hx hb hX hbl hbA hS h_1 dL_law_592 ?_
      refine lv_aload_n hx hb dL_law_593 rfl (lv_at hl 0 rfl) ?_
      refine lv_iload_n hx hb dL_law_594 rfl (lv_at hl 3 rfl) ?_
      refine lv_iconst (v := 2) hx hb dL_law_595 (by decide) ?_
      refine lv_iadd hx hb dL_law_596 ?_
      refine va_sld hx hb hX hbl hbA hS h_2 dL_law_597 ?_
      refine lv_if_eq (tgt := 605) hx hb dL_law_598 (by decide) (fun _ => ?_) (fun hc => absurd z2 hc)
      refine lv_iconst (v := 0) hx hb dL_law_605 (by decide) ?_
      refine lv_aload_n hx hb dL_law_606 rfl (lv_at hl 0 rfl) ?_
      refine lv_iload_n hx hb dL_law_607 rfl (lv_at hl 3 rfl) ?_
      refine lv_iconst (v := 3) hx hb dL_law_608 (by decide) ?_
      refine lv_iadd hx hb dL_law_609 ?_
      refine va_sld hx hb hX hbl hbA hS h_3 dL_law_610 ?_
      refine lv_if_eq (tgt := 618) hx hb dL_law_611 (by decide) (fun hc => absurd hc z3) (fun _ => ?_)
      refine lv_iconst (v := 1) hx hb dL_law_614 (by decide) ?_
      refine lv_goto (tgt := 619) hx hb dL_law_615 (by decide) ?_
      refine lv_aload_n hx hb dL_law_619 rfl (lv_at hl 0 rfl) ?_
      refine lv_iload_n hx hb dL_law_620 rfl (lv_at hl 3 rfl) ?_
      refine lv_iconst (v := 4) hx hb dL_law_621 (by decide) ?_
      refine lv_iadd hx hb dL_law_622 ?_
      refine va_sld hx hb hX hbl hbA hS h_4 dL_law_623 ?_
      have hw := hr σx σm (xs (x3 + 1).toNatClampNeg) (0 : Int32) (1 : Int32) (xs (x3 + 4).toNatClampNeg) (Or.inl rfl) (Or.inr rfl) hR
      refine lawX C (cx_X5_times l gx (σ := σx) hw) (cwV 4 hts gL_law_X5_times rfl rfl rfl (by decide +kernel) ⟨Nat.le_of_ble_eq_true rfl, Nat.le_of_ble_eq_true rfl⟩) hZ hS hl.1 rfl rfl (Nat.le_of_ble_eq_true rfl) dL_law_624 (fun r1 σx1 H locs hw hZ hS => ?_)
      refine lv_aload_n hx hb dL_law_627 rfl (lv_at hl 2 rfl) ?_
      refine lv_aload_n hx hb dL_law_628 rfl (lv_at hl 0 rfl) ?_
      refine lv_iload_n hx hb dL_law_629 rfl (lv_at hl 3 rfl) ?_
      refine lv_iconst (v := 1) hx hb dL_law_630 (by decide) ?_
      refine lv_iadd hx hb dL_law_631 ?_
      refine va_sld hx hb hX hbl hbA hS h_1 dL_law_632 ?_
      refine lv_aload_n hx hb dL_law_633 rfl (lv_at hl 0 rfl) ?_
      refine lv_iload_n hx hb dL_law_634 rfl (lv_at hl 3 rfl) ?_
      refine lv_iconst (v := 2) hx hb dL_law_635 (by decide) ?_
      refine lv_iadd hx hb dL_law_636 ?_
      refine va_sld hx hb hX hbl hbA hS h_2 dL_law_637 ?_
      refine lv_if_eq (tgt := 645) hx hb dL_law_638 (by decide) (fun _ => ?_) (fun hc => absurd z2 hc)
      refine lv_iconst (v := 0) hx hb dL_law_645 (by decide) ?_
      refine lv_aload_n hx hb dL_law_646 rfl (lv_at hl 0 rfl) ?_
      refine lv_iload_n hx hb dL_law_647 rfl (lv_at hl 3 rfl) ?_
      refine lv_iconst (v := 3) hx hb dL_law_648 (by decide) ?_
      refine lv_iadd hx hb dL_law_649 ?_
      refine va_sld hx hb hX hbl hbA hS h_3 dL_law_650 ?_
      refine lv_if_eq (tgt := 658) hx hb dL_law_651 (by decide) (fun hc => absurd hc z3) (fun _ => ?_)
      refine lv_iconst (v := 1) hx hb dL_law_654 (by decide) ?_
      refine lv_goto (tgt := 659) hx hb dL_law_655 (by decide) ?_
      refine lv_aload_n hx hb dL_law_659 rfl (lv_at hl 0 rfl) ?_
      refine lv_iload_n hx hb dL_law_660 rfl (lv_at hl 3 rfl) ?_
      refine lv_iconst (v := 4) hx hb dL_law_661 (by decide) ?_
      refine lv_iadd hx hb dL_law_662 ?_
      refine va_sld hx hb hX hbl hbA hS h_4 dL_law_663 ?_
      refine lawM C (cm_X6_times l gm (σ := σm) hw) (cwV 4 hts gL_law_X6_times rfl rfl rfl (by decide +kernel) ⟨Nat.le_of_ble_eq_true rfl, Nat.le_of_ble_eq_true rfl⟩) hZ hS hl.1 rfl rfl (Nat.le_of_ble_eq_true rfl) dL_law_664 (fun r2 σm1 H locs hw hZ hS => ?_)
      exact lv_icmp_eq (tgt := 1114) hx hb dL_law_667 (by decide) (fun _ => kont _ _ _ _ hw.2 hZ hS) (fun hc => absurd hw.1 hc)
  · by_cases z3 : (xs (x3 + 3).toNatClampNeg) = 0
    · refine lv_aload_n hx hb dL_law_587 rfl (lv_at hl 1 rfl) ?_
      refine lv_aload_n hx hb dL_law_588 rfl (lv_at hl 0 rfl) ?_
      refine lv_iload_n hx hb dL_law_589 rfl (lv_at hl 3 rfl) ?_
      refine lv_iconst (v := 1) hx hb dL_law_590 (by decide) ?_
      refine lv_iadd hx hb dL_law_591 ?_
      refine va_sld hx hb hX hbl hbA hS h_1 dL_law_592 ?_
      refine lv_aload_n hx hb dL_law_593 rfl (lv_at hl 0 rfl) ?_
      refine lv_iload_n hx hb dL_law_594 rfl (lv_at hl 3 rfl) ?_
      refine lv_iconst (v := 2) hx hb dL_law_595 (by decide) ?_
      refine lv_iadd hx hb dL_law_596 ?_
      refine va_sld hx hb hX hbl hbA hS h_2 dL_law_597 ?_
      refine lv_if_eq (tgt := 605) hx hb dL_law_598 (by decide) (fun hc => absurd hc z2) (fun _ => ?_)
      refine lv_iconst (v := 1) hx hb dL_law_601 (by decide) ?_
      refine lv_goto (tgt := 606) hx hb dL_law_602 (by decide) ?_
      refine lv_aload_n hx hb dL_law_606 rfl (lv_at hl 0 rfl) ?_
      refine lv_iload_n hx hb dL_law_607 rfl (lv_at hl 3 rfl) ?_
      refine lv_iconst (v := 3) hx hb dL_law_608 (by decide) ?_
      refine lv_iadd hx hb dL_law_609 ?_
      refine va_sld hx hb hX hbl hbA hS h_3 dL_law_610 ?_
      refine lv_if_eq (tgt := 618) hx hb dL_law_611 (by decide) (fun _ => ?_) (fun hc => absurd z3 hc)
      refine lv_iconst (v := 0) hx hb dL_law_618 (by decide) ?_
      refine lv_aload_n hx hb dL_law_619 rfl (lv_at hl 0 rfl) ?_
      refine lv_iload_n hx hb dL_law_620 rfl (lv_at hl 3 rfl) ?_
      refine lv_iconst (v := 4) hx hb dL_law_621 (by decide) ?_
      refine lv_iadd hx hb dL_law_622 ?_
      refine va_sld hx hb hX hbl hbA hS h_4 dL_law_623 ?_
      have hw := hr σx σm (xs (x3 + 1).toNatClampNeg) (1 : Int32) (0 : Int32) (xs (x3 + 4).toNatClampNeg) (Or.inr rfl) (Or.inl rfl) hR
      refine lawX C (cx_X5_times l gx (σ := σx) hw) (cwV 4 hts gL_law_X5_times rfl rfl rfl (by decide +kernel) ⟨Nat.le_of_ble_eq_true rfl, Nat.le_of_ble_eq_true rfl⟩) hZ hS hl.1 rfl rfl (Nat.le_of_ble_eq_true rfl) dL_law_624 (fun r1 σx1 H locs hw hZ hS => ?_)
      refine lv_aload_n hx hb dL_law_627 rfl (lv_at hl 2 rfl) ?_
      refine lv_aload_n hx hb dL_law_628 rfl (lv_at hl 0 rfl) ?_
      refine lv_iload_n hx hb dL_law_629 rfl (lv_at hl 3 rfl) ?_
      refine lv_iconst (v := 1) hx hb dL_law_630 (by decide) ?_
      refine lv_iadd hx hb dL_law_631 ?_
      refine va_sld hx hb hX hbl hbA hS h_1 dL_law_632 ?_
      refine lv_aload_n hx hb dL_law_633 rfl (lv_at hl 0 rfl) ?_
      refine lv_iload_n hx hb dL_law_634 rfl (lv_at hl 3 rfl) ?_
      refine lv_iconst (v := 2) hx hb dL_law_635 (by decide) ?_
      refine lv_iadd hx hb dL_law_636 ?_
      refine va_sld hx hb hX hbl hbA hS h_2 dL_law_637 ?_
      refine lv_if_eq (tgt := 645) hx hb dL_law_638 (by decide) (fun hc => absurd hc z2) (fun _ => ?_)
      refine lv_iconst (v := 1) hx hb dL_law_641 (by decide) ?_
      refine lv_goto (tgt := 646) hx hb dL_law_642 (by decide) ?_
      refine lv_aload_n hx hb dL_law_646 rfl (lv_at hl 0 rfl) ?_
      refine lv_iload_n hx hb dL_law_647 rfl (lv_at hl 3 rfl) ?_
      refine lv_iconst (v := 3) hx hb dL_law_648 (by decide) ?_
      refine lv_iadd hx hb dL_law_649 ?_
      refine va_sld hx hb hX hbl hbA hS h_3 dL_law_650 ?_
      refine lv_if_eq (tgt := 658) hx hb dL_law_651 (by decide) (fun _ => ?_) (fun hc => absurd z3 hc)
      refine lv_iconst (v := 0) hx hb dL_law_658 (by decide) ?_
      refine lv_aload_n hx hb dL_law_659 rfl (lv_at hl 0 rfl) ?_
      refine lv_iload_n hx hb dL_law_660 rfl (lv_at hl 3 rfl) ?_
      refine lv_iconst (v := 4) hx hb dL_law_661 (by decide) ?_
      refine lv_iadd hx hb dL_law_662 ?_
      refine va_sld hx hb hX hbl hbA hS h_4 dL_law_663 ?_
      refine lawM C (cm_X6_times l gm (σ := σm) hw) (cwV 4 hts gL_law_X6_times rfl rfl rfl (by decide +kernel) ⟨Nat.le_of_ble_eq_true rfl, Nat.le_of_ble_eq_true rfl⟩) hZ hS hl.1 rfl rfl (Nat.le_of_ble_eq_true rfl) dL_law_664 (fun r2 σm1 H locs hw hZ hS => ?_)
      exact lv_icmp_eq (tgt := 1114) hx hb dL_law_667 (by decide) (fun _ => kont _ _ _ _ hw.2 hZ hS) (fun hc => absurd hw.1 hc)
    · refine lv_aload_n hx hb dL_law_587 rfl (lv_at hl 1 rfl) ?_
      refine lv_aload_n hx hb dL_law_588 rfl (lv_at hl 0 rfl) ?_
      refine lv_iload_n hx hb dL_law_589 rfl (lv_at hl 3 rfl) ?_
      refine lv_iconst (v := 1) hx hb dL_law_590 (by decide) ?_
      refine lv_iadd hx hb dL_law_591 ?_
      refine va_sld hx hb hX hbl hbA hS h_1 dL_law_592 ?_
      refine lv_aload_n hx hb dL_law_593 rfl (lv_at hl 0 rfl) ?_
      refine lv_iload_n hx hb dL_law_594 rfl (lv_at hl 3 rfl) ?_
      refine lv_iconst (v := 2) hx hb dL_law_595 (by decide) ?_
      refine lv_iadd hx hb dL_law_596 ?_
      refine va_sld hx hb hX hbl hbA hS h_2 dL_law_597 ?_
      refine lv_if_eq (tgt := 605) hx hb dL_law_598 (by decide) (fun hc => absurd hc z2) (fun _ => ?_)
      refine lv_iconst (v := 1) hx hb dL_law_601 (by decide) ?_
      refine lv_goto (tgt := 606) hx hb dL_law_602 (by decide) ?_
      refine lv_aload_n hx hb dL_law_606 rfl (lv_at hl 0 rfl) ?_
      refine lv_iload_n hx hb dL_law_607 rfl (lv_at hl 3 rfl) ?_
      refine lv_iconst (v := 3) hx hb dL_law_608 (by decide) ?_
      refine lv_iadd hx hb dL_law_609 ?_
      refine va_sld hx hb hX hbl hbA hS h_3 dL_law_610 ?_
      refine lv_if_eq (tgt := 618) hx hb dL_law_611 (by decide) (fun hc => absurd hc z3) (fun _ => ?_)
      refine lv_iconst (v := 1) hx hb dL_law_614 (by decide) ?_
      refine lv_goto (tgt := 619) hx hb dL_law_615 (by decide) ?_
      refine lv_aload_n hx hb dL_law_619 rfl (lv_at hl 0 rfl) ?_
      refine lv_iload_n hx hb dL_law_620 rfl (lv_at hl 3 rfl) ?_
      refine lv_iconst (v := 4) hx hb dL_law_621 (by decide) ?_
      refine lv_iadd hx hb dL_law_622 ?_
      refine va_sld hx hb hX hbl hbA hS h_4 dL_law_623 ?_
      have hw := hr σx σm (xs (x3 + 1).toNatClampNeg) (1 : Int32) (1 : Int32) (xs (x3 + 4).toNatClampNeg) (Or.inr rfl) (Or.inr rfl) hR
      refine lawX C (cx_X5_times l gx (σ := σx) hw) (cwV 4 hts gL_law_X5_times rfl rfl rfl (by decide +kernel) ⟨Nat.le_of_ble_eq_true rfl, Nat.le_of_ble_eq_true rfl⟩) hZ hS hl.1 rfl rfl (Nat.le_of_ble_eq_true rfl) dL_law_624 (fun r1 σx1 H locs hw hZ hS => ?_)
      refine lv_aload_n hx hb dL_law_627 rfl (lv_at hl 2 rfl) ?_
      refine lv_aload_n hx hb dL_law_628 rfl (lv_at hl 0 rfl) ?_
      refine lv_iload_n hx hb dL_law_629 rfl (lv_at hl 3 rfl) ?_
      refine lv_iconst (v := 1) hx hb dL_law_630 (by decide) ?_
      refine lv_iadd hx hb dL_law_631 ?_
      refine va_sld hx hb hX hbl hbA hS h_1 dL_law_632 ?_
      refine lv_aload_n hx hb dL_law_633 rfl (lv_at hl 0 rfl) ?_
      refine lv_iload_n hx hb dL_law_634 rfl (lv_at hl 3 rfl) ?_
      refine lv_iconst (v := 2) hx hb dL_law_635 (by decide) ?_
      refine lv_iadd hx hb dL_law_636 ?_
      refine va_sld hx hb hX hbl hbA hS h_2 dL_law_637 ?_
      refine lv_if_eq (tgt := 645) hx hb dL_law_638 (by decide) (fun hc => absurd hc z2) (fun _ => ?_)
      refine lv_iconst (v := 1) hx hb dL_law_641 (by decide) ?_
      refine lv_goto (tgt := 646) hx hb dL_law_642 (by decide) ?_
      refine lv_aload_n hx hb dL_law_646 rfl (lv_at hl 0 rfl) ?_
      refine lv_iload_n hx hb dL_law_647 rfl (lv_at hl 3 rfl) ?_
      refine lv_iconst (v := 3) hx hb dL_law_648 (by decide) ?_
      refine lv_iadd hx hb dL_law_649 ?_
      refine va_sld hx hb hX hbl hbA hS h_3 dL_law_650 ?_
      refine lv_if_eq (tgt := 658) hx hb dL_law_651 (by decide) (fun hc => absurd hc z3) (fun _ => ?_)
      refine lv_iconst (v := 1) hx hb dL_law_654 (by decide) ?_
      refine lv_goto (tgt := 659) hx hb dL_law_655 (by decide) ?_
      refine lv_aload_n hx hb dL_law_659 rfl (lv_at hl 0 rfl) ?_
      refine lv_iload_n hx hb dL_law_660 rfl (lv_at hl 3 rfl) ?_
      refine lv_iconst (v := 4) hx hb dL_law_661 (by decide) ?_
      refine lv_iadd hx hb dL_law_662 ?_
      refine va_sld hx hb hX hbl hbA hS h_4 dL_law_663 ?_
      refine lawM C (cm_X6_times l gm (σ := σm) hw) (cwV 4 hts gL_law_X6_times rfl rfl rfl (by decide +kernel) ⟨Nat.le_of_ble_eq_true rfl, Nat.le_of_ble_eq_true rfl⟩) hZ hS hl.1 rfl rfl (Nat.le_of_ble_eq_true rfl) dL_law_664 (fun r2 σm1 H locs hw hZ hS => ?_)
      exact lv_icmp_eq (tgt := 1114) hx hb dL_law_667 (by decide) (fun _ => kont _ _ _ _ hw.2 hZ hS) (fun hc => absurd hw.1 hc)
def rT_quarrel (Rel : wS → wS → Prop) : Prop := ∀ (σx σm : wS) (x1 : Int32), Rel σx σm → wx_X5_quarrel (fun r1 σx1 => wm_X6_quarrel (fun r2 σm1 => r1 = r2 ∧ Rel σx1 σm1) x1 σm) x1 σx
set_option maxRecDepth 100000 in
set_option maxHeartbeats 4000000 in
theorem law_quarrel {Rel : wS → wS → Prop} (hr : rT_quarrel Rel) {p : Program} {l : Launch} {e : Env} {s : State} {m : MethodId} {below : List Frame} {meth : Method} {c : Code} {H : Heap} {locs : List Loc} {QQ : State → Prop} {b L : Nat} {xs : Nat → Int32} {gx gm : wG} (C : lwC p s m c b L xs gx gm) {σx σm : wS} (hR : Rel σx σm) (hZ : lwZ gx gm σx σm H s) (hS : va_S (lwA s) s.heap H locs) {ls : Array Slot} {x3 : Int32} (hl : lv_has ls 4 [(0, .ref b), (1, .ref (gx.2.1 0)), (2, .ref (gm.2.1 0)), (3, .int x3)]) (hi : lwI x3 L)
    (kont : ∀ (σx σm : wS) (H : Heap) (locs : List Loc), Rel σx σm → lwZ gx gm σx σm H s → va_S (lwA s) s.heap H locs → W p l e room_1 s m #[Value.ref b] below meth c H locs 65 12543 QQ (F0 m 1114 ls [])) : W p l e room_1 s m #[Value.ref b] below meth c H locs 65 12543 QQ (F0 m 672 ls []) := by
  obtain ⟨hx, hb, hml, hown, hts, hX, hbl, -, -, -⟩ := id C
  have hbA : ¬ lwA s b := Nat.not_le.mpr hbl
  obtain ⟨h_0, h_1, h_2, h_3, h_4, h_5⟩ := hi
  refine lv_aload_n hx hb dL_law_672 rfl (lv_at hl 1 rfl) ?_
  refine lv_aload_n hx hb dL_law_673 rfl (lv_at hl 0 rfl) ?_
  refine lv_iload_n hx hb dL_law_674 rfl (lv_at hl 3 rfl) ?_
  refine lv_iconst (v := 1) hx hb dL_law_675 (by decide) ?_
  refine lv_iadd hx hb dL_law_676 ?_
  refine va_sld hx hb hX hbl hbA hS h_1 dL_law_677 ?_
  have hw := hr σx σm (xs (x3 + 1).toNatClampNeg)  hR
  refine lawX C (cx_X5_quarrel l gx (σ := σx) hw) (cwV 1 hts gL_law_X5_quarrel rfl rfl rfl (by decide +kernel) ⟨Nat.le_of_ble_eq_true rfl, Nat.le_of_ble_eq_true rfl⟩) hZ hS hl.1 rfl rfl (Nat.le_of_ble_eq_true rfl) dL_law_678 (fun r1 σx1 H locs hw hZ hS => ?_)
  refine lv_aload_n hx hb dL_law_681 rfl (lv_at hl 2 rfl) ?_
  refine lv_aload_n hx hb dL_law_682 rfl (lv_at hl 0 rfl) ?_
  refine lv_iload_n hx hb dL_law_683 rfl (lv_at hl 3 rfl) ?_
  refine lv_iconst (v := 1) hx hb dL_law_684 (by decide) ?_
  refine lv_iadd hx hb dL_law_685 ?_
  refine va_sld hx hb hX hbl hbA hS h_1 dL_law_686 ?_
  refine lawM C (cm_X6_quarrel l gm (σ := σm) hw) (cwV 1 hts gL_law_X6_quarrel rfl rfl rfl (by decide +kernel) ⟨Nat.le_of_ble_eq_true rfl, Nat.le_of_ble_eq_true rfl⟩) hZ hS hl.1 rfl rfl (Nat.le_of_ble_eq_true rfl) dL_law_687 (fun r2 σm1 H locs hw hZ hS => ?_)
  exact lv_icmp_eq (tgt := 1114) hx hb dL_law_690 (by decide) (fun _ => kont _ _ _ _ hw.2 hZ hS) (fun hc => absurd hw.1 hc)
