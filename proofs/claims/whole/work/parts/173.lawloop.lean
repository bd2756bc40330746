set_option maxRecDepth 100000 in
set_option maxHeartbeats 4000000 in
theorem law_loop {Rel : wS → wS → Prop} (h0 : rT_status Rel) (h1 : rT_plate Rel) (h2 : rT_motif Rel) (h3 : rT_shows Rel) (h4 : rT_ahead Rel) (h5 : rT_same Rel) (h6 : rT_taken Rel) (h7 : rT_stood Rel) (h8 : rT_cross Rel) (h9 : rT_fact Rel) (h10 : rT_span Rel) (h11 : rT_times Rel) (h12 : rT_quarrel Rel) (h13 : rT_frees Rel) (h14 : rT_order Rel) (h15 : rT_edges Rel) (h16 : rT_row Rel) (h17 : rT_ring Rel) (h18 : rT_rows Rel) (h19 : rT_out Rel) (h20 : rT_want Rel) (h21 : rT_best Rel) (h22 : rT_hour Rel) (h23 : rT_law Rel) (h24 : rT_death Rel) (h25 : rT_free Rel) {p : Program} {l : Launch} {e : Env} {s : State} {m : MethodId} {below : List Frame} {meth : Method} {c : Code} {QQ : State → Prop} {b L : Nat} {xs : Nat → Int32} {gx gm : wG} (C : lwC p s m c b L xs gx gm) (hL : L ≤ 3072)
    (hret : ∀ (H : Heap) (locs : List Loc) (ls : Array Slot), va_S (lwA s) s.heap H locs → W p l e room_1 s m #[Value.ref b] below meth c H locs 65 12543 QQ (F0 m 1120 ls [])) :
    ∀ (n i : Nat) (x3 : Int32), i ≤ L + 6 → L + 7 ≤ i + n → x3 = nI i → ∀ (σx σm : wS) (H : Heap) (locs : List Loc) (ls : Array Slot), Rel σx σm → lwZ gx gm σx σm H s → va_S (lwA s) s.heap H locs → lv_has ls 4 [(0, .ref b), (1, .ref (gx.2.1 0)), (2, .ref (gm.2.1 0)), (3, .int x3)] → W p l e room_1 s m #[Value.ref b] below meth c H locs 65 12543 QQ (F0 m 18 ls []) := by
  obtain ⟨hx, hb, hml, hown, hts, hX, hbl, -, -, -⟩ := id C
  have hbA : ¬ lwA s b := Nat.not_le.mpr hbl
  intro n
  induction n with
  | zero => intro i x3 hi hn; omega
  | succ n ih =>
    intro i x3 hi hn ex σx σm H locs ls hR hZ hS hl
    refine lv_iload_n hx hb dL_law_18 rfl (lv_at hl 3 rfl) ?_
    refine lv_aload_n hx hb dL_law_19 rfl (lv_at hl 0 rfl) ?_
    refine va_slen hx hb hX hbl hbA hS dL_law_20 ?_
    refine lv_bipush (v := 6) hx hb dL_law_21 (by decide) ?_
    refine lv_isub hx hb dL_law_23 ?_
    have eL : (Int32.ofNat L - 6).toInt = (L : Int) - 6 := by
      have h1 : (Int32.ofNat L).toInt = (L : Int) := nI_toInt (n := L) (by omega)
      have h2 : (6 : Int32).toInt = 6 := by decide
      rw [fb_subI (by rw [h1, h2]; omega) (by rw [h1, h2]; omega), h1, h2]
    have eX : x3.toInt = (i : Int) := by rw [ex]; exact nI_toInt (by omega)
    refine lv_icmp_gt (tgt := 1120) hx hb dL_law_24 (by decide) (fun hc => ?_) (fun hc => ?_)
    · exact hret H locs ls hS
    rw [fa_lt, eL, eX] at hc
    have hin : ∀ k : Nat, k < 6 → vp_in (x3 + nI k) L := fun k hk => by
      rw [ex, nI_add]
      exact nI_in (by omega) (by omega)
    have hi0 : vp_in x3 L := by rw [ex]; exact nI_in (by omega) (by omega)
    have hI : lwI x3 L := ⟨hi0, hin 1 (by omega), hin 2 (by omega), hin 3 (by omega), hin 4 (by omega), hin 5 (by omega)⟩
    have kont : ∀ (σx σm : wS) (H : Heap) (locs : List Loc), Rel σx σm → lwZ gx gm σx σm H s → va_S (lwA s) s.heap H locs → W p l e room_1 s m #[Value.ref b] below meth c H locs 65 12543 QQ (F0 m 1114 ls []) := by
      intro σx σm H locs hR hZ hS
      obtain ⟨y3, ey⟩ : ∃ y : Int32, y = x3 + 6 := ⟨_, rfl⟩
      refine lv_iinc (v := y3) (lv' := [(3, .int y3), (0, .ref b), (1, .ref (gx.2.1 0)), (2, .ref (gm.2.1 0))]) hx hb dL_law_1114 hl (k := 3) rfl (by rw [ey]; rfl) (by decide) rfl (fun ls hl => ?_)
      refine lv_goto (tgt := 18) hx hb dL_law_1117 (by decide) ?_
      exact ih (i + 6) y3 (by omega) (by omega) (by rw [ey, ex]; exact nI_add i 6) σx σm H locs ls hR hZ hS (lv_sub hl [1, 2, 3, 0] rfl)
    refine lv_aload_n hx hb dL_law_27 rfl (lv_at hl 0 rfl) ?_
    refine lv_iload_n hx hb dL_law_28 rfl (lv_at hl 3 rfl) ?_
    refine va_sld hx hb hX hbl hbA hS hi0 dL_law_29 ?_
    refine lv_bipush (v := 31) hx hb dL_law_30 (by decide) ?_
    refine lv_iand hx hb dL_law_32 ?_
    refine lv_topi (fun v ev => ?_)
    by_cases q0 : v = 0
    · refine lv_tableIn (tgt := 152) hx hb dL_law_33 (by rw [q0]; decide) (by rw [q0]; decide) (by rw [q0]; rfl) (by decide) ?_
      exact law_status h0 C hR hZ hS hl hI kont
    by_cases q1 : v = 1
    · refine lv_tableIn (tgt := 165) hx hb dL_law_33 (by rw [q1]; decide) (by rw [q1]; decide) (by rw [q1]; rfl) (by decide) ?_
      exact law_plate h1 C hR hZ hS hl hI kont
    by_cases q2 : v = 2
    · refine lv_tableIn (tgt := 178) hx hb dL_law_33 (by rw [q2]; decide) (by rw [q2]; decide) (by rw [q2]; rfl) (by decide) ?_
      exact law_motif h2 C hR hZ hS hl hI kont
    by_cases q3 : v = 3
    · refine lv_tableIn (tgt := 191) hx hb dL_law_33 (by rw [q3]; decide) (by rw [q3]; decide) (by rw [q3]; rfl) (by decide) ?_
      exact law_shows h3 C hR hZ hS hl hI kont
    by_cases q4 : v = 4
    · refine lv_tableIn (tgt := 234) hx hb dL_law_33 (by rw [q4]; decide) (by rw [q4]; decide) (by rw [q4]; rfl) (by decide) ?_
      exact law_ahead h4 C hR hZ hS hl hI kont
    by_cases q5 : v = 5
    · refine lv_tableIn (tgt := 287) hx hb dL_law_33 (by rw [q5]; decide) (by rw [q5]; decide) (by rw [q5]; rfl) (by decide) ?_
      exact law_same h5 C hR hZ hS hl hI kont
    by_cases q6 : v = 6
    · refine lv_tableIn (tgt := 330) hx hb dL_law_33 (by rw [q6]; decide) (by rw [q6]; decide) (by rw [q6]; rfl) (by decide) ?_
      exact law_taken h6 C hR hZ hS hl hI kont
    by_cases q7 : v = 7
    · refine lv_tableIn (tgt := 383) hx hb dL_law_33 (by rw [q7]; decide) (by rw [q7]; decide) (by rw [q7]; rfl) (by decide) ?_
      exact law_stood h7 C hR hZ hS hl hI kont
    by_cases q8 : v = 8
    · refine lv_tableIn (tgt := 462) hx hb dL_law_33 (by rw [q8]; decide) (by rw [q8]; decide) (by rw [q8]; rfl) (by decide) ?_
      exact law_cross h8 C hR hZ hS hl hI kont
    by_cases q9 : v = 9
    · refine lv_tableIn (tgt := 495) hx hb dL_law_33 (by rw [q9]; decide) (by rw [q9]; decide) (by rw [q9]; rfl) (by decide) ?_
      exact law_fact h9 C hR hZ hS hl hI kont
    by_cases q10 : v = 10
    · refine lv_tableIn (tgt := 528) hx hb dL_law_33 (by rw [q10]; decide) (by rw [q10]; decide) (by rw [q10]; rfl) (by decide) ?_
      exact law_span h10 C hR hZ hS hl hI kont
    by_cases q11 : v = 11
    · refine lv_tableIn (tgt := 587) hx hb dL_law_33 (by rw [q11]; decide) (by rw [q11]; decide) (by rw [q11]; rfl) (by decide) ?_
      exact law_times h11 C hR hZ hS hl hI kont
    by_cases q12 : v = 12
    · refine lv_tableIn (tgt := 672) hx hb dL_law_33 (by rw [q12]; decide) (by rw [q12]; decide) (by rw [q12]; rfl) (by decide) ?_
      exact law_quarrel h12 C hR hZ hS hl hI kont
    by_cases q13 : v = 13
    · refine lv_tableIn (tgt := 695) hx hb dL_law_33 (by rw [q13]; decide) (by rw [q13]; decide) (by rw [q13]; rfl) (by decide) ?_
      exact law_frees h13 C hR hZ hS hl hI kont
    by_cases q14 : v = 14
    · refine lv_tableIn (tgt := 728) hx hb dL_law_33 (by rw [q14]; decide) (by rw [q14]; decide) (by rw [q14]; rfl) (by decide) ?_
      exact law_order h14 C hR hZ hS hl hI kont
    by_cases q15 : v = 15
    · refine lv_tableIn (tgt := 771) hx hb dL_law_33 (by rw [q15]; decide) (by rw [q15]; decide) (by rw [q15]; rfl) (by decide) ?_
      exact law_edges h15 C hR hZ hS hl hI kont
    by_cases q16 : v = 16
    · refine lv_tableIn (tgt := 814) hx hb dL_law_33 (by rw [q16]; decide) (by rw [q16]; decide) (by rw [q16]; rfl) (by decide) ?_
      exact law_row h16 C hR hZ hS hl hI kont
    by_cases q17 : v = 17
    · refine lv_tableIn (tgt := 837) hx hb dL_law_33 (by rw [q17]; decide) (by rw [q17]; decide) (by rw [q17]; rfl) (by decide) ?_
      exact law_ring h17 C hR hZ hS hl hI kont
    by_cases q18 : v = 18
    · refine lv_tableIn (tgt := 860) hx hb dL_law_33 (by rw [q18]; decide) (by rw [q18]; decide) (by rw [q18]; rfl) (by decide) ?_
      exact law_rows h18 C hR hZ hS hl hI kont
    by_cases q19 : v = 19
    · refine lv_tableIn (tgt := 883) hx hb dL_law_33 (by rw [q19]; decide) (by rw [q19]; decide) (by rw [q19]; rfl) (by decide) ?_
      exact law_out h19 C hR hZ hS hl hI kont
    by_cases q20 : v = 20
    · refine lv_tableIn (tgt := 906) hx hb dL_law_33 (by rw [q20]; decide) (by rw [q20]; decide) (by rw [q20]; rfl) (by decide) ?_
      exact law_want h20 C hR hZ hS hl hI kont
    by_cases q21 : v = 21
    · refine lv_tableIn (tgt := 959) hx hb dL_law_33 (by rw [q21]; decide) (by rw [q21]; decide) (by rw [q21]; rfl) (by decide) ?_
      exact law_best h21 C hR hZ hS hl hI kont
    by_cases q22 : v = 22
    · refine lv_tableIn (tgt := 972) hx hb dL_law_33 (by rw [q22]; decide) (by rw [q22]; decide) (by rw [q22]; rfl) (by decide) ?_
      exact law_hour h22 C hR hZ hS hl hI kont
    by_cases q23 : v = 23
    · refine lv_tableIn (tgt := 995) hx hb dL_law_33 (by rw [q23]; decide) (by rw [q23]; decide) (by rw [q23]; rfl) (by decide) ?_
      exact law_law h23 C hR hZ hS hl hI kont
    by_cases q24 : v = 24
    · refine lv_tableIn (tgt := 1028) hx hb dL_law_33 (by rw [q24]; decide) (by rw [q24]; decide) (by rw [q24]; rfl) (by decide) ?_
      exact law_death h24 C hR hZ hS hl hI kont
    by_cases q25 : v = 25
    · refine lv_tableIn (tgt := 1071) hx hb dL_law_33 (by rw [q25]; decide) (by rw [q25]; decide) (by rw [q25]; rfl) (by decide) ?_
      exact law_free h25 C hR hZ hS hl hI kont
    refine lv_tableOut (tgt := 1114) hx hb dL_law_33 (gSw26 (fun i hi => ?_)) (by decide) (kont σx σm H locs hR hZ hS)
    rcases (show i = 0 ∨ i = 1 ∨ i = 2 ∨ i = 3 ∨ i = 4 ∨ i = 5 ∨ i = 6 ∨ i = 7 ∨ i = 8 ∨ i = 9 ∨ i = 10 ∨ i = 11 ∨ i = 12 ∨ i = 13 ∨ i = 14 ∨ i = 15 ∨ i = 16 ∨ i = 17 ∨ i = 18 ∨ i = 19 ∨ i = 20 ∨ i = 21 ∨ i = 22 ∨ i = 23 ∨ i = 24 ∨ i = 25 by omega) with rfl | rfl | rfl | rfl | rfl | rfl | rfl | rfl | rfl | rfl | rfl | rfl | rfl | rfl | rfl | rfl | rfl | rfl | rfl | rfl | rfl | rfl | rfl | rfl | rfl | rfl <;> assumption
