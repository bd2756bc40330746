set_option maxRecDepth 100000 in
set_option maxHeartbeats 4000000 in
theorem cx_X5_span (l : Launch) (g : wG) {σ : wS} {x1 : Int32} {x2 : Int32} {x3 : Int32} {Q : Int32 → wS → Prop} (hw : wx_X5_span Q x1 x2 x3 σ) : Met l yX5_span wsX5_span ({ frames := 6, cells := 0, slots := 0, locals := 134 } : Room) (va_Pc [.ref (g.2.1 0), .int x1, .int x2, .int x3] (fun U => xIn g σ U.heap U)) (va_Qi Q (fun σ1 t => xIn g σ1 t.heap t) (xA g)) 0 0 (xA g) := by
  refine gOfI (maxL := 5) (xMv g) (by decide) rfl (Nat.le_of_ble_eq_true rfl) ?_
  intro p e s m args below meth c QQ hx hb hml hown hts hret ls hl hI
  have hl : lv_has ls 5 [(0, .ref (g.2.1 0)), (1, .int x1), (2, .int x2), (3, .int x3)] := hl
  have hS : va_S (xA g) s.heap s.heap [] := va_S.rf
  refine lv_aload_n hx hb dX5_span_0 rfl (lv_at hl 0 rfl) ?_
  refine lv_iload_n hx hb dX5_span_1 rfl (lv_at hl 1 rfl) ?_
  refine gVi (cx_X5_isPlate l g (σ := σ) hw) (xMv g) ⟨hx, hb, hml, hown, hts⟩ (cwV 1 hts gX5_span_X5_isPlate rfl rfl rfl (by decide +kernel) ⟨Nat.le_of_ble_eq_true rfl, Nat.le_of_ble_eq_true rfl⟩) (xRecv_X5 hI) hI hS hl.1 rfl rfl (Nat.le_of_ble_eq_true rfl) dX5_span_2 (fun r1 σ2 H locs hw hI hS => ?_)
  obtain ⟨hw, hq⟩ := hw
  rw [hq] at hI
  refine lv_iload_n hx hb dX5_span_5 rfl (lv_at hl 3 rfl) ?_
  refine gSi (cx_X5_isDay l g (σ := σ) hw) (xMv g) ⟨hx, hb, hml, hown, hts⟩ (va_cwS 1 hts gX5_span_X5_isDay rfl rfl rfl (by decide +kernel) ⟨Nat.le_of_ble_eq_true rfl, Nat.le_of_ble_eq_true rfl⟩) hI hS hl.1 rfl rfl (Nat.le_of_ble_eq_true rfl) dX5_span_6 (fun r3 σ4 H locs hw hI hS => ?_)
  obtain ⟨hw, hq⟩ := hw
  rw [hq] at hI
  refine gSi (cx_X5_whyNot l g (σ := σ) hw) (xMv g) ⟨hx, hb, hml, hown, hts⟩ (va_cwS 2 hts gX5_span_X5_whyNot rfl rfl rfl (by decide +kernel) ⟨Nat.le_of_ble_eq_true rfl, Nat.le_of_ble_eq_true rfl⟩) hI hS hl.1 rfl rfl (Nat.le_of_ble_eq_true rfl) dX5_span_9 (fun r5 σ6 H locs hw hI hS => ?_)
  obtain ⟨hw, hq⟩ := hw
  rw [hq] at hI
  refine lv_istore (lv' := [(4, .int r5), (0, .ref (g.2.1 0)), (1, .int x1), (2, .int x2), (3, .int x3)]) hx hb dX5_span_12 hl (by decide) rfl (fun ls hl => ?_)
  refine lv_iload hx hb dX5_span_14 (lv_at hl 0 rfl) ?_
  refine lv_if_eq (tgt := 26) hx hb dX5_span_16 (by decide) (fun hc => ?_) (fun hc => ?_)
  · have hw := hw.1 hc
    refine lv_aload_n hx hb dX5_span_26 rfl (lv_at hl 1 rfl) ?_
    refine lv_iload_n hx hb dX5_span_27 rfl (lv_at hl 2 rfl) ?_
    refine gSi (cx_X5_platePoint l g (σ := σ) hw) (xMv g) ⟨hx, hb, hml, hown, hts⟩ (va_cwS 1 hts gX5_span_X5_platePoint rfl rfl rfl (by decide +kernel) ⟨Nat.le_of_ble_eq_true rfl, Nat.le_of_ble_eq_true rfl⟩) hI hS hl.1 rfl rfl (Nat.le_of_ble_eq_true rfl) dX5_span_28 (fun r7 σ8 H locs hw hI hS => ?_)
    obtain ⟨hw, hq⟩ := hw
    rw [hq] at hI
    refine lv_iload_n hx hb dX5_span_31 rfl (lv_at hl 3 rfl) ?_
    refine lv_iload_n hx hb dX5_span_32 rfl (lv_at hl 4 rfl) ?_
    refine gVi (cx_X5_endOfSpan l g (σ := σ) hw) (xMv g) ⟨hx, hb, hml, hown, hts⟩ (cwV 3 hts gX5_span_X5_endOfSpan rfl rfl rfl (by decide +kernel) ⟨Nat.le_of_ble_eq_true rfl, Nat.le_of_ble_eq_true rfl⟩) (xRecv_X5 hI) hI hS hl.1 rfl rfl (Nat.le_of_ble_eq_true rfl) dX5_span_33 (fun r9 σ10 H locs hw hI hS => ?_)
    exact hret _ _ _ _ _ _ dX5_span_36 hw hI hS
  have hw := hw.2 hc
  refine lv_aload_n hx hb dX5_span_19 rfl (lv_at hl 1 rfl) ?_
  refine lv_iload hx hb dX5_span_20 (lv_at hl 0 rfl) ?_
  refine gVi (cx_X5_refuse l g (σ := σ) hw) (xMv g) ⟨hx, hb, hml, hown, hts⟩ (cwV 1 hts gX5_span_X5_refuse rfl rfl rfl (by decide +kernel) ⟨Nat.le_of_ble_eq_true rfl, Nat.le_of_ble_eq_true rfl⟩) (xRecv_X5 hI) hI hS hl.1 rfl rfl (Nat.le_of_ble_eq_true rfl) dX5_span_22 (fun r11 σ12 H locs hw hI hS => ?_)
  exact hret _ _ _ _ _ _ dX5_span_25 hw hI hS
set_option maxRecDepth 100000 in
set_option maxHeartbeats 4000000 in
theorem cx_X5_times (l : Launch) (g : wG) {σ : wS} {x1 : Int32} {x2 : Int32} {x3 : Int32} {x4 : Int32} {Q : Int32 → wS → Prop} (hw : wx_X5_times Q x1 x2 x3 x4 σ) : Met l yX5_times wsX5_times ({ frames := 6, cells := 0, slots := 0, locals := 134 } : Room) (va_Pc [.ref (g.2.1 0), .int x1, .int x2, .int x3, .int x4] (fun U => xIn g σ U.heap U)) (va_Qi Q (fun σ1 t => xIn g σ1 t.heap t) (xA g)) 0 0 (xA g) := by
  refine gOfI (maxL := 6) (xMv g) (by decide) rfl (Nat.le_of_ble_eq_true rfl) ?_
  intro p e s m args below meth c QQ hx hb hml hown hts hret ls hl hI
  have hl : lv_has ls 6 [(0, .ref (g.2.1 0)), (1, .int x1), (2, .int x2), (3, .int x3), (4, .int x4)] := hl
  have hS : va_S (xA g) s.heap s.heap [] := va_S.rf
  refine lv_aload_n hx hb dX5_times_0 rfl (lv_at hl 0 rfl) ?_
  refine lv_iload_n hx hb dX5_times_1 rfl (lv_at hl 1 rfl) ?_
  refine gVi (cx_X5_isMotif l g (σ := σ) hw) (xMv g) ⟨hx, hb, hml, hown, hts⟩ (cwV 1 hts gX5_times_X5_isMotif rfl rfl rfl (by decide +kernel) ⟨Nat.le_of_ble_eq_true rfl, Nat.le_of_ble_eq_true rfl⟩) (xRecv_X5 hI) hI hS hl.1 rfl rfl (Nat.le_of_ble_eq_true rfl) dX5_times_2 (fun r1 σ2 H locs hw hI hS => ?_)
  obtain ⟨hw, hq⟩ := hw
  rw [hq] at hI
  refine lv_iload hx hb dX5_times_5 (lv_at hl 4 rfl) ?_
  refine gSi (cx_X5_isDay l g (σ := σ) hw) (xMv g) ⟨hx, hb, hml, hown, hts⟩ (va_cwS 1 hts gX5_times_X5_isDay rfl rfl rfl (by decide +kernel) ⟨Nat.le_of_ble_eq_true rfl, Nat.le_of_ble_eq_true rfl⟩) hI hS hl.1 rfl rfl (Nat.le_of_ble_eq_true rfl) dX5_times_7 (fun r3 σ4 H locs hw hI hS => ?_)
  obtain ⟨hw, hq⟩ := hw
  rw [hq] at hI
  refine gSi (cx_X5_whyNot l g (σ := σ) hw) (xMv g) ⟨hx, hb, hml, hown, hts⟩ (va_cwS 2 hts gX5_times_X5_whyNot rfl rfl rfl (by decide +kernel) ⟨Nat.le_of_ble_eq_true rfl, Nat.le_of_ble_eq_true rfl⟩) hI hS hl.1 rfl rfl (Nat.le_of_ble_eq_true rfl) dX5_times_10 (fun r5 σ6 H locs hw hI hS => ?_)
  obtain ⟨hw, hq⟩ := hw
  rw [hq] at hI
  refine lv_istore (lv' := [(5, .int r5), (0, .ref (g.2.1 0)), (1, .int x1), (2, .int x2), (3, .int x3), (4, .int x4)]) hx hb dX5_times_13 hl (by decide) rfl (fun ls hl => ?_)
  refine lv_iload hx hb dX5_times_15 (lv_at hl 0 rfl) ?_
  refine lv_if_eq (tgt := 27) hx hb dX5_times_17 (by decide) (fun hc => ?_) (fun hc => ?_)
  · have hw := hw.1 hc
    refine lv_aload_n hx hb dX5_times_27 rfl (lv_at hl 1 rfl) ?_
    refine lv_iload_n hx hb dX5_times_28 rfl (lv_at hl 2 rfl) ?_
    refine lv_iload_n hx hb dX5_times_29 rfl (lv_at hl 3 rfl) ?_
    refine gSi (cx_X5_motifPoint l g (σ := σ) hw) (xMv g) ⟨hx, hb, hml, hown, hts⟩ (va_cwS 2 hts gX5_times_X5_motifPoint rfl rfl rfl (by decide +kernel) ⟨Nat.le_of_ble_eq_true rfl, Nat.le_of_ble_eq_true rfl⟩) hI hS hl.1 rfl rfl (Nat.le_of_ble_eq_true rfl) dX5_times_30 (fun r7 σ8 H locs hw hI hS => ?_)
    obtain ⟨hw, hq⟩ := hw
    rw [hq] at hI
    refine lv_iload_n hx hb dX5_times_33 rfl (lv_at hl 4 rfl) ?_
    refine lv_iload hx hb dX5_times_34 (lv_at hl 5 rfl) ?_
    refine gVi (cx_X5_endOfSpan l g (σ := σ) hw) (xMv g) ⟨hx, hb, hml, hown, hts⟩ (cwV 3 hts gX5_times_X5_endOfSpan rfl rfl rfl (by decide +kernel) ⟨Nat.le_of_ble_eq_true rfl, Nat.le_of_ble_eq_true rfl⟩) (xRecv_X5 hI) hI hS hl.1 rfl rfl (Nat.le_of_ble_eq_true rfl) dX5_times_36 (fun r9 σ10 H locs hw hI hS => ?_)
    exact hret _ _ _ _ _ _ dX5_times_39 hw hI hS
  have hw := hw.2 hc
  refine lv_aload_n hx hb dX5_times_20 rfl (lv_at hl 1 rfl) ?_
  refine lv_iload hx hb dX5_times_21 (lv_at hl 0 rfl) ?_
  refine gVi (cx_X5_refuse l g (σ := σ) hw) (xMv g) ⟨hx, hb, hml, hown, hts⟩ (cwV 1 hts gX5_times_X5_refuse rfl rfl rfl (by decide +kernel) ⟨Nat.le_of_ble_eq_true rfl, Nat.le_of_ble_eq_true rfl⟩) (xRecv_X5 hI) hI hS hl.1 rfl rfl (Nat.le_of_ble_eq_true rfl) dX5_times_23 (fun r11 σ12 H locs hw hI hS => ?_)
  exact hret _ _ _ _ _ _ dX5_times_26 hw hI hS
set_option maxRecDepth 100000 in
set_option maxHeartbeats 4000000 in
theorem cx_X4_followLimits_earlier (l : Launch) (g : wG) {σ : wS} {x2 : Int32} {Q : Int32 → wS → Prop} (hw : wx_X4_followLimits_earlier Q x2 σ) : Met l yX4_followLimits wsX4_followLimits ({ frames := 0, cells := 0, slots := 0, locals := 0 } : Room) (va_Pc [.ref (g.2.1 5), .ref (g.2.1 33), .int x2] (fun U => xIn g σ U.heap U)) (va_Qi Q (fun σ1 t => xIn g σ1 t.heap t) (xA g)) 0 0 (xA g) := by
  refine gOfZ (maxL := 8) (xMv g) (by decide) rfl (Nat.le_of_ble_eq_true rfl) ?_
  intro p e s m args below meth c QQ hx hb hml hown hts hret ls hl hI
  have hl : lv_has ls 8 [(0, .ref (g.2.1 5)), (1, .ref (g.2.1 33)), (2, .int x2)] := hl
  have hS : va_S (xA g) s.heap s.heap [] := va_S.rf
  have hF : ∀ w ∈ wsX40, w.before args s = true := fun w h => hts w (List.mem_cons_of_mem _ (List.mem_append_right _ h))
  refine lv_iconst (v := 0) hx hb dX4_followLimits_0 (by decide) ?_
  refine lv_istore_n (lv' := [(3, .int 0), (0, .ref (g.2.1 5)), (1, .ref (g.2.1 33)), (2, .int x2)]) hx hb dX4_followLimits_1 rfl hl (by decide) rfl (fun ls hl => ?_)
  refine lv_iconst (v := 0) hx hb dX4_followLimits_2 (by decide) ?_
  refine lv_istore (lv' := [(4, .int 0), (3, .int 0), (0, .ref (g.2.1 5)), (1, .ref (g.2.1 33)), (2, .int x2)]) hx hb dX4_followLimits_3 hl (by decide) rfl (fun ls hl => ?_)
  obtain ⟨n5, hw⟩ := hw
  have key5 : ∀ (n : Nat) (x2 : Int32) (x3 : Int32) (x4 : Int32) (σ : wS) (H : Heap) (locs : List Loc) (ls : Array Slot), xIn g σ H s → va_S (xA g) s.heap H locs → lv_has ls 8 [(0, .ref (g.2.1 5)), (1, .ref (g.2.1 33)), (2, .int x2), (3, .int x3), (4, .int x4)] → wloop (wx_X4_followLimits_earlier_L5 Q x2) n (x3, x4, σ) → W p l e ({ frames := 0, cells := 0, slots := 0, locals := 0 } : Room) s m args below meth c H locs 0 0 QQ (F0 m 5 ls []) := by
    intro n
    induction n with
    | zero => intro x2 x3 x4 σ H locs ls hI hS hl hw; exact False.elim hw
    | succ n ih =>
      intro x2 x3 x4 σ H locs ls hI hS hl hw
      obtain ⟨K5, hK5⟩ : ∃ K, K = wloop (wx_X4_followLimits_earlier_L5 Q x2) n := ⟨_, rfl⟩
      have hw : wx_X4_followLimits_earlier_L5 Q x2 K5 (x3, x4, σ) := by rw [hK5]; exact hw
      dsimp only [wx_X4_followLimits_earlier_L5] at hw
      have ih5 := ih
      refine lv_iload hx hb dX4_followLimits_5 (lv_at hl 4 rfl) ?_
      refine lv_aload_n hx hb dX4_followLimits_7 rfl (lv_at hl 0 rfl) ?_
      refine xG_X4_limitCount hx hb hF hown hI (hts _ (List.mem_of_getElem? (i := 1) rfl : (Cond.fieldLink RX4 27 "PlateRoom$TimeGraph" "limitCount" "I" : Cond) ∈ wsX4_followLimits)) dX4_followLimits_8 ?_
      refine lv_icmp_ge (tgt := 99) hx hb dX4_followLimits_11 (by decide) (fun hc => ?_) (fun hc => ?_)
      · have hw := hw.1 hc
        refine lv_iload_n hx hb dX4_followLimits_99 rfl (lv_at hl 3 rfl) ?_
        exact hret _ _ _ _ _ _ dX4_followLimits_100 hw.1 hw.2 hI hS
      have hw := hw.2 hc
      refine lv_aload_n hx hb dX4_followLimits_14 rfl (lv_at hl 0 rfl) ?_
      refine xG_X4_tails hx hb hF hown hI (hts _ (List.mem_of_getElem? (i := 2) rfl : (Cond.fieldLink RX4 9 "PlateRoom$TimeGraph" "tails" "[I" : Cond) ∈ wsX4_followLimits)) dX4_followLimits_15 ?_
      refine lv_iload hx hb dX4_followLimits_18 (lv_at hl 4 rfl) ?_
      have hin := hw.1
      have hw := hw.2
      refine xR_X4_tails hx hb hI hin dX4_followLimits_20 ?_
      refine lv_topi (fun a1 ea1 => ?_)
      have hw := hw a1 ea1
      refine lv_istore (lv' := [(5, .int a1), (0, .ref (g.2.1 5)), (1, .ref (g.2.1 33)), (2, .int x2), (3, .int x3), (4, .int x4)]) hx hb dX4_followLimits_21 hl (by decide) rfl (fun ls hl => ?_)
      refine lv_aload_n hx hb dX4_followLimits_23 rfl (lv_at hl 1 rfl) ?_
      refine xG_X4_heads hx hb hF hown hI (hts _ (List.mem_of_getElem? (i := 3) rfl : (Cond.fieldLink RX4 15 "PlateRoom$TimeGraph" "heads" "[I" : Cond) ∈ wsX4_followLimits)) dX4_followLimits_24 ?_
      refine lv_iload hx hb dX4_followLimits_27 (lv_at hl 5 rfl) ?_
      have hin := hw.1
      have hw := hw.2
      refine xR_X4_heads hx hb hI hin dX4_followLimits_29 ?_
      refine lv_topi (fun a2 ea2 => ?_)
      have hw := hw a2 ea2
      refine lv_istore (lv' := [(6, .int a2), (5, .int a1), (0, .ref (g.2.1 5)), (1, .ref (g.2.1 33)), (2, .int x2), (3, .int x3), (4, .int x4)]) hx hb dX4_followLimits_30 hl (by decide) rfl (fun ls hl => ?_)
      refine lv_iload hx hb dX4_followLimits_32 (lv_at hl 1 rfl) ?_
      refine lv_iload_n hx hb dX4_followLimits_34 rfl (lv_at hl 4 rfl) ?_
      refine lv_icmp_lt (tgt := 93) hx hb dX4_followLimits_35 (by decide) (fun hc => ?_) (fun hc => ?_)
      · have hw := hw.1 hc
        obtain ⟨a3, ea3⟩ : ∃ y : Int32, y = x4 + 1 := ⟨_, rfl⟩
        have hw := hw a3 ea3
        refine lv_iinc (v := a3) (lv' := [(4, .int a3), (6, .int a2), (5, .int a1), (0, .ref (g.2.1 5)), (1, .ref (g.2.1 33)), (2, .int x2), (3, .int x3)]) hx hb dX4_followLimits_93 hl (k := 6) rfl (by rw [ea3]; rfl) (by decide) rfl (fun ls hl => ?_)
        refine lv_goto (tgt := 5) hx hb dX4_followLimits_96 (by decide) ?_
        rw [hK5] at hw
        exact ih5 _ _ _ _ _ _ _ hI hS (lv_sub hl [3, 4, 5, 6, 0] rfl) hw
      have hw := hw.2 hc
      refine lv_iload hx hb dX4_followLimits_38 (lv_at hl 0 rfl) ?_
      refine lv_iload_n hx hb dX4_followLimits_40 rfl (lv_at hl 4 rfl) ?_
      refine lv_icmp_lt (tgt := 93) hx hb dX4_followLimits_41 (by decide) (fun hc => ?_) (fun hc => ?_)
      · have hw := hw.1 hc
        obtain ⟨a4, ea4⟩ : ∃ y : Int32, y = x4 + 1 := ⟨_, rfl⟩
        have hw := hw a4 ea4
        refine lv_iinc (v := a4) (lv' := [(4, .int a4), (6, .int a2), (5, .int a1), (0, .ref (g.2.1 5)), (1, .ref (g.2.1 33)), (2, .int x2), (3, .int x3)]) hx hb dX4_followLimits_93 hl (k := 6) rfl (by rw [ea4]; rfl) (by decide) rfl (fun ls hl => ?_)
        refine lv_goto (tgt := 5) hx hb dX4_followLimits_96 (by decide) ?_
        rw [hK5] at hw
        exact ih5 _ _ _ _ _ _ _ hI hS (lv_sub hl [3, 4, 5, 6, 0] rfl) hw
      have hw := hw.2 hc
      refine lv_aload_n hx hb dX4_followLimits_44 rfl (lv_at hl 3 rfl) ?_
      refine lv_iload hx hb dX4_followLimits_45 (lv_at hl 1 rfl) ?_
      have hin := hw.1
      have hw := hw.2
      refine xR_X4_earlier hx hb hI hin dX4_followLimits_47 ?_
      refine lv_ldc (own := RX4) hx hb hown (hts _ (List.mem_of_getElem? (i := 4) rfl : (Cond.constant RX4 45 (536870912) : Cond) ∈ wsX4_followLimits)) dX4_followLimits_48 ?_
      refine lv_icmp_lt (tgt := 56) hx hb dX4_followLimits_50 (by decide) (fun hc => ?_) (fun hc => ?_)
      · have hw := hw.1 hc
        refine lv_aload_n hx hb dX4_followLimits_56 rfl (lv_at hl 3 rfl) ?_
        refine lv_iload hx hb dX4_followLimits_57 (lv_at hl 1 rfl) ?_
        have hin := hw.1
        have hw := hw.2
        refine xR_X4_earlier hx hb hI hin dX4_followLimits_59 ?_
        refine lv_aload_n hx hb dX4_followLimits_60 rfl (lv_at hl 2 rfl) ?_
        refine xG_X4_lengths hx hb hF hown hI (hts _ (List.mem_of_getElem? (i := 5) rfl : (Cond.fieldLink RX4 18 "PlateRoom$TimeGraph" "lengths" "[I" : Cond) ∈ wsX4_followLimits)) dX4_followLimits_61 ?_
        refine lv_iload hx hb dX4_followLimits_64 (lv_at hl 6 rfl) ?_
        have hin := hw.1
        have hw := hw.2
        refine xR_X4_lengths hx hb hI hin dX4_followLimits_66 ?_
        refine lv_iadd hx hb dX4_followLimits_67 ?_
        refine lv_topi (fun a5 ea5 => ?_)
        have hw := hw a5 ea5
        refine lv_istore (lv' := [(7, .int a5), (6, .int a2), (5, .int a1), (0, .ref (g.2.1 5)), (1, .ref (g.2.1 33)), (2, .int x2), (3, .int x3), (4, .int x4)]) hx hb dX4_followLimits_68 hl (by decide) rfl (fun ls hl => ?_)
        refine lv_iload hx hb dX4_followLimits_70 (lv_at hl 0 rfl) ?_
        refine lv_aload_n hx hb dX4_followLimits_72 rfl (lv_at hl 3 rfl) ?_
        refine xG_X4_ways hx hb hF hown hI (hts _ (List.mem_of_getElem? (i := 6) rfl : (Cond.fieldLink RX4 21 "PlateRoom$TimeGraph" "ways" "[I" : Cond) ∈ wsX4_followLimits)) dX4_followLimits_73 ?_
        refine lv_iload hx hb dX4_followLimits_76 (lv_at hl 1 rfl) ?_
        have hin := hw.1
        have hw := hw.2
        refine xR_X4_ways hx hb hI hin dX4_followLimits_78 ?_
        refine lv_icmp_ge (tgt := 93) hx hb dX4_followLimits_79 (by decide) (fun hc => ?_) (fun hc => ?_)
        · have hw := hw.1 hc
          obtain ⟨a6, ea6⟩ : ∃ y : Int32, y = x4 + 1 := ⟨_, rfl⟩
          have hw := hw a6 ea6
          refine lv_iinc (v := a6) (lv' := [(4, .int a6), (7, .int a5), (6, .int a2), (5, .int a1), (0, .ref (g.2.1 5)), (1, .ref (g.2.1 33)), (2, .int x2), (3, .int x3)]) hx hb dX4_followLimits_93 hl (k := 7) rfl (by rw [ea6]; rfl) (by decide) rfl (fun ls hl => ?_)
          refine lv_goto (tgt := 5) hx hb dX4_followLimits_96 (by decide) ?_
          rw [hK5] at hw
          exact ih5 _ _ _ _ _ _ _ hI hS (lv_sub hl [4, 5, 6, 7, 0] rfl) hw
        have hw := hw.2 hc
        refine lv_aload_n hx hb dX4_followLimits_82 rfl (lv_at hl 3 rfl) ?_
        refine xG_X4_ways hx hb hF hown hI (hts _ (List.mem_of_getElem? (i := 6) rfl : (Cond.fieldLink RX4 21 "PlateRoom$TimeGraph" "ways" "[I" : Cond) ∈ wsX4_followLimits)) dX4_followLimits_83 ?_
        refine lv_iload hx hb dX4_followLimits_86 (lv_at hl 1 rfl) ?_
        refine lv_iload hx hb dX4_followLimits_88 (lv_at hl 0 rfl) ?_
        have hin := hw.1
        have hw := hw.2
        refine xS_X4_ways hx hb hI hS hin dX4_followLimits_90 (fun σ7 eσ7 H locs hI hS => ?_)
        have hw := hw σ7 eσ7
        refine lv_iconst (v := 1) hx hb dX4_followLimits_91 (by decide) ?_
        refine lv_istore_n (lv' := [(3, .int 1), (7, .int a5), (6, .int a2), (5, .int a1), (0, .ref (g.2.1 5)), (1, .ref (g.2.1 33)), (2, .int x2), (4, .int x4)]) hx hb dX4_followLimits_92 rfl hl (by decide) rfl (fun ls hl => ?_)
        obtain ⟨a8, ea8⟩ : ∃ y : Int32, y = x4 + 1 := ⟨_, rfl⟩
        have hw := hw a8 ea8
        refine lv_iinc (v := a8) (lv' := [(4, .int a8), (3, .int 1), (7, .int a5), (6, .int a2), (5, .int a1), (0, .ref (g.2.1 5)), (1, .ref (g.2.1 33)), (2, .int x2)]) hx hb dX4_followLimits_93 hl (k := 7) rfl (by rw [ea8]; rfl) (by decide) rfl (fun ls hl => ?_)
        refine lv_goto (tgt := 5) hx hb dX4_followLimits_96 (by decide) ?_
        rw [hK5] at hw
        exact ih5 _ _ _ _ _ _ _ hI hS (lv_sub hl [5, 6, 7, 1, 0] rfl) hw
      have hw := hw.2 hc
      refine lv_goto (tgt := 93) hx hb dX4_followLimits_53 (by decide) ?_
      obtain ⟨a9, ea9⟩ : ∃ y : Int32, y = x4 + 1 := ⟨_, rfl⟩
      have hw := hw a9 ea9
      refine lv_iinc (v := a9) (lv' := [(4, .int a9), (6, .int a2), (5, .int a1), (0, .ref (g.2.1 5)), (1, .ref (g.2.1 33)), (2, .int x2), (3, .int x3)]) hx hb dX4_followLimits_93 hl (k := 6) rfl (by rw [ea9]; rfl) (by decide) rfl (fun ls hl => ?_)
      refine lv_goto (tgt := 5) hx hb dX4_followLimits_96 (by decide) ?_
      rw [hK5] at hw
      exact ih5 _ _ _ _ _ _ _ hI hS (lv_sub hl [3, 4, 5, 6, 0] rfl) hw
  exact key5 n5 _ _ _ _ _ _ _ hI hS (lv_sub hl [2, 3, 4, 1, 0] rfl) hw
set_option maxRecDepth 100000 in
set_option maxHeartbeats 4000000 in
theorem cx_X4_fewerLimitsThrough (l : Launch) (g : wG) {σ : wS} {x1 : Int32} {x2 : Int32} {Q : Int32 → wS → Prop} (hw : wx_X4_fewerLimitsThrough Q x1 x2 σ) : Met l yX4_fewerLimitsThrough wsX4_fewerLimitsThrough ({ frames := 4, cells := 0, slots := 0, locals := 89 } : Room) (va_Pc [.ref (g.2.1 5), .int x1, .int x2] (fun U => xIn g σ U.heap U)) (va_Qi Q (fun σ1 t => xIn g σ1 t.heap t) (xA g)) 0 0 (xA g) := by
  refine gOfI (maxL := 5) (xMv g) (by decide) rfl (Nat.le_of_ble_eq_true rfl) ?_
  intro p e s m args below meth c QQ hx hb hml hown hts hret ls hl hI
  have hl : lv_has ls 5 [(0, .ref (g.2.1 5)), (1, .int x1), (2, .int x2)] := hl
  have hS : va_S (xA g) s.heap s.heap [] := va_S.rf
  have hF : ∀ w ∈ wsX40, w.before args s = true := fun w h => hts w (List.mem_cons_of_mem _ (List.mem_append_right _ h))
  refine lv_aload_n hx hb dX4_fewerLimitsThrough_0 rfl (lv_at hl 0 rfl) ?_
  refine lv_iload_n hx hb dX4_fewerLimitsThrough_1 rfl (lv_at hl 1 rfl) ?_
  refine lv_iload_n hx hb dX4_fewerLimitsThrough_2 rfl (lv_at hl 1 rfl) ?_
  refine gVv (cx_X4_startAt l g (σ := σ) hw) (xMv g) ⟨hx, hb, hml, hown, hts⟩ (cwV 2 hts gX4_fewerLimitsThrough_X4_startAt rfl rfl rfl (by decide +kernel) ⟨Nat.le_of_ble_eq_true rfl, Nat.le_of_ble_eq_true rfl⟩) (xRecv_X4 hI) hI hS hl.1 rfl rfl (Nat.le_of_ble_eq_true rfl) dX4_fewerLimitsThrough_3 (fun σ1 H locs hw hI hS => ?_)
  refine lv_iload_n hx hb dX4_fewerLimitsThrough_6 rfl (lv_at hl 2 rfl) ?_
  refine lv_iconst (v := 1) hx hb dX4_fewerLimitsThrough_7 (by decide) ?_
  refine lv_isub hx hb dX4_fewerLimitsThrough_8 ?_
  refine lv_bipush (v := 53) hx hb dX4_fewerLimitsThrough_9 (by decide) ?_
  refine lv_iload_n hx hb dX4_fewerLimitsThrough_11 rfl (lv_at hl 1 rfl) ?_
  refine lv_isub hx hb dX4_fewerLimitsThrough_12 ?_
  refine va_mmin hx hb (hml.trans hl.1.symm) hown (hts _ (List.mem_of_getElem? (i := 1) rfl : (Cond.methodLink RX4 62 Lib.Math.min.name : Cond) ∈ wsX4_fewerLimitsThrough)) (hts _ (List.mem_of_getElem? (i := 2) rfl : (Cond.static Lib.Math.min.name : Cond) ∈ wsX4_fewerLimitsThrough)) (hts _ (List.mem_of_getElem? (i := 3) rfl : (Cond.initialized "java/lang/Math" : Cond) ∈ wsX4_fewerLimitsThrough)) (hts _ (List.mem_of_getElem? (i := 4) rfl : (Cond.code Lib.Math.min.name Lib.Math.min.code 2 (some .int) : Cond) ∈ wsX4_fewerLimitsThrough)) (Nat.le_of_ble_eq_true rfl) (Nat.le_of_ble_eq_true rfl) (Nat.zero_le _) (Nat.zero_le _) dX4_fewerLimitsThrough_13 ?_
  refine lv_topi (fun m2 em2 => ?_)
  have hw := hw m2 em2
  refine lv_istore_n (lv' := [(3, .int m2), (0, .ref (g.2.1 5)), (1, .int x1), (2, .int x2)]) hx hb dX4_fewerLimitsThrough_16 rfl hl (by decide) rfl (fun ls hl => ?_)
  refine lv_iconst (v := 1) hx hb dX4_fewerLimitsThrough_17 (by decide) ?_
  refine lv_istore (lv' := [(4, .int 1), (3, .int m2), (0, .ref (g.2.1 5)), (1, .int x1), (2, .int x2)]) hx hb dX4_fewerLimitsThrough_18 hl (by decide) rfl (fun ls hl => ?_)
  obtain ⟨n20, hw⟩ := hw
  have key20 : ∀ (n : Nat) (x1 : Int32) (x2 : Int32) (x3 : Int32) (x4 : Int32) (σ : wS) (H : Heap) (locs : List Loc) (ls : Array Slot), xIn g σ H s → va_S (xA g) s.heap H locs → lv_has ls 5 [(0, .ref (g.2.1 5)), (1, .int x1), (2, .int x2), (3, .int x3), (4, .int x4)] → wloop (wx_X4_fewerLimitsThrough_L20 Q x1 x2 x3) n (x4, σ) → W p l e ({ frames := 4, cells := 0, slots := 0, locals := 89 } : Room) s m args below meth c H locs 0 0 QQ (F0 m 20 ls []) := by
    intro n
    induction n with
    | zero => intro x1 x2 x3 x4 σ H locs ls hI hS hl hw; exact False.elim hw
    | succ n ih =>
      intro x1 x2 x3 x4 σ H locs ls hI hS hl hw
      obtain ⟨K20, hK20⟩ : ∃ K, K = wloop (wx_X4_fewerLimitsThrough_L20 Q x1 x2 x3) n := ⟨_, rfl⟩
      have hw : wx_X4_fewerLimitsThrough_L20 Q x1 x2 x3 K20 (x4, σ) := by rw [hK20]; exact hw
      dsimp only [wx_X4_fewerLimitsThrough_L20] at hw
      have ih20 := ih
      refine lv_iload hx hb dX4_fewerLimitsThrough_20 (lv_at hl 4 rfl) ?_
      refine lv_iload_n hx hb dX4_fewerLimitsThrough_22 rfl (lv_at hl 3 rfl) ?_
      refine lv_icmp_gt (tgt := 78) hx hb dX4_fewerLimitsThrough_23 (by decide) (fun hc => ?_) (fun hc => ?_)
      · have hw := hw.1 hc
        refine lv_iload_n hx hb dX4_fewerLimitsThrough_78 rfl (lv_at hl 2 rfl) ?_
        exact hret _ _ _ _ _ _ dX4_fewerLimitsThrough_79 hw hI hS
      have hw := hw.2 hc
      refine lv_aload_n hx hb dX4_fewerLimitsThrough_26 rfl (lv_at hl 0 rfl) ?_
      refine xG_X4_ways hx hb hF hown hI (hts _ (List.mem_of_getElem? (i := 5) rfl : (Cond.fieldLink RX4 21 "PlateRoom$TimeGraph" "ways" "[I" : Cond) ∈ wsX4_fewerLimitsThrough)) dX4_fewerLimitsThrough_27 ?_
      refine lv_iconst (v := 0) hx hb dX4_fewerLimitsThrough_30 (by decide) ?_
      refine lv_aload_n hx hb dX4_fewerLimitsThrough_31 rfl (lv_at hl 0 rfl) ?_
      refine xG_X4_earlier hx hb hF hown hI (hts _ (List.mem_of_getElem? (i := 6) rfl : (Cond.fieldLink RX4 24 "PlateRoom$TimeGraph" "earlier" "[I" : Cond) ∈ wsX4_fewerLimitsThrough)) dX4_fewerLimitsThrough_32 ?_
      refine lv_iconst (v := 0) hx hb dX4_fewerLimitsThrough_35 (by decide) ?_
      refine lv_bipush (v := 53) hx hb dX4_fewerLimitsThrough_36 (by decide) ?_
      refine xCpy_ways_earlier hx hb (hml.trans hl.1.symm) hown (hts _ (List.mem_of_getElem? (i := 7) rfl : (Cond.methodLink RX4 67 arraycopyName : Cond) ∈ wsX4_fewerLimitsThrough)) (hts _ (List.mem_of_getElem? (i := 8) rfl : (Cond.native arraycopyName : Cond) ∈ wsX4_fewerLimitsThrough)) (hts _ (List.mem_of_getElem? (i := 9) rfl : (Cond.static arraycopyName : Cond) ∈ wsX4_fewerLimitsThrough)) (hts _ (List.mem_of_getElem? (i := 10) rfl : (Cond.initialized "java/lang/System" : Cond) ∈ wsX4_fewerLimitsThrough)) hI hS (Nat.le_of_ble_eq_true rfl) (Nat.le_of_ble_eq_true rfl) dX4_fewerLimitsThrough_38 (fun σ1 eσ1 H locs hI hS => ?_)
      have hw := hw σ1 eσ1
      refine lv_aload_n hx hb dX4_fewerLimitsThrough_41 rfl (lv_at hl 0 rfl) ?_
      refine lv_aload_n hx hb dX4_fewerLimitsThrough_42 rfl (lv_at hl 0 rfl) ?_
      refine xG_X4_earlier hx hb hF hown hI (hts _ (List.mem_of_getElem? (i := 6) rfl : (Cond.fieldLink RX4 24 "PlateRoom$TimeGraph" "earlier" "[I" : Cond) ∈ wsX4_fewerLimitsThrough)) dX4_fewerLimitsThrough_43 ?_
      refine lv_iload_n hx hb dX4_fewerLimitsThrough_46 rfl (lv_at hl 1 rfl) ?_
      refine gVi (cx_X4_followLimits_earlier l g (σ := σ1) hw) (xMv g) ⟨hx, hb, hml, hown, hts⟩ (cwV 2 hts gX4_fewerLimitsThrough_X4_followLimits rfl rfl rfl (by decide +kernel) ⟨Nat.le_of_ble_eq_true rfl, Nat.le_of_ble_eq_true rfl⟩) (xRecv_X4 hI) hI hS hl.1 rfl rfl (Nat.le_of_ble_eq_true rfl) dX4_fewerLimitsThrough_47 (fun r2 σ3 H locs hw hI hS => ?_)
      refine lv_if_ne (tgt := 55) hx hb dX4_fewerLimitsThrough_50 (by decide) (fun hc => ?_) (fun hc => ?_)
      · have hw := hw.1 hc
        refine lv_aload_n hx hb dX4_fewerLimitsThrough_55 rfl (lv_at hl 0 rfl) ?_
        refine lv_iload_n hx hb dX4_fewerLimitsThrough_56 rfl (lv_at hl 1 rfl) ?_
        refine gVv (cx_X4_followBounds l g (σ := σ3) hw) (xMv g) ⟨hx, hb, hml, hown, hts⟩ (cwV 1 hts gX4_fewerLimitsThrough_X4_followBounds rfl rfl rfl (by decide +kernel) ⟨Nat.le_of_ble_eq_true rfl, Nat.le_of_ble_eq_true rfl⟩) (xRecv_X4 hI) hI hS hl.1 rfl rfl (Nat.le_of_ble_eq_true rfl) dX4_fewerLimitsThrough_57 (fun σ4 H locs hw hI hS => ?_)
        refine lv_aload_n hx hb dX4_fewerLimitsThrough_60 rfl (lv_at hl 0 rfl) ?_
        refine xG_X4_ways hx hb hF hown hI (hts _ (List.mem_of_getElem? (i := 5) rfl : (Cond.fieldLink RX4 21 "PlateRoom$TimeGraph" "ways" "[I" : Cond) ∈ wsX4_fewerLimitsThrough)) dX4_fewerLimitsThrough_61 ?_
        refine lv_iload_n hx hb dX4_fewerLimitsThrough_64 rfl (lv_at hl 1 rfl) ?_
        have hin := hw.1
        have hw := hw.2
        refine xR_X4_ways hx hb hI hin dX4_fewerLimitsThrough_65 ?_
        refine lv_if_ge (tgt := 72) hx hb dX4_fewerLimitsThrough_66 (by decide) (fun hc => ?_) (fun hc => ?_)
        · have hw := hw.1 hc
          obtain ⟨a5, ea5⟩ : ∃ y : Int32, y = x4 + 1 := ⟨_, rfl⟩
          have hw := hw a5 ea5
          refine lv_iinc (v := a5) (lv' := [(4, .int a5), (0, .ref (g.2.1 5)), (1, .int x1), (2, .int x2), (3, .int x3)]) hx hb dX4_fewerLimitsThrough_72 hl (k := 4) rfl (by rw [ea5]; rfl) (by decide) rfl (fun ls hl => ?_)
          refine lv_goto (tgt := 20) hx hb dX4_fewerLimitsThrough_75 (by decide) ?_
          rw [hK20] at hw
          exact ih20 _ _ _ _ _ _ _ _ hI hS (lv_sub hl [1, 2, 3, 4, 0] rfl) hw
        have hw := hw.2 hc
        refine lv_iload hx hb dX4_fewerLimitsThrough_69 (lv_at hl 4 rfl) ?_
        exact hret _ _ _ _ _ _ dX4_fewerLimitsThrough_71 hw hI hS
      have hw := hw.2 hc
      refine lv_iload_n hx hb dX4_fewerLimitsThrough_53 rfl (lv_at hl 2 rfl) ?_
      exact hret _ _ _ _ _ _ dX4_fewerLimitsThrough_54 hw hI hS
  exact key20 n20 _ _ _ _ _ _ _ _ hI hS (lv_sub hl [2, 3, 4, 1, 0] rfl) hw
set_option maxRecDepth 100000 in
set_option maxHeartbeats 4000000 in
theorem cx_X4_fewestLimits (l : Launch) (g : wG) {σ : wS} {Q : Int32 → wS → Prop} (hw : wx_X4_fewestLimits Q σ) : Met l yX4_fewestLimits wsX4_fewestLimits ({ frames := 5, cells := 0, slots := 0, locals := 113 } : Room) (va_Pc [.ref (g.2.1 5)] (fun U => xIn g σ U.heap U)) (va_Qi Q (fun σ1 t => xIn g σ1 t.heap t) (xA g)) 0 0 (xA g) := by
  refine gOfI (maxL := 3) (xMv g) (by decide) rfl (Nat.le_of_ble_eq_true rfl) ?_
  intro p e s m args below meth c QQ hx hb hml hown hts hret ls hl hI
  have hl : lv_has ls 3 [(0, .ref (g.2.1 5))] := hl
  have hS : va_S (xA g) s.heap s.heap [] := va_S.rf
  refine lv_bipush (v := 54) hx hb dX4_fewestLimits_0 (by decide) ?_
  refine lv_istore_n (lv' := [(1, .int 54), (0, .ref (g.2.1 5))]) hx hb dX4_fewestLimits_2 rfl hl (by decide) rfl (fun ls hl => ?_)
  refine lv_iconst (v := 0) hx hb dX4_fewestLimits_3 (by decide) ?_
  refine lv_istore_n (lv' := [(2, .int 0), (1, .int 54), (0, .ref (g.2.1 5))]) hx hb dX4_fewestLimits_4 rfl hl (by decide) rfl (fun ls hl => ?_)
  obtain ⟨n5, hw⟩ := hw
  have key5 : ∀ (n : Nat) (x1 : Int32) (x2 : Int32) (σ : wS) (H : Heap) (locs : List Loc) (ls : Array Slot), xIn g σ H s → va_S (xA g) s.heap H locs → lv_has ls 3 [(0, .ref (g.2.1 5)), (1, .int x1), (2, .int x2)] → wloop (wx_X4_fewestLimits_L5 Q) n (x1, x2, σ) → W p l e ({ frames := 5, cells := 0, slots := 0, locals := 113 } : Room) s m args below meth c H locs 0 0 QQ (F0 m 5 ls []) := by
    intro n
    induction n with
    | zero => intro x1 x2 σ H locs ls hI hS hl hw; exact False.elim hw
    | succ n ih =>
      intro x1 x2 σ H locs ls hI hS hl hw
      obtain ⟨K5, hK5⟩ : ∃ K, K = wloop (wx_X4_fewestLimits_L5 Q) n := ⟨_, rfl⟩
      have hw : wx_X4_fewestLimits_L5 Q K5 (x1, x2, σ) := by rw [hK5]; exact hw
      dsimp only [wx_X4_fewestLimits_L5] at hw
      have ih5 := ih
      refine lv_iload_n hx hb dX4_fewestLimits_5 rfl (lv_at hl 2 rfl) ?_
      refine lv_bipush (v := 21) hx hb dX4_fewestLimits_6 (by decide) ?_
      refine lv_icmp_ge (tgt := 24) hx hb dX4_fewestLimits_8 (by decide) (fun hc => ?_) (fun hc => ?_)
      · have hw := hw.1 hc
        refine lv_iload_n hx hb dX4_fewestLimits_24 rfl (lv_at hl 1 rfl) ?_
        exact hret _ _ _ _ _ _ dX4_fewestLimits_25 hw hI hS
      have hw := hw.2 hc
      refine lv_aload_n hx hb dX4_fewestLimits_11 rfl (lv_at hl 0 rfl) ?_
      refine lv_iload_n hx hb dX4_fewestLimits_12 rfl (lv_at hl 2 rfl) ?_
      refine lv_iload_n hx hb dX4_fewestLimits_13 rfl (lv_at hl 1 rfl) ?_
      refine gVi (cx_X4_fewerLimitsThrough l g (σ := σ) hw) (xMv g) ⟨hx, hb, hml, hown, hts⟩ (cwV 2 hts gX4_fewestLimits_X4_fewerLimitsThrough rfl rfl rfl (by decide +kernel) ⟨Nat.le_of_ble_eq_true rfl, Nat.le_of_ble_eq_true rfl⟩) (xRecv_X4 hI) hI hS hl.1 rfl rfl (Nat.le_of_ble_eq_true rfl) dX4_fewestLimits_14 (fun r1 σ2 H locs hw hI hS => ?_)
      refine lv_istore_n (lv' := [(1, .int r1), (0, .ref (g.2.1 5)), (2, .int x2)]) hx hb dX4_fewestLimits_17 rfl hl (by decide) rfl (fun ls hl => ?_)
      obtain ⟨a3, ea3⟩ : ∃ y : Int32, y = x2 + 1 := ⟨_, rfl⟩
      have hw := hw a3 ea3
      refine lv_iinc (v := a3) (lv' := [(2, .int a3), (1, .int r1), (0, .ref (g.2.1 5))]) hx hb dX4_fewestLimits_18 hl (k := 2) rfl (by rw [ea3]; rfl) (by decide) rfl (fun ls hl => ?_)
      refine lv_goto (tgt := 5) hx hb dX4_fewestLimits_21 (by decide) ?_
      rw [hK5] at hw
      exact ih5 _ _ _ _ _ _ hI hS (lv_sub hl [2, 1, 0] rfl) hw
  exact key5 n5 _ _ _ _ _ _ hI hS (lv_sub hl [2, 1, 0] rfl) hw
set_option maxRecDepth 100000 in
set_option maxHeartbeats 4000000 in
theorem cx_X5_quarrel (l : Launch) (g : wG) {σ : wS} {x1 : Int32} {Q : Int32 → wS → Prop} (hw : wx_X5_quarrel Q x1 σ) : Met l yX5_quarrel wsX5_quarrel ({ frames := 6, cells := 0, slots := 0, locals := 135 } : Room) (va_Pc [.ref (g.2.1 0), .int x1] (fun U => xIn g σ U.heap U)) (va_Qi Q (fun σ1 t => xIn g σ1 t.heap t) (xA g)) 0 0 (xA g) := by
  refine gOfI (maxL := 2) (xMv g) (by decide) rfl (Nat.le_of_ble_eq_true rfl) ?_
  intro p e s m args below meth c QQ hx hb hml hown hts hret ls hl hI
  have hl : lv_has ls 2 [(0, .ref (g.2.1 0)), (1, .int x1)] := hl
  have hS : va_S (xA g) s.heap s.heap [] := va_S.rf
  have hF : ∀ w ∈ wsX50, w.before args s = true := fun w h => hts w (List.mem_cons_of_mem _ (List.mem_append_left _ (List.mem_append_left _ (List.mem_append_right _ h))))
  refine lv_iload_n hx hb dX5_quarrel_0 rfl (lv_at hl 1 rfl) ?_
  refine gSi (cx_X5_isDay l g (σ := σ) hw) (xMv g) ⟨hx, hb, hml, hown, hts⟩ (va_cwS 1 hts gX5_quarrel_X5_isDay rfl rfl rfl (by decide +kernel) ⟨Nat.le_of_ble_eq_true rfl, Nat.le_of_ble_eq_true rfl⟩) hI hS hl.1 rfl rfl (Nat.le_of_ble_eq_true rfl) dX5_quarrel_1 (fun r1 σ2 H locs hw hI hS => ?_)
  obtain ⟨hw, hq⟩ := hw
  rw [hq] at hI
  refine lv_if_ne (tgt := 13) hx hb dX5_quarrel_4 (by decide) (fun hc => ?_) (fun hc => ?_)
  · have hw := hw.1 hc
    refine lv_aload_n hx hb dX5_quarrel_13 rfl (lv_at hl 0 rfl) ?_
    refine xG_X5_graph hx hb hF hown hI (hts _ (List.mem_of_getElem? (i := 1) rfl : (Cond.fieldLink RX5 19 "PlateRoom" "graph" "LPlateRoom$TimeGraph;" : Cond) ∈ wsX5_quarrel)) dX5_quarrel_14 ?_
    refine lv_aload_n hx hb dX5_quarrel_17 rfl (lv_at hl 0 rfl) ?_
    refine xG_X5_facts hx hb hF hown hI (hts _ (List.mem_of_getElem? (i := 2) rfl : (Cond.fieldLink RX5 12 "PlateRoom" "facts" "LPlateRoom$FactBook;" : Cond) ∈ wsX5_quarrel)) dX5_quarrel_18 ?_
    refine lv_iload_n hx hb dX5_quarrel_21 rfl (lv_at hl 1 rfl) ?_
    refine lv_iconst (v := (-1)) hx hb dX5_quarrel_22 (by decide) ?_
    refine gVv (cx_X4_gather l g (σ := σ) hw) (xMv g) ⟨hx, hb, hml, hown, hts⟩ (cwV 3 hts gX5_quarrel_X4_gather rfl rfl rfl (by decide +kernel) ⟨Nat.le_of_ble_eq_true rfl, Nat.le_of_ble_eq_true rfl⟩) (xRecv_X4 hI) hI hS hl.1 rfl rfl (Nat.le_of_ble_eq_true rfl) dX5_quarrel_23 (fun σ3 H locs hw hI hS => ?_)
    refine lv_aload_n hx hb dX5_quarrel_26 rfl (lv_at hl 0 rfl) ?_
    refine xG_X5_graph hx hb hF hown hI (hts _ (List.mem_of_getElem? (i := 1) rfl : (Cond.fieldLink RX5 19 "PlateRoom" "graph" "LPlateRoom$TimeGraph;" : Cond) ∈ wsX5_quarrel)) dX5_quarrel_27 ?_
    refine lv_iconst (v := 0) hx hb dX5_quarrel_30 (by decide) ?_
    refine gVi (cx_X4_measureFrom l g (σ := σ3) hw) (xMv g) ⟨hx, hb, hml, hown, hts⟩ (cwV 1 hts gX5_quarrel_X4_measureFrom rfl rfl rfl (by decide +kernel) ⟨Nat.le_of_ble_eq_true rfl, Nat.le_of_ble_eq_true rfl⟩) (xRecv_X4 hI) hI hS hl.1 rfl rfl (Nat.le_of_ble_eq_true rfl) dX5_quarrel_31 (fun r4 σ5 H locs hw hI hS => ?_)
    refine lv_if_eq (tgt := 44) hx hb dX5_quarrel_34 (by decide) (fun hc => ?_) (fun hc => ?_)
    · have hw := hw.1 hc
      refine lv_aload_n hx hb dX5_quarrel_44 rfl (lv_at hl 0 rfl) ?_
      refine lv_aload_n hx hb dX5_quarrel_45 rfl (lv_at hl 0 rfl) ?_
      refine xG_X5_graph hx hb hF hown hI (hts _ (List.mem_of_getElem? (i := 1) rfl : (Cond.fieldLink RX5 19 "PlateRoom" "graph" "LPlateRoom$TimeGraph;" : Cond) ∈ wsX5_quarrel)) dX5_quarrel_46 ?_
      refine gVi (cx_X4_fewestLimits l g (σ := σ5) hw) (xMv g) ⟨hx, hb, hml, hown, hts⟩ (cwV 0 hts gX5_quarrel_X4_fewestLimits rfl rfl rfl (by decide +kernel) ⟨Nat.le_of_ble_eq_true rfl, Nat.le_of_ble_eq_true rfl⟩) (xRecv_X4 hI) hI hS hl.1 rfl rfl (Nat.le_of_ble_eq_true rfl) dX5_quarrel_49 (fun r6 σ7 H locs hw hI hS => ?_)
      refine gVi (cx_X5_answer l g (σ := σ7) hw) (xMv g) ⟨hx, hb, hml, hown, hts⟩ (cwV 1 hts gX5_quarrel_X5_answer rfl rfl rfl (by decide +kernel) ⟨Nat.le_of_ble_eq_true rfl, Nat.le_of_ble_eq_true rfl⟩) (xRecv_X5 hI) hI hS hl.1 rfl rfl (Nat.le_of_ble_eq_true rfl) dX5_quarrel_52 (fun r8 σ9 H locs hw hI hS => ?_)
      exact hret _ _ _ _ _ _ dX5_quarrel_55 hw hI hS
    have hw := hw.2 hc
    refine lv_aload_n hx hb dX5_quarrel_37 rfl (lv_at hl 0 rfl) ?_
    refine lv_bipush (v := 6) hx hb dX5_quarrel_38 (by decide) ?_
    refine gVi (cx_X5_refuse l g (σ := σ5) hw) (xMv g) ⟨hx, hb, hml, hown, hts⟩ (cwV 1 hts gX5_quarrel_X5_refuse rfl rfl rfl (by decide +kernel) ⟨Nat.le_of_ble_eq_true rfl, Nat.le_of_ble_eq_true rfl⟩) (xRecv_X5 hI) hI hS hl.1 rfl rfl (Nat.le_of_ble_eq_true rfl) dX5_quarrel_40 (fun r10 σ11 H locs hw hI hS => ?_)
    exact hret _ _ _ _ _ _ dX5_quarrel_43 hw hI hS
  have hw := hw.2 hc
  refine lv_aload_n hx hb dX5_quarrel_7 rfl (lv_at hl 0 rfl) ?_
  refine lv_iconst (v := 2) hx hb dX5_quarrel_8 (by decide) ?_
  refine gVi (cx_X5_refuse l g (σ := σ) hw) (xMv g) ⟨hx, hb, hml, hown, hts⟩ (cwV 1 hts gX5_quarrel_X5_refuse rfl rfl rfl (by decide +kernel) ⟨Nat.le_of_ble_eq_true rfl, Nat.le_of_ble_eq_true rfl⟩) (xRecv_X5 hI) hI hS hl.1 rfl rfl (Nat.le_of_ble_eq_true rfl) dX5_quarrel_9 (fun r12 σ13 H locs hw hI hS => ?_)
  exact hret _ _ _ _ _ _ dX5_quarrel_12 hw hI hS
set_option maxRecDepth 100000 in
set_option maxHeartbeats 4000000 in
theorem cx_X5_frees (l : Launch) (g : wG) {σ : wS} {x1 : Int32} {x2 : Int32} {Q : Int32 → wS → Prop} (hw : wx_X5_frees Q x1 x2 σ) : Met l yX5_frees wsX5_frees ({ frames := 5, cells := 0, slots := 0, locals := 111 } : Room) (va_Pc [.ref (g.2.1 0), .int x1, .int x2] (fun U => xIn g σ U.heap U)) (va_Qi Q (fun σ1 t => xIn g σ1 t.heap t) (xA g)) 0 0 (xA g) := by
  refine gOfI (maxL := 4) (xMv g) (by decide) rfl (Nat.le_of_ble_eq_true rfl) ?_
  intro p e s m args below meth c QQ hx hb hml hown hts hret ls hl hI
  have hl : lv_has ls 4 [(0, .ref (g.2.1 0)), (1, .int x1), (2, .int x2)] := hl
  have hS : va_S (xA g) s.heap s.heap [] := va_S.rf
  have hF : ∀ w ∈ wsX50, w.before args s = true := fun w h => hts w (List.mem_cons_of_mem _ (List.mem_append_left _ (List.mem_append_left _ (List.mem_append_right _ h))))
  refine lv_aload_n hx hb dX5_frees_0 rfl (lv_at hl 0 rfl) ?_
  refine xG_X5_facts hx hb hF hown hI (hts _ (List.mem_of_getElem? (i := 1) rfl : (Cond.fieldLink RX5 12 "PlateRoom" "facts" "LPlateRoom$FactBook;" : Cond) ∈ wsX5_frees)) dX5_frees_1 ?_
  refine lv_iload_n hx hb dX5_frees_4 rfl (lv_at hl 1 rfl) ?_
  refine gVi (cx_X2_has l g (σ := σ) hw) (xMv g) ⟨hx, hb, hml, hown, hts⟩ (cwV 1 hts gX5_frees_X2_has rfl rfl rfl (by decide +kernel) ⟨Nat.le_of_ble_eq_true rfl, Nat.le_of_ble_eq_true rfl⟩) (xRecv_X2 hI) hI hS hl.1 rfl rfl (Nat.le_of_ble_eq_true rfl) dX5_frees_5 (fun r1 σ2 H locs hw hI hS => ?_)
  obtain ⟨hw, hq⟩ := hw
  rw [hq] at hI
  refine lv_iload_n hx hb dX5_frees_8 rfl (lv_at hl 2 rfl) ?_
  refine gSi (cx_X5_isDay l g (σ := σ) hw) (xMv g) ⟨hx, hb, hml, hown, hts⟩ (va_cwS 1 hts gX5_frees_X5_isDay rfl rfl rfl (by decide +kernel) ⟨Nat.le_of_ble_eq_true rfl, Nat.le_of_ble_eq_true rfl⟩) hI hS hl.1 rfl rfl (Nat.le_of_ble_eq_true rfl) dX5_frees_9 (fun r3 σ4 H locs hw hI hS => ?_)
  obtain ⟨hw, hq⟩ := hw
  rw [hq] at hI
  refine gSi (cx_X5_whyNot l g (σ := σ) hw) (xMv g) ⟨hx, hb, hml, hown, hts⟩ (va_cwS 2 hts gX5_frees_X5_whyNot rfl rfl rfl (by decide +kernel) ⟨Nat.le_of_ble_eq_true rfl, Nat.le_of_ble_eq_true rfl⟩) hI hS hl.1 rfl rfl (Nat.le_of_ble_eq_true rfl) dX5_frees_12 (fun r5 σ6 H locs hw hI hS => ?_)
  obtain ⟨hw, hq⟩ := hw
  rw [hq] at hI
  refine lv_istore_n (lv' := [(3, .int r5), (0, .ref (g.2.1 0)), (1, .int x1), (2, .int x2)]) hx hb dX5_frees_15 rfl hl (by decide) rfl (fun ls hl => ?_)
  refine lv_iload_n hx hb dX5_frees_16 rfl (lv_at hl 0 rfl) ?_
  refine lv_if_eq (tgt := 26) hx hb dX5_frees_17 (by decide) (fun hc => ?_) (fun hc => ?_)
  · have hw := hw.1 hc
    refine lv_aload_n hx hb dX5_frees_26 rfl (lv_at hl 1 rfl) ?_
    refine xG_X5_graph hx hb hF hown hI (hts _ (List.mem_of_getElem? (i := 2) rfl : (Cond.fieldLink RX5 19 "PlateRoom" "graph" "LPlateRoom$TimeGraph;" : Cond) ∈ wsX5_frees)) dX5_frees_27 ?_
    refine lv_aload_n hx hb dX5_frees_30 rfl (lv_at hl 1 rfl) ?_
    refine xG_X5_facts hx hb hF hown hI (hts _ (List.mem_of_getElem? (i := 1) rfl : (Cond.fieldLink RX5 12 "PlateRoom" "facts" "LPlateRoom$FactBook;" : Cond) ∈ wsX5_frees)) dX5_frees_31 ?_
    refine lv_iload_n hx hb dX5_frees_34 rfl (lv_at hl 3 rfl) ?_
    refine lv_iconst (v := (-1)) hx hb dX5_frees_35 (by decide) ?_
    refine gVv (cx_X4_gather l g (σ := σ) hw) (xMv g) ⟨hx, hb, hml, hown, hts⟩ (cwV 3 hts gX5_frees_X4_gather rfl rfl rfl (by decide +kernel) ⟨Nat.le_of_ble_eq_true rfl, Nat.le_of_ble_eq_true rfl⟩) (xRecv_X4 hI) hI hS hl.1 rfl rfl (Nat.le_of_ble_eq_true rfl) dX5_frees_36 (fun σ7 H locs hw hI hS => ?_)
    refine lv_aload_n hx hb dX5_frees_39 rfl (lv_at hl 1 rfl) ?_
    refine xG_X5_graph hx hb hF hown hI (hts _ (List.mem_of_getElem? (i := 2) rfl : (Cond.fieldLink RX5 19 "PlateRoom" "graph" "LPlateRoom$TimeGraph;" : Cond) ∈ wsX5_frees)) dX5_frees_40 ?_
    refine lv_iconst (v := 0) hx hb dX5_frees_43 (by decide) ?_
    refine gVi (cx_X4_measureFrom l g (σ := σ7) hw) (xMv g) ⟨hx, hb, hml, hown, hts⟩ (cwV 1 hts gX5_frees_X4_measureFrom rfl rfl rfl (by decide +kernel) ⟨Nat.le_of_ble_eq_true rfl, Nat.le_of_ble_eq_true rfl⟩) (xRecv_X4 hI) hI hS hl.1 rfl rfl (Nat.le_of_ble_eq_true rfl) dX5_frees_44 (fun r8 σ9 H locs hw hI hS => ?_)
    refine lv_if_eq (tgt := 57) hx hb dX5_frees_47 (by decide) (fun hc => ?_) (fun hc => ?_)
    · have hw := hw.1 hc
      refine lv_aload_n hx hb dX5_frees_57 rfl (lv_at hl 1 rfl) ?_
      refine xG_X5_facts hx hb hF hown hI (hts _ (List.mem_of_getElem? (i := 1) rfl : (Cond.fieldLink RX5 12 "PlateRoom" "facts" "LPlateRoom$FactBook;" : Cond) ∈ wsX5_frees)) dX5_frees_58 ?_
      refine lv_iload_n hx hb dX5_frees_61 rfl (lv_at hl 2 rfl) ?_
      refine lv_iload_n hx hb dX5_frees_62 rfl (lv_at hl 3 rfl) ?_
      refine gVi (cx_X2_isKnown l g (σ := σ9) hw) (xMv g) ⟨hx, hb, hml, hown, hts⟩ (cwV 2 hts gX5_frees_X2_isKnown rfl rfl rfl (by decide +kernel) ⟨Nat.le_of_ble_eq_true rfl, Nat.le_of_ble_eq_true rfl⟩) (xRecv_X2 hI) hI hS hl.1 rfl rfl (Nat.le_of_ble_eq_true rfl) dX5_frees_63 (fun r10 σ11 H locs hw hI hS => ?_)
      obtain ⟨hw, hq⟩ := hw
      rw [hq] at hI
      refine lv_if_ne (tgt := 76) hx hb dX5_frees_66 (by decide) (fun hc => ?_) (fun hc => ?_)
      · have hw := hw.1 hc
        refine lv_aload_n hx hb dX5_frees_76 rfl (lv_at hl 1 rfl) ?_
        refine xG_X5_graph hx hb hF hown hI (hts _ (List.mem_of_getElem? (i := 2) rfl : (Cond.fieldLink RX5 19 "PlateRoom" "graph" "LPlateRoom$TimeGraph;" : Cond) ∈ wsX5_frees)) dX5_frees_77 ?_
        refine lv_aload_n hx hb dX5_frees_80 rfl (lv_at hl 1 rfl) ?_
        refine xG_X5_facts hx hb hF hown hI (hts _ (List.mem_of_getElem? (i := 1) rfl : (Cond.fieldLink RX5 12 "PlateRoom" "facts" "LPlateRoom$FactBook;" : Cond) ∈ wsX5_frees)) dX5_frees_81 ?_
        refine lv_iload_n hx hb dX5_frees_84 rfl (lv_at hl 3 rfl) ?_
        refine lv_iload_n hx hb dX5_frees_85 rfl (lv_at hl 2 rfl) ?_
        refine gVv (cx_X4_gather l g (σ := σ9) hw) (xMv g) ⟨hx, hb, hml, hown, hts⟩ (cwV 3 hts gX5_frees_X4_gather rfl rfl rfl (by decide +kernel) ⟨Nat.le_of_ble_eq_true rfl, Nat.le_of_ble_eq_true rfl⟩) (xRecv_X4 hI) hI hS hl.1 rfl rfl (Nat.le_of_ble_eq_true rfl) dX5_frees_86 (fun σ12 H locs hw hI hS => ?_)
        refine lv_aload_n hx hb dX5_frees_89 rfl (lv_at hl 1 rfl) ?_
        refine lv_aload_n hx hb dX5_frees_90 rfl (lv_at hl 1 rfl) ?_
        refine xG_X5_graph hx hb hF hown hI (hts _ (List.mem_of_getElem? (i := 2) rfl : (Cond.fieldLink RX5 19 "PlateRoom" "graph" "LPlateRoom$TimeGraph;" : Cond) ∈ wsX5_frees)) dX5_frees_91 ?_
        refine lv_iconst (v := 0) hx hb dX5_frees_94 (by decide) ?_
        refine gVi (cx_X4_measureFrom l g (σ := σ12) hw) (xMv g) ⟨hx, hb, hml, hown, hts⟩ (cwV 1 hts gX5_frees_X4_measureFrom rfl rfl rfl (by decide +kernel) ⟨Nat.le_of_ble_eq_true rfl, Nat.le_of_ble_eq_true rfl⟩) (xRecv_X4 hI) hI hS hl.1 rfl rfl (Nat.le_of_ble_eq_true rfl) dX5_frees_95 (fun r13 σ14 H locs hw hI hS => ?_)
        refine lv_if_eq (tgt := 105) hx hb dX5_frees_98 (by decide) (fun hc => ?_) (fun hc => ?_)
        · have hw := hw.1 hc
          refine lv_iconst (v := 0) hx hb dX5_frees_105 (by decide) ?_
          refine gVi (cx_X5_answer l g (σ := σ14) hw) (xMv g) ⟨hx, hb, hml, hown, hts⟩ (cwV 1 hts gX5_frees_X5_answer rfl rfl rfl (by decide +kernel) ⟨Nat.le_of_ble_eq_true rfl, Nat.le_of_ble_eq_true rfl⟩) (xRecv_X5 hI) hI hS hl.1 rfl rfl (Nat.le_of_ble_eq_true rfl) dX5_frees_106 (fun r15 σ16 H locs hw hI hS => ?_)
          exact hret _ _ _ _ _ _ dX5_frees_109 hw hI hS
        have hw := hw.2 hc
        refine lv_iconst (v := 1) hx hb dX5_frees_101 (by decide) ?_
        refine lv_goto (tgt := 106) hx hb dX5_frees_102 (by decide) ?_
        refine gVi (cx_X5_answer l g (σ := σ14) hw) (xMv g) ⟨hx, hb, hml, hown, hts⟩ (cwV 1 hts gX5_frees_X5_answer rfl rfl rfl (by decide +kernel) ⟨Nat.le_of_ble_eq_true rfl, Nat.le_of_ble_eq_true rfl⟩) (xRecv_X5 hI) hI hS hl.1 rfl rfl (Nat.le_of_ble_eq_true rfl) dX5_frees_106 (fun r17 σ18 H locs hw hI hS => ?_)
        exact hret _ _ _ _ _ _ dX5_frees_109 hw hI hS
      have hw := hw.2 hc
      refine lv_aload_n hx hb dX5_frees_69 rfl (lv_at hl 1 rfl) ?_
      refine lv_bipush (v := 8) hx hb dX5_frees_70 (by decide) ?_
      refine gVi (cx_X5_refuse l g (σ := σ9) hw) (xMv g) ⟨hx, hb, hml, hown, hts⟩ (cwV 1 hts gX5_frees_X5_refuse rfl rfl rfl (by decide +kernel) ⟨Nat.le_of_ble_eq_true rfl, Nat.le_of_ble_eq_true rfl⟩) (xRecv_X5 hI) hI hS hl.1 rfl rfl (Nat.le_of_ble_eq_true rfl) dX5_frees_72 (fun r19 σ20 H locs hw hI hS => ?_)
      exact hret _ _ _ _ _ _ dX5_frees_75 hw hI hS
    have hw := hw.2 hc
    refine lv_aload_n hx hb dX5_frees_50 rfl (lv_at hl 1 rfl) ?_
    refine lv_bipush (v := 6) hx hb dX5_frees_51 (by decide) ?_
    refine gVi (cx_X5_refuse l g (σ := σ9) hw) (xMv g) ⟨hx, hb, hml, hown, hts⟩ (cwV 1 hts gX5_frees_X5_refuse rfl rfl rfl (by decide +kernel) ⟨Nat.le_of_ble_eq_true rfl, Nat.le_of_ble_eq_true rfl⟩) (xRecv_X5 hI) hI hS hl.1 rfl rfl (Nat.le_of_ble_eq_true rfl) dX5_frees_53 (fun r21 σ22 H locs hw hI hS => ?_)
    exact hret _ _ _ _ _ _ dX5_frees_56 hw hI hS
  have hw := hw.2 hc
  refine lv_aload_n hx hb dX5_frees_20 rfl (lv_at hl 1 rfl) ?_
  refine lv_iload_n hx hb dX5_frees_21 rfl (lv_at hl 0 rfl) ?_
  refine gVi (cx_X5_refuse l g (σ := σ) hw) (xMv g) ⟨hx, hb, hml, hown, hts⟩ (cwV 1 hts gX5_frees_X5_refuse rfl rfl rfl (by decide +kernel) ⟨Nat.le_of_ble_eq_true rfl, Nat.le_of_ble_eq_true rfl⟩) (xRecv_X5 hI) hI hS hl.1 rfl rfl (Nat.le_of_ble_eq_true rfl) dX5_frees_22 (fun r23 σ24 H locs hw hI hS => ?_)
  exact hret _ _ _ _ _ _ dX5_frees_25 hw hI hS
set_option maxRecDepth 100000 in
set_option maxHeartbeats 4000000 in
theorem cx_X5_order (l : Launch) (g : wG) {σ : wS} {x1 : Int32} {x2 : Int32} {x3 : Int32} {Q : Int32 → wS → Prop} (hw : wx_X5_order Q x1 x2 x3 σ) : Met l yX5_order wsX5_order ({ frames := 5, cells := 0, slots := 0, locals := 111 } : Room) (va_Pc [.ref (g.2.1 0), .int x1, .int x2, .int x3] (fun U => xIn g σ U.heap U)) (va_Qi Q (fun σ1 t => xIn g σ1 t.heap t) (xA g)) 0 0 (xA g) := by
  refine gOfI (maxL := 6) (xMv g) (by decide) rfl (Nat.le_of_ble_eq_true rfl) ?_
  intro p e s m args below meth c QQ hx hb hml hown hts hret ls hl hI
  have hl : lv_has ls 6 [(0, .ref (g.2.1 0)), (1, .int x1), (2, .int x2), (3, .int x3)] := hl
  have hS : va_S (xA g) s.heap s.heap [] := va_S.rf
  have hF : ∀ w ∈ wsX50, w.before args s = true := fun w h => hts w (List.mem_cons_of_mem _ (List.mem_append_left _ (List.mem_append_left _ (List.mem_append_right _ h))))
  have j113 : ∀ (s0 : Int32) (σ : wS) (H : Heap) (locs : List Loc) (ls : Array Slot), xIn g σ H s → va_S (xA g) s.heap H locs → lv_has ls 6 [(0, .ref (g.2.1 0))] → wx_X5_order_J113 Q s0 σ → W p l e ({ frames := 5, cells := 0, slots := 0, locals := 111 } : Room) s m args below meth c H locs 0 0 QQ (F0 m 113 ls [.int s0]) := by
    intro s0 σ H locs ls hI hS hl hw
    refine lv_istore (lv' := [(5, .int s0), (0, .ref (g.2.1 0))]) hx hb dX5_order_113 hl (by decide) rfl (fun ls hl => ?_)
    refine lv_aload_n hx hb dX5_order_115 rfl (lv_at hl 1 rfl) ?_
    refine lv_iload hx hb dX5_order_116 (lv_at hl 0 rfl) ?_
    refine lv_if_eq (tgt := 125) hx hb dX5_order_118 (by decide) (fun hc => ?_) (fun hc => ?_)
    · have hw := hw.1 hc
      refine lv_iconst (v := 0) hx hb dX5_order_125 (by decide) ?_
      refine gVi (cx_X5_answer l g (σ := σ) hw) (xMv g) ⟨hx, hb, hml, hown, hts⟩ (cwV 1 hts gX5_order_X5_answer rfl rfl rfl (by decide +kernel) ⟨Nat.le_of_ble_eq_true rfl, Nat.le_of_ble_eq_true rfl⟩) (xRecv_X5 hI) hI hS hl.1 rfl rfl (Nat.le_of_ble_eq_true rfl) dX5_order_126 (fun r1 σ2 H locs hw hI hS => ?_)
      exact hret _ _ _ _ _ _ dX5_order_129 hw hI hS
    have hw := hw.2 hc
    refine lv_iconst (v := 1) hx hb dX5_order_121 (by decide) ?_
    refine lv_goto (tgt := 126) hx hb dX5_order_122 (by decide) ?_
    refine gVi (cx_X5_answer l g (σ := σ) hw) (xMv g) ⟨hx, hb, hml, hown, hts⟩ (cwV 1 hts gX5_order_X5_answer rfl rfl rfl (by decide +kernel) ⟨Nat.le_of_ble_eq_true rfl, Nat.le_of_ble_eq_true rfl⟩) (xRecv_X5 hI) hI hS hl.1 rfl rfl (Nat.le_of_ble_eq_true rfl) dX5_order_126 (fun r3 σ4 H locs hw hI hS => ?_)
    exact hret _ _ _ _ _ _ dX5_order_129 hw hI hS
  have j112 : ∀ (σ : wS) (H : Heap) (locs : List Loc) (ls : Array Slot), xIn g σ H s → va_S (xA g) s.heap H locs → lv_has ls 6 [(0, .ref (g.2.1 0))] → wx_X5_order_J112 Q σ → W p l e ({ frames := 5, cells := 0, slots := 0, locals := 111 } : Room) s m args below meth c H locs 0 0 QQ (F0 m 112 ls []) := by
    intro  σ H locs ls hI hS hl hw
    refine lv_iconst (v := 0) hx hb dX5_order_112 (by decide) ?_
    exact j113 _ _ _ _ _ hI hS (lv_sub hl [0] rfl) hw
  refine lv_aload_n hx hb dX5_order_0 rfl (lv_at hl 0 rfl) ?_
  refine lv_iload_n hx hb dX5_order_1 rfl (lv_at hl 1 rfl) ?_
  refine lv_iload_n hx hb dX5_order_2 rfl (lv_at hl 2 rfl) ?_
  refine gVi (cx_X5_areTwoPlates l g (σ := σ) hw) (xMv g) ⟨hx, hb, hml, hown, hts⟩ (cwV 2 hts gX5_order_X5_areTwoPlates rfl rfl rfl (by decide +kernel) ⟨Nat.le_of_ble_eq_true rfl, Nat.le_of_ble_eq_true rfl⟩) (xRecv_X5 hI) hI hS hl.1 rfl rfl (Nat.le_of_ble_eq_true rfl) dX5_order_3 (fun r1 σ2 H locs hw hI hS => ?_)
  obtain ⟨hw, hq⟩ := hw
  rw [hq] at hI
  refine lv_iload_n hx hb dX5_order_6 rfl (lv_at hl 3 rfl) ?_
  refine gSi (cx_X5_isDay l g (σ := σ) hw) (xMv g) ⟨hx, hb, hml, hown, hts⟩ (va_cwS 1 hts gX5_order_X5_isDay rfl rfl rfl (by decide +kernel) ⟨Nat.le_of_ble_eq_true rfl, Nat.le_of_ble_eq_true rfl⟩) hI hS hl.1 rfl rfl (Nat.le_of_ble_eq_true rfl) dX5_order_7 (fun r3 σ4 H locs hw hI hS => ?_)
  obtain ⟨hw, hq⟩ := hw
  rw [hq] at hI
  refine gSi (cx_X5_whyNot l g (σ := σ) hw) (xMv g) ⟨hx, hb, hml, hown, hts⟩ (va_cwS 2 hts gX5_order_X5_whyNot rfl rfl rfl (by decide +kernel) ⟨Nat.le_of_ble_eq_true rfl, Nat.le_of_ble_eq_true rfl⟩) hI hS hl.1 rfl rfl (Nat.le_of_ble_eq_true rfl) dX5_order_10 (fun r5 σ6 H locs hw hI hS => ?_)
  obtain ⟨hw, hq⟩ := hw
  rw [hq] at hI
  refine lv_istore (lv' := [(4, .int r5), (0, .ref (g.2.1 0)), (1, .int x1), (2, .int x2), (3, .int x3)]) hx hb dX5_order_13 hl (by decide) rfl (fun ls hl => ?_)
  refine lv_iload hx hb dX5_order_15 (lv_at hl 0 rfl) ?_
  refine lv_if_eq (tgt := 27) hx hb dX5_order_17 (by decide) (fun hc => ?_) (fun hc => ?_)
  · have hw := hw.1 hc
    refine lv_aload_n hx hb dX5_order_27 rfl (lv_at hl 1 rfl) ?_
    refine xG_X5_graph hx hb hF hown hI (hts _ (List.mem_of_getElem? (i := 1) rfl : (Cond.fieldLink RX5 19 "PlateRoom" "graph" "LPlateRoom$TimeGraph;" : Cond) ∈ wsX5_order)) dX5_order_28 ?_
    refine lv_aload_n hx hb dX5_order_31 rfl (lv_at hl 1 rfl) ?_
    refine xG_X5_facts hx hb hF hown hI (hts _ (List.mem_of_getElem? (i := 2) rfl : (Cond.fieldLink RX5 12 "PlateRoom" "facts" "LPlateRoom$FactBook;" : Cond) ∈ wsX5_order)) dX5_order_32 ?_
    refine lv_iload_n hx hb dX5_order_35 rfl (lv_at hl 4 rfl) ?_
    refine lv_iconst (v := (-1)) hx hb dX5_order_36 (by decide) ?_
    refine gVv (cx_X4_gather l g (σ := σ) hw) (xMv g) ⟨hx, hb, hml, hown, hts⟩ (cwV 3 hts gX5_order_X4_gather rfl rfl rfl (by decide +kernel) ⟨Nat.le_of_ble_eq_true rfl, Nat.le_of_ble_eq_true rfl⟩) (xRecv_X4 hI) hI hS hl.1 rfl rfl (Nat.le_of_ble_eq_true rfl) dX5_order_37 (fun σ7 H locs hw hI hS => ?_)
    refine lv_aload_n hx hb dX5_order_40 rfl (lv_at hl 1 rfl) ?_
    refine xG_X5_graph hx hb hF hown hI (hts _ (List.mem_of_getElem? (i := 1) rfl : (Cond.fieldLink RX5 19 "PlateRoom" "graph" "LPlateRoom$TimeGraph;" : Cond) ∈ wsX5_order)) dX5_order_41 ?_
    refine lv_iload_n hx hb dX5_order_44 rfl (lv_at hl 3 rfl) ?_
    refine gSi (cx_X5_platePoint l g (σ := σ7) hw) (xMv g) ⟨hx, hb, hml, hown, hts⟩ (va_cwS 1 hts gX5_order_X5_platePoint rfl rfl rfl (by decide +kernel) ⟨Nat.le_of_ble_eq_true rfl, Nat.le_of_ble_eq_true rfl⟩) hI hS hl.1 rfl rfl (Nat.le_of_ble_eq_true rfl) dX5_order_45 (fun r8 σ9 H locs hw hI hS => ?_)
    obtain ⟨hw, hq⟩ := hw
    rw [hq] at hI
    refine gVi (cx_X4_measureFrom l g (σ := σ7) hw) (xMv g) ⟨hx, hb, hml, hown, hts⟩ (cwV 1 hts gX5_order_X4_measureFrom rfl rfl rfl (by decide +kernel) ⟨Nat.le_of_ble_eq_true rfl, Nat.le_of_ble_eq_true rfl⟩) (xRecv_X4 hI) hI hS hl.1 rfl rfl (Nat.le_of_ble_eq_true rfl) dX5_order_48 (fun r10 σ11 H locs hw hI hS => ?_)
    refine lv_if_ne (tgt := 60) hx hb dX5_order_51 (by decide) (fun hc => ?_) (fun hc => ?_)
    · have hw := hw.1 hc
      refine lv_aload_n hx hb dX5_order_60 rfl (lv_at hl 1 rfl) ?_
      refine xG_X5_graph hx hb hF hown hI (hts _ (List.mem_of_getElem? (i := 1) rfl : (Cond.fieldLink RX5 19 "PlateRoom" "graph" "LPlateRoom$TimeGraph;" : Cond) ∈ wsX5_order)) dX5_order_61 ?_
      refine lv_iload_n hx hb dX5_order_64 rfl (lv_at hl 2 rfl) ?_
      refine gSi (cx_X5_platePoint l g (σ := σ11) hw) (xMv g) ⟨hx, hb, hml, hown, hts⟩ (va_cwS 1 hts gX5_order_X5_platePoint rfl rfl rfl (by decide +kernel) ⟨Nat.le_of_ble_eq_true rfl, Nat.le_of_ble_eq_true rfl⟩) hI hS hl.1 rfl rfl (Nat.le_of_ble_eq_true rfl) dX5_order_65 (fun r12 σ13 H locs hw hI hS => ?_)
      obtain ⟨hw, hq⟩ := hw
      rw [hq] at hI
      refine gVi (cx_X4_wayTo l g (σ := σ11) hw) (xMv g) ⟨hx, hb, hml, hown, hts⟩ (cwV 1 hts gX5_order_X4_wayTo rfl rfl rfl (by decide +kernel) ⟨Nat.le_of_ble_eq_true rfl, Nat.le_of_ble_eq_true rfl⟩) (xRecv_X4 hI) hI hS hl.1 rfl rfl (Nat.le_of_ble_eq_true rfl) dX5_order_68 (fun r14 σ15 H locs hw hI hS => ?_)
      obtain ⟨hw, hq⟩ := hw
      rw [hq] at hI
      refine lv_if_ge (tgt := 80) hx hb dX5_order_71 (by decide) (fun hc => ?_) (fun hc => ?_)
      · have hw := hw.1 hc
        refine lv_aload_n hx hb dX5_order_80 rfl (lv_at hl 1 rfl) ?_
        refine xG_X5_graph hx hb hF hown hI (hts _ (List.mem_of_getElem? (i := 1) rfl : (Cond.fieldLink RX5 19 "PlateRoom" "graph" "LPlateRoom$TimeGraph;" : Cond) ∈ wsX5_order)) dX5_order_81 ?_
        refine lv_iload_n hx hb dX5_order_84 rfl (lv_at hl 2 rfl) ?_
        refine gSi (cx_X5_platePoint l g (σ := σ11) hw) (xMv g) ⟨hx, hb, hml, hown, hts⟩ (va_cwS 1 hts gX5_order_X5_platePoint rfl rfl rfl (by decide +kernel) ⟨Nat.le_of_ble_eq_true rfl, Nat.le_of_ble_eq_true rfl⟩) hI hS hl.1 rfl rfl (Nat.le_of_ble_eq_true rfl) dX5_order_85 (fun r16 σ17 H locs hw hI hS => ?_)
        obtain ⟨hw, hq⟩ := hw
        rw [hq] at hI
        refine gVi (cx_X4_measureFrom l g (σ := σ11) hw) (xMv g) ⟨hx, hb, hml, hown, hts⟩ (cwV 1 hts gX5_order_X4_measureFrom rfl rfl rfl (by decide +kernel) ⟨Nat.le_of_ble_eq_true rfl, Nat.le_of_ble_eq_true rfl⟩) (xRecv_X4 hI) hI hS hl.1 rfl rfl (Nat.le_of_ble_eq_true rfl) dX5_order_88 (fun r18 σ19 H locs hw hI hS => ?_)
        refine lv_if_eq (tgt := 112) hx hb dX5_order_91 (by decide) (fun hc => ?_) (fun hc => ?_)
        · have hw := hw.1 hc
          exact j112 _ _ _ _ hI hS (lv_sub hl [1] rfl) hw
        have hw := hw.2 hc
        refine lv_aload_n hx hb dX5_order_94 rfl (lv_at hl 1 rfl) ?_
        refine xG_X5_graph hx hb hF hown hI (hts _ (List.mem_of_getElem? (i := 1) rfl : (Cond.fieldLink RX5 19 "PlateRoom" "graph" "LPlateRoom$TimeGraph;" : Cond) ∈ wsX5_order)) dX5_order_95 ?_
        refine lv_iload_n hx hb dX5_order_98 rfl (lv_at hl 3 rfl) ?_
        refine gSi (cx_X5_platePoint l g (σ := σ19) hw) (xMv g) ⟨hx, hb, hml, hown, hts⟩ (va_cwS 1 hts gX5_order_X5_platePoint rfl rfl rfl (by decide +kernel) ⟨Nat.le_of_ble_eq_true rfl, Nat.le_of_ble_eq_true rfl⟩) hI hS hl.1 rfl rfl (Nat.le_of_ble_eq_true rfl) dX5_order_99 (fun r20 σ21 H locs hw hI hS => ?_)
        obtain ⟨hw, hq⟩ := hw
        rw [hq] at hI
        refine gVi (cx_X4_wayTo l g (σ := σ19) hw) (xMv g) ⟨hx, hb, hml, hown, hts⟩ (cwV 1 hts gX5_order_X4_wayTo rfl rfl rfl (by decide +kernel) ⟨Nat.le_of_ble_eq_true rfl, Nat.le_of_ble_eq_true rfl⟩) (xRecv_X4 hI) hI hS hl.1 rfl rfl (Nat.le_of_ble_eq_true rfl) dX5_order_102 (fun r22 σ23 H locs hw hI hS => ?_)
        obtain ⟨hw, hq⟩ := hw
        rw [hq] at hI
        refine lv_if_le (tgt := 112) hx hb dX5_order_105 (by decide) (fun hc => ?_) (fun hc => ?_)
        · have hw := hw.1 hc
          exact j112 _ _ _ _ hI hS (lv_sub hl [1] rfl) hw
        have hw := hw.2 hc
        refine lv_iconst (v := 1) hx hb dX5_order_108 (by decide) ?_
        refine lv_goto (tgt := 113) hx hb dX5_order_109 (by decide) ?_
        exact j113 _ _ _ _ _ hI hS (lv_sub hl [1] rfl) hw
      have hw := hw.2 hc
      refine lv_aload_n hx hb dX5_order_74 rfl (lv_at hl 1 rfl) ?_
      refine lv_iconst (v := 2) hx hb dX5_order_75 (by decide) ?_
      refine gVi (cx_X5_answer l g (σ := σ11) hw) (xMv g) ⟨hx, hb, hml, hown, hts⟩ (cwV 1 hts gX5_order_X5_answer rfl rfl rfl (by decide +kernel) ⟨Nat.le_of_ble_eq_true rfl, Nat.le_of_ble_eq_true rfl⟩) (xRecv_X5 hI) hI hS hl.1 rfl rfl (Nat.le_of_ble_eq_true rfl) dX5_order_76 (fun r24 σ25 H locs hw hI hS => ?_)
      exact hret _ _ _ _ _ _ dX5_order_79 hw hI hS
    have hw := hw.2 hc
    refine lv_aload_n hx hb dX5_order_54 rfl (lv_at hl 1 rfl) ?_
    refine lv_iconst (v := 5) hx hb dX5_order_55 (by decide) ?_
    refine gVi (cx_X5_refuse l g (σ := σ11) hw) (xMv g) ⟨hx, hb, hml, hown, hts⟩ (cwV 1 hts gX5_order_X5_refuse rfl rfl rfl (by decide +kernel) ⟨Nat.le_of_ble_eq_true rfl, Nat.le_of_ble_eq_true rfl⟩) (xRecv_X5 hI) hI hS hl.1 rfl rfl (Nat.le_of_ble_eq_true rfl) dX5_order_56 (fun r26 σ27 H locs hw hI hS => ?_)
    exact hret _ _ _ _ _ _ dX5_order_59 hw hI hS
  have hw := hw.2 hc
  refine lv_aload_n hx hb dX5_order_20 rfl (lv_at hl 1 rfl) ?_
  refine lv_iload hx hb dX5_order_21 (lv_at hl 0 rfl) ?_
  refine gVi (cx_X5_refuse l g (σ := σ) hw) (xMv g) ⟨hx, hb, hml, hown, hts⟩ (cwV 1 hts gX5_order_X5_refuse rfl rfl rfl (by decide +kernel) ⟨Nat.le_of_ble_eq_true rfl, Nat.le_of_ble_eq_true rfl⟩) (xRecv_X5 hI) hI hS hl.1 rfl rfl (Nat.le_of_ble_eq_true rfl) dX5_order_23 (fun r28 σ29 H locs hw hI hS => ?_)
  exact hret _ _ _ _ _ _ dX5_order_26 hw hI hS
set_option maxRecDepth 100000 in
set_option maxHeartbeats 4000000 in
theorem cx_X1_fits (l : Launch) (g : wG) {σ : wS} {x0 : Int32} {x1 : Int32} {Q : Int32 → Prop} (hw : wx_X1_fits Q x0 x1) : Met l yX1_fits wsX1_fits ({ frames := 0, cells := 0, slots := 0, locals := 0 } : Room) (va_Pc [.int x0, .int x1] (fun U => xIn g σ U.heap U)) (va_Qi (fun r σ1 => Q r ∧ σ1 = σ) (fun σ1 t => xIn g σ1 t.heap t) (xA g)) 0 0 (xA g) := by
  refine gOfZ (maxL := 2) (xMv g) (by decide) rfl (Nat.le_of_ble_eq_true rfl) ?_
  intro p e s m args below meth c QQ hx hb hml hown hts hret ls hl hI
  have hl : lv_has ls 2 [(0, .int x0), (1, .int x1)] := hl
  have hS : va_S (xA g) s.heap s.heap [] := va_S.rf
  refine lv_iload_n hx hb dX1_fits_0 rfl (lv_at hl 0 rfl) ?_
  refine lv_if_eq (tgt := 13) hx hb dX1_fits_1 (by decide) (fun hc => ?_) (fun hc => ?_)
  · have hw := hw.1 hc
    refine lv_iconst (v := 0) hx hb dX1_fits_13 (by decide) ?_
    exact hret _ _ _ _ _ _ dX1_fits_14 isB0 ⟨hw, rfl⟩ hI hS
  have hw := hw.2 hc
  refine lv_iload_n hx hb dX1_fits_4 rfl (lv_at hl 0 rfl) ?_
  refine lv_iload_n hx hb dX1_fits_5 rfl (lv_at hl 1 rfl) ?_
  refine lv_icmp_ne (tgt := 13) hx hb dX1_fits_6 (by decide) (fun hc => ?_) (fun hc => ?_)
  · have hw := hw.1 hc
    refine lv_iconst (v := 0) hx hb dX1_fits_13 (by decide) ?_
    exact hret _ _ _ _ _ _ dX1_fits_14 isB0 ⟨hw, rfl⟩ hI hS
  have hw := hw.2 hc
  refine lv_iconst (v := 1) hx hb dX1_fits_9 (by decide) ?_
  refine lv_goto (tgt := 14) hx hb dX1_fits_10 (by decide) ?_
  exact hret _ _ _ _ _ _ dX1_fits_14 isB1 ⟨hw, rfl⟩ hI hS
