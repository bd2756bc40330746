set_option maxRecDepth 100000 in
set_option maxHeartbeats 4000000 in
theorem cx_X5_same (l : Launch) (g : wG) {σ : wS} {x1 : Int32} {x2 : Int32} {x3 : Int32} {Q : Int32 → wS → Prop} (hw : wx_X5_same Q x1 x2 x3 σ) : Met l yX5_same wsX5_same ({ frames := 2, cells := 0, slots := 0, locals := 44 } : Room) (va_Pc [.ref (g.2.1 0), .int x1, .int x2, .int x3] (fun U => xIn g σ U.heap U)) (va_Qi Q (fun σ1 t => xIn g σ1 t.heap t) (xA g)) 0 0 (xA g) := by
  refine gOfI (maxL := 6) (xMv g) (by decide) rfl (Nat.le_of_ble_eq_true rfl) ?_
  intro p e s m args below meth c QQ hx hb hml hown hts hret ls hl hI
  have hl : lv_has ls 6 [(0, .ref (g.2.1 0)), (1, .int x1), (2, .int x2), (3, .int x3)] := hl
  have hS : va_S (xA g) s.heap s.heap [] := va_S.rf
  have hF : ∀ w ∈ wsX50, w.before args s = true := fun w h => hts w (List.mem_cons_of_mem _ (List.mem_append_left _ (List.mem_append_right _ h)))
  refine lv_aload_n hx hb dX5_same_0 rfl (lv_at hl 0 rfl) ?_
  refine lv_aload_n hx hb dX5_same_1 rfl (lv_at hl 0 rfl) ?_
  refine lv_iload_n hx hb dX5_same_2 rfl (lv_at hl 1 rfl) ?_
  refine lv_iload_n hx hb dX5_same_3 rfl (lv_at hl 2 rfl) ?_
  refine gVi (cx_X5_areTwoPlates l g (σ := σ) hw) (xMv g) ⟨hx, hb, hml, hown, hts⟩ (cwV 2 hts gX5_same_X5_areTwoPlates rfl rfl rfl (by decide +kernel) ⟨Nat.le_of_ble_eq_true rfl, Nat.le_of_ble_eq_true rfl⟩) (xRecv_X5 hI) hI hS hl.1 rfl rfl (Nat.le_of_ble_eq_true rfl) dX5_same_4 (fun r1 σ2 H locs hw hI hS => ?_)
  obtain ⟨hw, hq⟩ := hw
  rw [hq] at hI
  refine lv_iload_n hx hb dX5_same_7 rfl (lv_at hl 3 rfl) ?_
  refine gSi (cx_X5_isDay l g (σ := σ) hw) (xMv g) ⟨hx, hb, hml, hown, hts⟩ (va_cwS 1 hts gX5_same_X5_isDay rfl rfl rfl (by decide +kernel) ⟨Nat.le_of_ble_eq_true rfl, Nat.le_of_ble_eq_true rfl⟩) hI hS hl.1 rfl rfl (Nat.le_of_ble_eq_true rfl) dX5_same_8 (fun r3 σ4 H locs hw hI hS => ?_)
  obtain ⟨hw, hq⟩ := hw
  rw [hq] at hI
  refine gVi (cx_X5_whyNoFact l g (σ := σ) hw) (xMv g) ⟨hx, hb, hml, hown, hts⟩ (cwV 2 hts gX5_same_X5_whyNoFact rfl rfl rfl (by decide +kernel) ⟨Nat.le_of_ble_eq_true rfl, Nat.le_of_ble_eq_true rfl⟩) (xRecv_X5 hI) hI hS hl.1 rfl rfl (Nat.le_of_ble_eq_true rfl) dX5_same_11 (fun r5 σ6 H locs hw hI hS => ?_)
  obtain ⟨hw, hq⟩ := hw
  rw [hq] at hI
  refine lv_istore (lv' := [(4, .int r5), (0, .ref (g.2.1 0)), (1, .int x1), (2, .int x2), (3, .int x3)]) hx hb dX5_same_14 hl (by decide) rfl (fun ls hl => ?_)
  refine lv_iload hx hb dX5_same_16 (lv_at hl 0 rfl) ?_
  refine lv_if_eq (tgt := 28) hx hb dX5_same_18 (by decide) (fun hc => ?_) (fun hc => ?_)
  · have hw := hw.1 hc
    refine lv_aload_n hx hb dX5_same_28 rfl (lv_at hl 1 rfl) ?_
    refine xG_X5_facts hx hb hF hown hI (hts _ (List.mem_of_getElem? (i := 1) rfl : (Cond.fieldLink RX5 12 "PlateRoom" "facts" "LPlateRoom$FactBook;" : Cond) ∈ wsX5_same)) dX5_same_29 ?_
    refine lv_iconst (v := 5) hx hb dX5_same_32 (by decide) ?_
    refine lv_iload_n hx hb dX5_same_33 rfl (lv_at hl 4 rfl) ?_
    refine gVi (cx_X2_tell l g (σ := σ) hw) (xMv g) ⟨hx, hb, hml, hown, hts⟩ (cwV 2 hts gX5_same_X2_tell rfl rfl rfl (by decide +kernel) ⟨Nat.le_of_ble_eq_true rfl, Nat.le_of_ble_eq_true rfl⟩) (xRecv_X2 hI) hI hS hl.1 rfl rfl (Nat.le_of_ble_eq_true rfl) dX5_same_34 (fun r7 σ8 H locs hw hI hS => ?_)
    refine lv_istore (lv' := [(5, .int r7), (4, .int r5), (0, .ref (g.2.1 0)), (1, .int x1), (2, .int x2), (3, .int x3)]) hx hb dX5_same_37 hl (by decide) rfl (fun ls hl => ?_)
    refine lv_aload_n hx hb dX5_same_39 rfl (lv_at hl 2 rfl) ?_
    refine xG_X5_facts hx hb hF hown hI (hts _ (List.mem_of_getElem? (i := 1) rfl : (Cond.fieldLink RX5 12 "PlateRoom" "facts" "LPlateRoom$FactBook;" : Cond) ∈ wsX5_same)) dX5_same_40 ?_
    refine lv_iload_n hx hb dX5_same_43 rfl (lv_at hl 3 rfl) ?_
    refine gSi (cx_X5_platePoint l g (σ := σ8) hw) (xMv g) ⟨hx, hb, hml, hown, hts⟩ (va_cwS 1 hts gX5_same_X5_platePoint rfl rfl rfl (by decide +kernel) ⟨Nat.le_of_ble_eq_true rfl, Nat.le_of_ble_eq_true rfl⟩) hI hS hl.1 rfl rfl (Nat.le_of_ble_eq_true rfl) dX5_same_44 (fun r9 σ10 H locs hw hI hS => ?_)
    obtain ⟨hw, hq⟩ := hw
    rw [hq] at hI
    refine lv_iload_n hx hb dX5_same_47 rfl (lv_at hl 4 rfl) ?_
    refine gSi (cx_X5_platePoint l g (σ := σ8) hw) (xMv g) ⟨hx, hb, hml, hown, hts⟩ (va_cwS 1 hts gX5_same_X5_platePoint rfl rfl rfl (by decide +kernel) ⟨Nat.le_of_ble_eq_true rfl, Nat.le_of_ble_eq_true rfl⟩) hI hS hl.1 rfl rfl (Nat.le_of_ble_eq_true rfl) dX5_same_48 (fun r11 σ12 H locs hw hI hS => ?_)
    obtain ⟨hw, hq⟩ := hw
    rw [hq] at hI
    refine lv_iconst (v := 0) hx hb dX5_same_51 (by decide) ?_
    refine gVv (cx_X2_addLimit l g (σ := σ8) hw) (xMv g) ⟨hx, hb, hml, hown, hts⟩ (cwV 3 hts gX5_same_X2_addLimit rfl rfl rfl (by decide +kernel) ⟨Nat.le_of_ble_eq_true rfl, Nat.le_of_ble_eq_true rfl⟩) (xRecv_X2 hI) hI hS hl.1 rfl rfl (Nat.le_of_ble_eq_true rfl) dX5_same_52 (fun σ13 H locs hw hI hS => ?_)
    refine lv_aload_n hx hb dX5_same_55 rfl (lv_at hl 2 rfl) ?_
    refine xG_X5_facts hx hb hF hown hI (hts _ (List.mem_of_getElem? (i := 1) rfl : (Cond.fieldLink RX5 12 "PlateRoom" "facts" "LPlateRoom$FactBook;" : Cond) ∈ wsX5_same)) dX5_same_56 ?_
    refine lv_iload_n hx hb dX5_same_59 rfl (lv_at hl 4 rfl) ?_
    refine gSi (cx_X5_platePoint l g (σ := σ13) hw) (xMv g) ⟨hx, hb, hml, hown, hts⟩ (va_cwS 1 hts gX5_same_X5_platePoint rfl rfl rfl (by decide +kernel) ⟨Nat.le_of_ble_eq_true rfl, Nat.le_of_ble_eq_true rfl⟩) hI hS hl.1 rfl rfl (Nat.le_of_ble_eq_true rfl) dX5_same_60 (fun r14 σ15 H locs hw hI hS => ?_)
    obtain ⟨hw, hq⟩ := hw
    rw [hq] at hI
    refine lv_iload_n hx hb dX5_same_63 rfl (lv_at hl 3 rfl) ?_
    refine gSi (cx_X5_platePoint l g (σ := σ13) hw) (xMv g) ⟨hx, hb, hml, hown, hts⟩ (va_cwS 1 hts gX5_same_X5_platePoint rfl rfl rfl (by decide +kernel) ⟨Nat.le_of_ble_eq_true rfl, Nat.le_of_ble_eq_true rfl⟩) hI hS hl.1 rfl rfl (Nat.le_of_ble_eq_true rfl) dX5_same_64 (fun r16 σ17 H locs hw hI hS => ?_)
    obtain ⟨hw, hq⟩ := hw
    rw [hq] at hI
    refine lv_iconst (v := 0) hx hb dX5_same_67 (by decide) ?_
    refine gVv (cx_X2_addLimit l g (σ := σ13) hw) (xMv g) ⟨hx, hb, hml, hown, hts⟩ (cwV 3 hts gX5_same_X2_addLimit rfl rfl rfl (by decide +kernel) ⟨Nat.le_of_ble_eq_true rfl, Nat.le_of_ble_eq_true rfl⟩) (xRecv_X2 hI) hI hS hl.1 rfl rfl (Nat.le_of_ble_eq_true rfl) dX5_same_68 (fun σ18 H locs hw hI hS => ?_)
    refine lv_aload_n hx hb dX5_same_71 rfl (lv_at hl 2 rfl) ?_
    refine lv_iload hx hb dX5_same_72 (lv_at hl 0 rfl) ?_
    refine gVi (cx_X5_answer l g (σ := σ18) hw) (xMv g) ⟨hx, hb, hml, hown, hts⟩ (cwV 1 hts gX5_same_X5_answer rfl rfl rfl (by decide +kernel) ⟨Nat.le_of_ble_eq_true rfl, Nat.le_of_ble_eq_true rfl⟩) (xRecv_X5 hI) hI hS hl.1 rfl rfl (Nat.le_of_ble_eq_true rfl) dX5_same_74 (fun r19 σ20 H locs hw hI hS => ?_)
    exact hret _ _ _ _ _ _ dX5_same_77 hw hI hS
  have hw := hw.2 hc
  refine lv_aload_n hx hb dX5_same_21 rfl (lv_at hl 1 rfl) ?_
  refine lv_iload hx hb dX5_same_22 (lv_at hl 0 rfl) ?_
  refine gVi (cx_X5_refuse l g (σ := σ) hw) (xMv g) ⟨hx, hb, hml, hown, hts⟩ (cwV 1 hts gX5_same_X5_refuse rfl rfl rfl (by decide +kernel) ⟨Nat.le_of_ble_eq_true rfl, Nat.le_of_ble_eq_true rfl⟩) (xRecv_X5 hI) hI hS hl.1 rfl rfl (Nat.le_of_ble_eq_true rfl) dX5_same_24 (fun r21 σ22 H locs hw hI hS => ?_)
  exact hret _ _ _ _ _ _ dX5_same_27 hw hI hS
set_option maxRecDepth 100000 in
set_option maxHeartbeats 4000000 in
theorem cx_X5_isTimeRange (l : Launch) (g : wG) {σ : wS} {x0 : Int32} {x1 : Int32} {Q : Int32 → Prop} (hw : wx_X5_isTimeRange Q x0 x1) : Met l yX5_isTimeRange wsX5_isTimeRange ({ frames := 0, cells := 0, slots := 0, locals := 0 } : Room) (va_Pc [.int x0, .int x1] (fun U => xIn g σ U.heap U)) (va_Qi (fun r σ1 => Q r ∧ σ1 = σ) (fun σ1 t => xIn g σ1 t.heap t) (xA g)) 0 0 (xA g) := by
  refine gOfZ (maxL := 2) (xMv g) (by decide) rfl (Nat.le_of_ble_eq_true rfl) ?_
  intro p e s m args below meth c QQ hx hb hml hown hts hret ls hl hI
  have hl : lv_has ls 2 [(0, .int x0), (1, .int x1)] := hl
  have hS : va_S (xA g) s.heap s.heap [] := va_S.rf
  refine lv_iload_n hx hb dX5_isTimeRange_0 rfl (lv_at hl 0 rfl) ?_
  refine lv_if_lt (tgt := 19) hx hb dX5_isTimeRange_1 (by decide) (fun hc => ?_) (fun hc => ?_)
  · have hw := hw.1 hc
    refine lv_iconst (v := 0) hx hb dX5_isTimeRange_19 (by decide) ?_
    exact hret _ _ _ _ _ _ dX5_isTimeRange_20 isB0 ⟨hw, rfl⟩ hI hS
  have hw := hw.2 hc
  refine lv_iload_n hx hb dX5_isTimeRange_4 rfl (lv_at hl 0 rfl) ?_
  refine lv_iload_n hx hb dX5_isTimeRange_5 rfl (lv_at hl 1 rfl) ?_
  refine lv_icmp_gt (tgt := 19) hx hb dX5_isTimeRange_6 (by decide) (fun hc => ?_) (fun hc => ?_)
  · have hw := hw.1 hc
    refine lv_iconst (v := 0) hx hb dX5_isTimeRange_19 (by decide) ?_
    exact hret _ _ _ _ _ _ dX5_isTimeRange_20 isB0 ⟨hw, rfl⟩ hI hS
  have hw := hw.2 hc
  refine lv_iload_n hx hb dX5_isTimeRange_9 rfl (lv_at hl 1 rfl) ?_
  refine lv_ldc (own := RX5) hx hb hown (hts _ (List.mem_of_getElem? (i := 1) rfl : (Cond.constant RX5 99 (100000) : Cond) ∈ wsX5_isTimeRange)) dX5_isTimeRange_10 ?_
  refine lv_icmp_gt (tgt := 19) hx hb dX5_isTimeRange_12 (by decide) (fun hc => ?_) (fun hc => ?_)
  · have hw := hw.1 hc
    refine lv_iconst (v := 0) hx hb dX5_isTimeRange_19 (by decide) ?_
    exact hret _ _ _ _ _ _ dX5_isTimeRange_20 isB0 ⟨hw, rfl⟩ hI hS
  have hw := hw.2 hc
  refine lv_iconst (v := 1) hx hb dX5_isTimeRange_15 (by decide) ?_
  refine lv_goto (tgt := 20) hx hb dX5_isTimeRange_16 (by decide) ?_
  exact hret _ _ _ _ _ _ dX5_isTimeRange_20 isB1 ⟨hw, rfl⟩ hI hS
set_option maxRecDepth 100000 in
set_option maxHeartbeats 4000000 in
theorem cx_X5_tellRange (l : Launch) (g : wG) {σ : wS} {x1 : Int32} {x2 : Int32} {x3 : Int32} {x4 : Int32} {x5 : Int32} {Q : Int32 → wS → Prop} (hw : wx_X5_tellRange Q x1 x2 x3 x4 x5 σ) : Met l yX5_tellRange wsX5_tellRange ({ frames := 2, cells := 0, slots := 0, locals := 42 } : Room) (va_Pc [.ref (g.2.1 0), .int x1, .int x2, .int x3, .int x4, .int x5] (fun U => xIn g σ U.heap U)) (va_Qi Q (fun σ1 t => xIn g σ1 t.heap t) (xA g)) 0 0 (xA g) := by
  refine gOfI (maxL := 7) (xMv g) (by decide) rfl (Nat.le_of_ble_eq_true rfl) ?_
  intro p e s m args below meth c QQ hx hb hml hown hts hret ls hl hI
  have hl : lv_has ls 7 [(0, .ref (g.2.1 0)), (1, .int x1), (2, .int x2), (3, .int x3), (4, .int x4), (5, .int x5)] := hl
  have hS : va_S (xA g) s.heap s.heap [] := va_S.rf
  have hF : ∀ w ∈ wsX50, w.before args s = true := fun w h => hts w (List.mem_cons_of_mem _ (List.mem_append_left _ (List.mem_append_right _ h)))
  refine lv_aload_n hx hb dX5_tellRange_0 rfl (lv_at hl 0 rfl) ?_
  refine xG_X5_facts hx hb hF hown hI (hts _ (List.mem_of_getElem? (i := 1) rfl : (Cond.fieldLink RX5 12 "PlateRoom" "facts" "LPlateRoom$FactBook;" : Cond) ∈ wsX5_tellRange)) dX5_tellRange_1 ?_
  refine lv_iload_n hx hb dX5_tellRange_4 rfl (lv_at hl 1 rfl) ?_
  refine lv_iload hx hb dX5_tellRange_5 (lv_at hl 5 rfl) ?_
  refine gVi (cx_X2_tell l g (σ := σ) hw) (xMv g) ⟨hx, hb, hml, hown, hts⟩ (cwV 2 hts gX5_tellRange_X2_tell rfl rfl rfl (by decide +kernel) ⟨Nat.le_of_ble_eq_true rfl, Nat.le_of_ble_eq_true rfl⟩) (xRecv_X2 hI) hI hS hl.1 rfl rfl (Nat.le_of_ble_eq_true rfl) dX5_tellRange_7 (fun r1 σ2 H locs hw hI hS => ?_)
  refine lv_istore (lv' := [(6, .int r1), (0, .ref (g.2.1 0)), (1, .int x1), (2, .int x2), (3, .int x3), (4, .int x4), (5, .int x5)]) hx hb dX5_tellRange_10 hl (by decide) rfl (fun ls hl => ?_)
  refine lv_aload_n hx hb dX5_tellRange_12 rfl (lv_at hl 1 rfl) ?_
  refine xG_X5_facts hx hb hF hown hI (hts _ (List.mem_of_getElem? (i := 1) rfl : (Cond.fieldLink RX5 12 "PlateRoom" "facts" "LPlateRoom$FactBook;" : Cond) ∈ wsX5_tellRange)) dX5_tellRange_13 ?_
  refine lv_iload_n hx hb dX5_tellRange_16 rfl (lv_at hl 3 rfl) ?_
  refine lv_iconst (v := 0) hx hb dX5_tellRange_17 (by decide) ?_
  refine lv_iload_n hx hb dX5_tellRange_18 rfl (lv_at hl 4 rfl) ?_
  refine lv_ineg hx hb dX5_tellRange_19 ?_
  refine gVv (cx_X2_addLimit l g (σ := σ2) hw) (xMv g) ⟨hx, hb, hml, hown, hts⟩ (cwV 3 hts gX5_tellRange_X2_addLimit rfl rfl rfl (by decide +kernel) ⟨Nat.le_of_ble_eq_true rfl, Nat.le_of_ble_eq_true rfl⟩) (xRecv_X2 hI) hI hS hl.1 rfl rfl (Nat.le_of_ble_eq_true rfl) dX5_tellRange_20 (fun σ3 H locs hw hI hS => ?_)
  refine lv_aload_n hx hb dX5_tellRange_23 rfl (lv_at hl 1 rfl) ?_
  refine xG_X5_facts hx hb hF hown hI (hts _ (List.mem_of_getElem? (i := 1) rfl : (Cond.fieldLink RX5 12 "PlateRoom" "facts" "LPlateRoom$FactBook;" : Cond) ∈ wsX5_tellRange)) dX5_tellRange_24 ?_
  refine lv_iconst (v := 0) hx hb dX5_tellRange_27 (by decide) ?_
  refine lv_iload_n hx hb dX5_tellRange_28 rfl (lv_at hl 3 rfl) ?_
  refine lv_iload hx hb dX5_tellRange_29 (lv_at hl 5 rfl) ?_
  refine gVv (cx_X2_addLimit l g (σ := σ3) hw) (xMv g) ⟨hx, hb, hml, hown, hts⟩ (cwV 3 hts gX5_tellRange_X2_addLimit rfl rfl rfl (by decide +kernel) ⟨Nat.le_of_ble_eq_true rfl, Nat.le_of_ble_eq_true rfl⟩) (xRecv_X2 hI) hI hS hl.1 rfl rfl (Nat.le_of_ble_eq_true rfl) dX5_tellRange_31 (fun σ4 H locs hw hI hS => ?_)
  refine lv_aload_n hx hb dX5_tellRange_34 rfl (lv_at hl 1 rfl) ?_
  refine lv_iload hx hb dX5_tellRange_35 (lv_at hl 0 rfl) ?_
  refine gVi (cx_X5_answer l g (σ := σ4) hw) (xMv g) ⟨hx, hb, hml, hown, hts⟩ (cwV 1 hts gX5_tellRange_X5_answer rfl rfl rfl (by decide +kernel) ⟨Nat.le_of_ble_eq_true rfl, Nat.le_of_ble_eq_true rfl⟩) (xRecv_X5 hI) hI hS hl.1 rfl rfl (Nat.le_of_ble_eq_true rfl) dX5_tellRange_37 (fun r5 σ6 H locs hw hI hS => ?_)
  exact hret _ _ _ _ _ _ dX5_tellRange_40 hw hI hS
set_option maxRecDepth 100000 in
set_option maxHeartbeats 4000000 in
theorem cx_X5_taken (l : Launch) (g : wG) {σ : wS} {x1 : Int32} {x2 : Int32} {x3 : Int32} {x4 : Int32} {Q : Int32 → wS → Prop} (hw : wx_X5_taken Q x1 x2 x3 x4 σ) : Met l yX5_taken wsX5_taken ({ frames := 3, cells := 0, slots := 0, locals := 68 } : Room) (va_Pc [.ref (g.2.1 0), .int x1, .int x2, .int x3, .int x4] (fun U => xIn g σ U.heap U)) (va_Qi Q (fun σ1 t => xIn g σ1 t.heap t) (xA g)) 0 0 (xA g) := by
  refine gOfI (maxL := 6) (xMv g) (by decide) rfl (Nat.le_of_ble_eq_true rfl) ?_
  intro p e s m args below meth c QQ hx hb hml hown hts hret ls hl hI
  have hl : lv_has ls 6 [(0, .ref (g.2.1 0)), (1, .int x1), (2, .int x2), (3, .int x3), (4, .int x4)] := hl
  have hS : va_S (xA g) s.heap s.heap [] := va_S.rf
  have j27 : ∀ (x1 : Int32) (x2 : Int32) (x3 : Int32) (x4 : Int32) (s1 : Int32) (s2 : Int32) (σ : wS) (H : Heap) (locs : List Loc) (ls : Array Slot), xIn g σ H s → va_S (xA g) s.heap H locs → lv_has ls 6 [(0, .ref (g.2.1 0)), (1, .int x1), (2, .int x2), (3, .int x3), (4, .int x4)] → wx_X5_taken_J27 Q x1 x2 x3 x4 s1 s2 σ → W p l e ({ frames := 3, cells := 0, slots := 0, locals := 68 } : Room) s m args below meth c H locs 0 0 QQ (F0 m 27 ls [.int s2, .int s1, .ref (g.2.1 0)]) := by
    intro x1 x2 x3 x4 s1 s2 σ H locs ls hI hS hl hw
    refine gVi (cx_X5_whyNoFact l g (σ := σ) hw) (xMv g) ⟨hx, hb, hml, hown, hts⟩ (cwV 2 hts gX5_taken_X5_whyNoFact rfl rfl rfl (by decide +kernel) ⟨Nat.le_of_ble_eq_true rfl, Nat.le_of_ble_eq_true rfl⟩) (xRecv_X5 hI) hI hS hl.1 rfl rfl (Nat.le_of_ble_eq_true rfl) dX5_taken_27 (fun r1 σ2 H locs hw hI hS => ?_)
    obtain ⟨hw, hq⟩ := hw
    rw [hq] at hI
    refine lv_istore (lv' := [(5, .int r1), (0, .ref (g.2.1 0)), (1, .int x1), (2, .int x2), (3, .int x3), (4, .int x4)]) hx hb dX5_taken_30 hl (by decide) rfl (fun ls hl => ?_)
    refine lv_iload hx hb dX5_taken_32 (lv_at hl 0 rfl) ?_
    refine lv_if_eq (tgt := 44) hx hb dX5_taken_34 (by decide) (fun hc => ?_) (fun hc => ?_)
    · have hw := hw.1 hc
      refine lv_aload_n hx hb dX5_taken_44 rfl (lv_at hl 1 rfl) ?_
      refine lv_iconst (v := 2) hx hb dX5_taken_45 (by decide) ?_
      refine lv_iload_n hx hb dX5_taken_46 rfl (lv_at hl 2 rfl) ?_
      refine gSi (cx_X5_platePoint l g (σ := σ) hw) (xMv g) ⟨hx, hb, hml, hown, hts⟩ (va_cwS 1 hts gX5_taken_X5_platePoint rfl rfl rfl (by decide +kernel) ⟨Nat.le_of_ble_eq_true rfl, Nat.le_of_ble_eq_true rfl⟩) hI hS hl.1 rfl rfl (Nat.le_of_ble_eq_true rfl) dX5_taken_47 (fun r3 σ4 H locs hw hI hS => ?_)
      obtain ⟨hw, hq⟩ := hw
      rw [hq] at hI
      refine lv_iload_n hx hb dX5_taken_50 rfl (lv_at hl 3 rfl) ?_
      refine lv_iload_n hx hb dX5_taken_51 rfl (lv_at hl 4 rfl) ?_
      refine lv_iload hx hb dX5_taken_52 (lv_at hl 5 rfl) ?_
      refine gVi (cx_X5_tellRange l g (σ := σ) hw) (xMv g) ⟨hx, hb, hml, hown, hts⟩ (cwV 5 hts gX5_taken_X5_tellRange rfl rfl rfl (by decide +kernel) ⟨Nat.le_of_ble_eq_true rfl, Nat.le_of_ble_eq_true rfl⟩) (xRecv_X5 hI) hI hS hl.1 rfl rfl (Nat.le_of_ble_eq_true rfl) dX5_taken_54 (fun r5 σ6 H locs hw hI hS => ?_)
      exact hret _ _ _ _ _ _ dX5_taken_57 hw hI hS
    have hw := hw.2 hc
    refine lv_aload_n hx hb dX5_taken_37 rfl (lv_at hl 1 rfl) ?_
    refine lv_iload hx hb dX5_taken_38 (lv_at hl 0 rfl) ?_
    refine gVi (cx_X5_refuse l g (σ := σ) hw) (xMv g) ⟨hx, hb, hml, hown, hts⟩ (cwV 1 hts gX5_taken_X5_refuse rfl rfl rfl (by decide +kernel) ⟨Nat.le_of_ble_eq_true rfl, Nat.le_of_ble_eq_true rfl⟩) (xRecv_X5 hI) hI hS hl.1 rfl rfl (Nat.le_of_ble_eq_true rfl) dX5_taken_40 (fun r7 σ8 H locs hw hI hS => ?_)
    exact hret _ _ _ _ _ _ dX5_taken_43 hw hI hS
  have j26 : ∀ (x1 : Int32) (x2 : Int32) (x3 : Int32) (x4 : Int32) (s1 : Int32) (σ : wS) (H : Heap) (locs : List Loc) (ls : Array Slot), xIn g σ H s → va_S (xA g) s.heap H locs → lv_has ls 6 [(0, .ref (g.2.1 0)), (1, .int x1), (2, .int x2), (3, .int x3), (4, .int x4)] → wx_X5_taken_J26 Q x1 x2 x3 x4 s1 σ → W p l e ({ frames := 3, cells := 0, slots := 0, locals := 68 } : Room) s m args below meth c H locs 0 0 QQ (F0 m 26 ls [.int s1, .ref (g.2.1 0)]) := by
    intro x1 x2 x3 x4 s1 σ H locs ls hI hS hl hw
    refine lv_iconst (v := 0) hx hb dX5_taken_26 (by decide) ?_
    exact j27 _ _ _ _ _ _ _ _ _ _ hI hS (lv_sub hl [0, 1, 2, 3, 4] rfl) hw
  refine lv_aload_n hx hb dX5_taken_0 rfl (lv_at hl 0 rfl) ?_
  refine lv_aload_n hx hb dX5_taken_1 rfl (lv_at hl 0 rfl) ?_
  refine lv_iload_n hx hb dX5_taken_2 rfl (lv_at hl 1 rfl) ?_
  refine gVi (cx_X5_isPlate l g (σ := σ) hw) (xMv g) ⟨hx, hb, hml, hown, hts⟩ (cwV 1 hts gX5_taken_X5_isPlate rfl rfl rfl (by decide +kernel) ⟨Nat.le_of_ble_eq_true rfl, Nat.le_of_ble_eq_true rfl⟩) (xRecv_X5 hI) hI hS hl.1 rfl rfl (Nat.le_of_ble_eq_true rfl) dX5_taken_3 (fun r1 σ2 H locs hw hI hS => ?_)
  obtain ⟨hw, hq⟩ := hw
  rw [hq] at hI
  refine lv_iload_n hx hb dX5_taken_6 rfl (lv_at hl 2 rfl) ?_
  refine lv_iload_n hx hb dX5_taken_7 rfl (lv_at hl 3 rfl) ?_
  refine gSi (cx_X5_isTimeRange l g (σ := σ) hw) (xMv g) ⟨hx, hb, hml, hown, hts⟩ (va_cwS 2 hts gX5_taken_X5_isTimeRange rfl rfl rfl (by decide +kernel) ⟨Nat.le_of_ble_eq_true rfl, Nat.le_of_ble_eq_true rfl⟩) hI hS hl.1 rfl rfl (Nat.le_of_ble_eq_true rfl) dX5_taken_8 (fun r3 σ4 H locs hw hI hS => ?_)
  obtain ⟨hw, hq⟩ := hw
  rw [hq] at hI
  refine lv_if_eq (tgt := 26) hx hb dX5_taken_11 (by decide) (fun hc => ?_) (fun hc => ?_)
  · have hw := hw.1 hc
    exact j26 _ _ _ _ _ _ _ _ _ hI hS (lv_sub hl [0, 1, 2, 3, 4] rfl) hw
  have hw := hw.2 hc
  refine lv_iload hx hb dX5_taken_14 (lv_at hl 4 rfl) ?_
  refine gSi (cx_X5_isDay l g (σ := σ) hw) (xMv g) ⟨hx, hb, hml, hown, hts⟩ (va_cwS 1 hts gX5_taken_X5_isDay rfl rfl rfl (by decide +kernel) ⟨Nat.le_of_ble_eq_true rfl, Nat.le_of_ble_eq_true rfl⟩) hI hS hl.1 rfl rfl (Nat.le_of_ble_eq_true rfl) dX5_taken_16 (fun r5 σ6 H locs hw hI hS => ?_)
  obtain ⟨hw, hq⟩ := hw
  rw [hq] at hI
  refine lv_if_eq (tgt := 26) hx hb dX5_taken_19 (by decide) (fun hc => ?_) (fun hc => ?_)
  · have hw := hw.1 hc
    exact j26 _ _ _ _ _ _ _ _ _ hI hS (lv_sub hl [0, 1, 2, 3, 4] rfl) hw
  have hw := hw.2 hc
  refine lv_iconst (v := 1) hx hb dX5_taken_22 (by decide) ?_
  refine lv_goto (tgt := 27) hx hb dX5_taken_23 (by decide) ?_
  exact j27 _ _ _ _ _ _ _ _ _ _ hI hS (lv_sub hl [0, 1, 2, 3, 4] rfl) hw
set_option maxRecDepth 100000 in
set_option maxHeartbeats 4000000 in
theorem cx_X5_stood (l : Launch) (g : wG) {σ : wS} {x1 : Int32} {x2 : Int32} {x3 : Int32} {x4 : Int32} {x5 : Int32} {Q : Int32 → wS → Prop} (hw : wx_X5_stood Q x1 x2 x3 x4 x5 σ) : Met l yX5_stood wsX5_stood ({ frames := 3, cells := 0, slots := 0, locals := 68 } : Room) (va_Pc [.ref (g.2.1 0), .int x1, .int x2, .int x3, .int x4, .int x5] (fun U => xIn g σ U.heap U)) (va_Qi Q (fun σ1 t => xIn g σ1 t.heap t) (xA g)) 0 0 (xA g) := by
  refine gOfI (maxL := 7) (xMv g) (by decide) rfl (Nat.le_of_ble_eq_true rfl) ?_
  intro p e s m args below meth c QQ hx hb hml hown hts hret ls hl hI
  have hl : lv_has ls 7 [(0, .ref (g.2.1 0)), (1, .int x1), (2, .int x2), (3, .int x3), (4, .int x4), (5, .int x5)] := hl
  have hS : va_S (xA g) s.heap s.heap [] := va_S.rf
  have j55 : ∀ (x1 : Int32) (x2 : Int32) (x3 : Int32) (x4 : Int32) (x5 : Int32) (s1 : Int32) (σ : wS) (H : Heap) (locs : List Loc) (ls : Array Slot), xIn g σ H s → va_S (xA g) s.heap H locs → lv_has ls 7 [(1, .int x1), (2, .int x2), (3, .int x3), (4, .int x4), (5, .int x5)] → wx_X5_stood_J55 Q x1 x2 x3 x4 x5 s1 σ → W p l e ({ frames := 3, cells := 0, slots := 0, locals := 68 } : Room) s m args below meth c H locs 0 0 QQ (F0 m 55 ls [.int s1, .ref (g.2.1 0)]) := by
    intro x1 x2 x3 x4 x5 s1 σ H locs ls hI hS hl hw
    refine lv_iload_n hx hb dX5_stood_55 rfl (lv_at hl 0 rfl) ?_
    refine lv_iload_n hx hb dX5_stood_56 rfl (lv_at hl 1 rfl) ?_
    refine gSi (cx_X5_motifPoint l g (σ := σ) hw) (xMv g) ⟨hx, hb, hml, hown, hts⟩ (va_cwS 2 hts gX5_stood_X5_motifPoint rfl rfl rfl (by decide +kernel) ⟨Nat.le_of_ble_eq_true rfl, Nat.le_of_ble_eq_true rfl⟩) hI hS hl.1 rfl rfl (Nat.le_of_ble_eq_true rfl) dX5_stood_57 (fun r1 σ2 H locs hw hI hS => ?_)
    obtain ⟨hw, hq⟩ := hw
    rw [hq] at hI
    refine lv_iload_n hx hb dX5_stood_60 rfl (lv_at hl 2 rfl) ?_
    refine lv_iload hx hb dX5_stood_61 (lv_at hl 3 rfl) ?_
    refine lv_iload hx hb dX5_stood_63 (lv_at hl 4 rfl) ?_
    refine gVi (cx_X5_tellRange l g (σ := σ) hw) (xMv g) ⟨hx, hb, hml, hown, hts⟩ (cwV 5 hts gX5_stood_X5_tellRange rfl rfl rfl (by decide +kernel) ⟨Nat.le_of_ble_eq_true rfl, Nat.le_of_ble_eq_true rfl⟩) (xRecv_X5 hI) hI hS hl.1 rfl rfl (Nat.le_of_ble_eq_true rfl) dX5_stood_65 (fun r3 σ4 H locs hw hI hS => ?_)
    exact hret _ _ _ _ _ _ dX5_stood_68 hw hI hS
  have j28 : ∀ (x1 : Int32) (x2 : Int32) (x3 : Int32) (x4 : Int32) (x5 : Int32) (s1 : Int32) (s2 : Int32) (σ : wS) (H : Heap) (locs : List Loc) (ls : Array Slot), xIn g σ H s → va_S (xA g) s.heap H locs → lv_has ls 7 [(0, .ref (g.2.1 0)), (1, .int x1), (2, .int x2), (3, .int x3), (4, .int x4), (5, .int x5)] → wx_X5_stood_J28 Q x1 x2 x3 x4 x5 s1 s2 σ → W p l e ({ frames := 3, cells := 0, slots := 0, locals := 68 } : Room) s m args below meth c H locs 0 0 QQ (F0 m 28 ls [.int s2, .int s1, .ref (g.2.1 0)]) := by
    intro x1 x2 x3 x4 x5 s1 s2 σ H locs ls hI hS hl hw
    refine gVi (cx_X5_whyNoFact l g (σ := σ) hw) (xMv g) ⟨hx, hb, hml, hown, hts⟩ (cwV 2 hts gX5_stood_X5_whyNoFact rfl rfl rfl (by decide +kernel) ⟨Nat.le_of_ble_eq_true rfl, Nat.le_of_ble_eq_true rfl⟩) (xRecv_X5 hI) hI hS hl.1 rfl rfl (Nat.le_of_ble_eq_true rfl) dX5_stood_28 (fun r1 σ2 H locs hw hI hS => ?_)
    obtain ⟨hw, hq⟩ := hw
    rw [hq] at hI
    refine lv_istore (lv' := [(6, .int r1), (0, .ref (g.2.1 0)), (1, .int x1), (2, .int x2), (3, .int x3), (4, .int x4), (5, .int x5)]) hx hb dX5_stood_31 hl (by decide) rfl (fun ls hl => ?_)
    refine lv_iload hx hb dX5_stood_33 (lv_at hl 0 rfl) ?_
    refine lv_if_eq (tgt := 45) hx hb dX5_stood_35 (by decide) (fun hc => ?_) (fun hc => ?_)
    · have hw := hw.1 hc
      refine lv_aload_n hx hb dX5_stood_45 rfl (lv_at hl 1 rfl) ?_
      refine lv_iload_n hx hb dX5_stood_46 rfl (lv_at hl 3 rfl) ?_
      refine lv_if_eq (tgt := 54) hx hb dX5_stood_47 (by decide) (fun hc => ?_) (fun hc => ?_)
      · have hw := hw.1 hc
        refine lv_iconst (v := 3) hx hb dX5_stood_54 (by decide) ?_
        exact j55 _ _ _ _ _ _ _ _ _ _ hI hS (lv_sub hl [2, 3, 4, 5, 6] rfl) hw
      have hw := hw.2 hc
      refine lv_iconst (v := 4) hx hb dX5_stood_50 (by decide) ?_
      refine lv_goto (tgt := 55) hx hb dX5_stood_51 (by decide) ?_
      exact j55 _ _ _ _ _ _ _ _ _ _ hI hS (lv_sub hl [2, 3, 4, 5, 6] rfl) hw
    have hw := hw.2 hc
    refine lv_aload_n hx hb dX5_stood_38 rfl (lv_at hl 1 rfl) ?_
    refine lv_iload hx hb dX5_stood_39 (lv_at hl 0 rfl) ?_
    refine gVi (cx_X5_refuse l g (σ := σ) hw) (xMv g) ⟨hx, hb, hml, hown, hts⟩ (cwV 1 hts gX5_stood_X5_refuse rfl rfl rfl (by decide +kernel) ⟨Nat.le_of_ble_eq_true rfl, Nat.le_of_ble_eq_true rfl⟩) (xRecv_X5 hI) hI hS hl.1 rfl rfl (Nat.le_of_ble_eq_true rfl) dX5_stood_41 (fun r3 σ4 H locs hw hI hS => ?_)
    exact hret _ _ _ _ _ _ dX5_stood_44 hw hI hS
  have j27 : ∀ (x1 : Int32) (x2 : Int32) (x3 : Int32) (x4 : Int32) (x5 : Int32) (s1 : Int32) (σ : wS) (H : Heap) (locs : List Loc) (ls : Array Slot), xIn g σ H s → va_S (xA g) s.heap H locs → lv_has ls 7 [(0, .ref (g.2.1 0)), (1, .int x1), (2, .int x2), (3, .int x3), (4, .int x4), (5, .int x5)] → wx_X5_stood_J27 Q x1 x2 x3 x4 x5 s1 σ → W p l e ({ frames := 3, cells := 0, slots := 0, locals := 68 } : Room) s m args below meth c H locs 0 0 QQ (F0 m 27 ls [.int s1, .ref (g.2.1 0)]) := by
    intro x1 x2 x3 x4 x5 s1 σ H locs ls hI hS hl hw
    refine lv_iconst (v := 0) hx hb dX5_stood_27 (by decide) ?_
    exact j28 _ _ _ _ _ _ _ _ _ _ _ hI hS (lv_sub hl [0, 1, 2, 3, 4, 5] rfl) hw
  refine lv_aload_n hx hb dX5_stood_0 rfl (lv_at hl 0 rfl) ?_
  refine lv_aload_n hx hb dX5_stood_1 rfl (lv_at hl 0 rfl) ?_
  refine lv_iload_n hx hb dX5_stood_2 rfl (lv_at hl 1 rfl) ?_
  refine gVi (cx_X5_isMotif l g (σ := σ) hw) (xMv g) ⟨hx, hb, hml, hown, hts⟩ (cwV 1 hts gX5_stood_X5_isMotif rfl rfl rfl (by decide +kernel) ⟨Nat.le_of_ble_eq_true rfl, Nat.le_of_ble_eq_true rfl⟩) (xRecv_X5 hI) hI hS hl.1 rfl rfl (Nat.le_of_ble_eq_true rfl) dX5_stood_3 (fun r1 σ2 H locs hw hI hS => ?_)
  obtain ⟨hw, hq⟩ := hw
  rw [hq] at hI
  refine lv_iload_n hx hb dX5_stood_6 rfl (lv_at hl 3 rfl) ?_
  refine lv_iload hx hb dX5_stood_7 (lv_at hl 4 rfl) ?_
  refine gSi (cx_X5_isTimeRange l g (σ := σ) hw) (xMv g) ⟨hx, hb, hml, hown, hts⟩ (va_cwS 2 hts gX5_stood_X5_isTimeRange rfl rfl rfl (by decide +kernel) ⟨Nat.le_of_ble_eq_true rfl, Nat.le_of_ble_eq_true rfl⟩) hI hS hl.1 rfl rfl (Nat.le_of_ble_eq_true rfl) dX5_stood_9 (fun r3 σ4 H locs hw hI hS => ?_)
  obtain ⟨hw, hq⟩ := hw
  rw [hq] at hI
  refine lv_if_eq (tgt := 27) hx hb dX5_stood_12 (by decide) (fun hc => ?_) (fun hc => ?_)
  · have hw := hw.1 hc
    exact j27 _ _ _ _ _ _ _ _ _ _ hI hS (lv_sub hl [0, 1, 2, 3, 4, 5] rfl) hw
  have hw := hw.2 hc
  refine lv_iload hx hb dX5_stood_15 (lv_at hl 5 rfl) ?_
  refine gSi (cx_X5_isDay l g (σ := σ) hw) (xMv g) ⟨hx, hb, hml, hown, hts⟩ (va_cwS 1 hts gX5_stood_X5_isDay rfl rfl rfl (by decide +kernel) ⟨Nat.le_of_ble_eq_true rfl, Nat.le_of_ble_eq_true rfl⟩) hI hS hl.1 rfl rfl (Nat.le_of_ble_eq_true rfl) dX5_stood_17 (fun r5 σ6 H locs hw hI hS => ?_)
  obtain ⟨hw, hq⟩ := hw
  rw [hq] at hI
  refine lv_if_eq (tgt := 27) hx hb dX5_stood_20 (by decide) (fun hc => ?_) (fun hc => ?_)
  · have hw := hw.1 hc
    exact j27 _ _ _ _ _ _ _ _ _ _ hI hS (lv_sub hl [0, 1, 2, 3, 4, 5] rfl) hw
  have hw := hw.2 hc
  refine lv_iconst (v := 1) hx hb dX5_stood_23 (by decide) ?_
  refine lv_goto (tgt := 28) hx hb dX5_stood_24 (by decide) ?_
  exact j28 _ _ _ _ _ _ _ _ _ _ _ hI hS (lv_sub hl [0, 1, 2, 3, 4, 5] rfl) hw
set_option maxRecDepth 100000 in
set_option maxHeartbeats 4000000 in
theorem cx_X2_has (l : Launch) (g : wG) {σ : wS} {x1 : Int32} {Q : Int32 → Prop} (hw : wx_X2_has Q x1 σ) : Met l yX2_has wsX2_has ({ frames := 0, cells := 0, slots := 0, locals := 0 } : Room) (va_Pc [.ref (g.2.1 3), .int x1] (fun U => xIn g σ U.heap U)) (va_Qi (fun r σ1 => Q r ∧ σ1 = σ) (fun σ1 t => xIn g σ1 t.heap t) (xA g)) 0 0 (xA g) := by
  refine gOfZ (maxL := 2) (xMv g) (by decide) rfl (Nat.le_of_ble_eq_true rfl) ?_
  intro p e s m args below meth c QQ hx hb hml hown hts hret ls hl hI
  have hl : lv_has ls 2 [(0, .ref (g.2.1 3)), (1, .int x1)] := hl
  have hS : va_S (xA g) s.heap s.heap [] := va_S.rf
  have hF : ∀ w ∈ wsX20, w.before args s = true := fun w h => hts w (List.mem_cons_of_mem _ (List.mem_append_right _ h))
  refine lv_iload_n hx hb dX2_has_0 rfl (lv_at hl 1 rfl) ?_
  refine lv_if_lt (tgt := 16) hx hb dX2_has_1 (by decide) (fun hc => ?_) (fun hc => ?_)
  · have hw := hw.1 hc
    refine lv_iconst (v := 0) hx hb dX2_has_16 (by decide) ?_
    exact hret _ _ _ _ _ _ dX2_has_17 isB0 ⟨hw, rfl⟩ hI hS
  have hw := hw.2 hc
  refine lv_iload_n hx hb dX2_has_4 rfl (lv_at hl 1 rfl) ?_
  refine lv_aload_n hx hb dX2_has_5 rfl (lv_at hl 0 rfl) ?_
  refine xG_X2_count hx hb hF hown hI (hts _ (List.mem_of_getElem? (i := 1) rfl : (Cond.fieldLink RX2 33 "PlateRoom$FactBook" "count" "I" : Cond) ∈ wsX2_has)) dX2_has_6 ?_
  refine lv_icmp_ge (tgt := 16) hx hb dX2_has_9 (by decide) (fun hc => ?_) (fun hc => ?_)
  · have hw := hw.1 hc
    refine lv_iconst (v := 0) hx hb dX2_has_16 (by decide) ?_
    exact hret _ _ _ _ _ _ dX2_has_17 isB0 ⟨hw, rfl⟩ hI hS
  have hw := hw.2 hc
  refine lv_iconst (v := 1) hx hb dX2_has_12 (by decide) ?_
  refine lv_goto (tgt := 17) hx hb dX2_has_13 (by decide) ?_
  exact hret _ _ _ _ _ _ dX2_has_17 isB1 ⟨hw, rfl⟩ hI hS
set_option maxRecDepth 100000 in
set_option maxHeartbeats 4000000 in
theorem cx_X2_crossingDay (l : Launch) (g : wG) {σ : wS} {x1 : Int32} {Q : Int32 → Prop} (hw : wx_X2_crossingDay Q x1 σ) : Met l yX2_crossingDay wsX2_crossingDay ({ frames := 1, cells := 0, slots := 0, locals := 21 } : Room) (va_Pc [.ref (g.2.1 3), .int x1] (fun U => xIn g σ U.heap U)) (va_Qi (fun r σ1 => Q r ∧ σ1 = σ) (fun σ1 t => xIn g σ1 t.heap t) (xA g)) 0 0 (xA g) := by
  refine gOfI (maxL := 2) (xMv g) (by decide) rfl (Nat.le_of_ble_eq_true rfl) ?_
  intro p e s m args below meth c QQ hx hb hml hown hts hret ls hl hI
  have hl : lv_has ls 2 [(0, .ref (g.2.1 3)), (1, .int x1)] := hl
  have hS : va_S (xA g) s.heap s.heap [] := va_S.rf
  have hF : ∀ w ∈ wsX20, w.before args s = true := fun w h => hts w (List.mem_cons_of_mem _ (List.mem_append_right _ h))
  refine lv_aload_n hx hb dX2_crossingDay_0 rfl (lv_at hl 0 rfl) ?_
  refine lv_iload_n hx hb dX2_crossingDay_1 rfl (lv_at hl 1 rfl) ?_
  refine gVi (cx_X2_has l g (σ := σ) hw) (xMv g) ⟨hx, hb, hml, hown, hts⟩ (cwV 1 hts gX2_crossingDay_X2_has rfl rfl rfl (by decide +kernel) ⟨Nat.le_of_ble_eq_true rfl, Nat.le_of_ble_eq_true rfl⟩) (xRecv_X2 hI) hI hS hl.1 rfl rfl (Nat.le_of_ble_eq_true rfl) dX2_crossingDay_2 (fun r1 σ2 H locs hw hI hS => ?_)
  obtain ⟨hw, hq⟩ := hw
  rw [hq] at hI
  refine lv_if_eq (tgt := 17) hx hb dX2_crossingDay_5 (by decide) (fun hc => ?_) (fun hc => ?_)
  · have hw := hw.1 hc
    refine lv_iconst (v := (-1)) hx hb dX2_crossingDay_17 (by decide) ?_
    exact hret _ _ _ _ _ _ dX2_crossingDay_18 ⟨hw, rfl⟩ hI hS
  have hw := hw.2 hc
  refine lv_aload_n hx hb dX2_crossingDay_8 rfl (lv_at hl 0 rfl) ?_
  refine xG_X2_crossedOn hx hb hF hown hI (hts _ (List.mem_of_getElem? (i := 1) rfl : (Cond.fieldLink RX2 18 "PlateRoom$FactBook" "crossedOn" "[I" : Cond) ∈ wsX2_crossingDay)) dX2_crossingDay_9 ?_
  refine lv_iload_n hx hb dX2_crossingDay_12 rfl (lv_at hl 1 rfl) ?_
  have hin := hw.1
  have hw := hw.2
  refine xR_X2_crossedOn hx hb hI hin dX2_crossingDay_13 ?_
  refine lv_goto (tgt := 18) hx hb dX2_crossingDay_14 (by decide) ?_
  exact hret _ _ _ _ _ _ dX2_crossingDay_18 ⟨hw, rfl⟩ hI hS
set_option maxRecDepth 100000 in
set_option maxHeartbeats 4000000 in
theorem cx_X2_crossOut (l : Launch) (g : wG) {σ : wS} {x1 : Int32} {x2 : Int32} {Q : wS → Prop} (hw : wx_X2_crossOut Q x1 x2 σ) : Met l yX2_crossOut wsX2_crossOut ({ frames := 1, cells := 0, slots := 0, locals := 21 } : Room) (va_Pc [.ref (g.2.1 3), .int x1, .int x2] (fun U => xIn g σ U.heap U)) (va_Qv Q (fun σ1 t => xIn g σ1 t.heap t) (xA g)) 0 0 (xA g) := by
  refine gOfV (maxL := 3) (xMv g) (by decide) rfl (Nat.le_of_ble_eq_true rfl) ?_
  intro p e s m args below meth c QQ hx hb hml hown hts hret ls hl hI
  have hl : lv_has ls 3 [(0, .ref (g.2.1 3)), (1, .int x1), (2, .int x2)] := hl
  have hS : va_S (xA g) s.heap s.heap [] := va_S.rf
  have hF : ∀ w ∈ wsX20, w.before args s = true := fun w h => hts w (List.mem_cons_of_mem _ (List.mem_append_right _ h))
  refine lv_aload_n hx hb dX2_crossOut_0 rfl (lv_at hl 0 rfl) ?_
  refine lv_iload_n hx hb dX2_crossOut_1 rfl (lv_at hl 1 rfl) ?_
  refine gVi (cx_X2_has l g (σ := σ) hw) (xMv g) ⟨hx, hb, hml, hown, hts⟩ (cwV 1 hts gX2_crossOut_X2_has rfl rfl rfl (by decide +kernel) ⟨Nat.le_of_ble_eq_true rfl, Nat.le_of_ble_eq_true rfl⟩) (xRecv_X2 hI) hI hS hl.1 rfl rfl (Nat.le_of_ble_eq_true rfl) dX2_crossOut_2 (fun r1 σ2 H locs hw hI hS => ?_)
  obtain ⟨hw, hq⟩ := hw
  rw [hq] at hI
  refine lv_if_eq (tgt := 15) hx hb dX2_crossOut_5 (by decide) (fun hc => ?_) (fun hc => ?_)
  · have hw := hw.1 hc
    exact hret _ _ _ _ _ dX2_crossOut_15 hw hI hS
  have hw := hw.2 hc
  refine lv_aload_n hx hb dX2_crossOut_8 rfl (lv_at hl 0 rfl) ?_
  refine xG_X2_crossedOn hx hb hF hown hI (hts _ (List.mem_of_getElem? (i := 1) rfl : (Cond.fieldLink RX2 18 "PlateRoom$FactBook" "crossedOn" "[I" : Cond) ∈ wsX2_crossOut)) dX2_crossOut_9 ?_
  refine lv_iload_n hx hb dX2_crossOut_12 rfl (lv_at hl 1 rfl) ?_
  refine lv_iload_n hx hb dX2_crossOut_13 rfl (lv_at hl 2 rfl) ?_
  have hin := hw.1
  have hw := hw.2
  refine xS_X2_crossedOn hx hb hI hS hin dX2_crossOut_14 (fun σ3 eσ3 H locs hI hS => ?_)
  have hw := hw σ3 eσ3
  exact hret _ _ _ _ _ dX2_crossOut_15 hw hI hS
set_option maxRecDepth 100000 in
set_option maxHeartbeats 4000000 in
theorem cx_X5_cross (l : Launch) (g : wG) {σ : wS} {x1 : Int32} {x2 : Int32} {Q : Int32 → wS → Prop} (hw : wx_X5_cross Q x1 x2 σ) : Met l yX5_cross wsX5_cross ({ frames := 2, cells := 0, slots := 0, locals := 43 } : Room) (va_Pc [.ref (g.2.1 0), .int x1, .int x2] (fun U => xIn g σ U.heap U)) (va_Qi Q (fun σ1 t => xIn g σ1 t.heap t) (xA g)) 0 0 (xA g) := by
  refine gOfZ (maxL := 4) (xMv g) (by decide) rfl (Nat.le_of_ble_eq_true rfl) ?_
  intro p e s m args below meth c QQ hx hb hml hown hts hret ls hl hI
  have hl : lv_has ls 4 [(0, .ref (g.2.1 0)), (1, .int x1), (2, .int x2)] := hl
  have hS : va_S (xA g) s.heap s.heap [] := va_S.rf
  have hF : ∀ w ∈ wsX50, w.before args s = true := fun w h => hts w (List.mem_cons_of_mem _ (List.mem_append_left _ (List.mem_append_right _ h)))
  have j34 : ∀ (x1 : Int32) (x2 : Int32) (x3 : Int32) (σ : wS) (H : Heap) (locs : List Loc) (ls : Array Slot), xIn g σ H s → va_S (xA g) s.heap H locs → lv_has ls 4 [(0, .ref (g.2.1 0)), (1, .int x1), (2, .int x2), (3, .int x3)] → wx_X5_cross_J34 Q x1 x2 x3 σ → W p l e ({ frames := 2, cells := 0, slots := 0, locals := 43 } : Room) s m args below meth c H locs 0 0 QQ (F0 m 34 ls []) := by
    intro x1 x2 x3 σ H locs ls hI hS hl hw
    refine lv_aload_n hx hb dX5_cross_34 rfl (lv_at hl 0 rfl) ?_
    refine lv_iload_n hx hb dX5_cross_35 rfl (lv_at hl 3 rfl) ?_
    refine xP_X5_lastStatus hx hb hF hown hI hS (hts _ (List.mem_of_getElem? (i := 2) rfl : (Cond.fieldLink RX5 48 "PlateRoom" "lastStatus" "I" : Cond) ∈ wsX5_cross)) dX5_cross_36 (fun σ1 eσ1 H locs hI hS => ?_)
    have hw := hw σ1 eσ1
    refine lv_iload_n hx hb dX5_cross_39 rfl (lv_at hl 3 rfl) ?_
    refine lv_if_eq (tgt := 45) hx hb dX5_cross_40 (by decide) (fun hc => ?_) (fun hc => ?_)
    · have hw := hw.1 hc
      refine lv_aload_n hx hb dX5_cross_45 rfl (lv_at hl 0 rfl) ?_
      refine xG_X5_facts hx hb hF hown hI (hts _ (List.mem_of_getElem? (i := 1) rfl : (Cond.fieldLink RX5 12 "PlateRoom" "facts" "LPlateRoom$FactBook;" : Cond) ∈ wsX5_cross)) dX5_cross_46 ?_
      refine lv_iload_n hx hb dX5_cross_49 rfl (lv_at hl 1 rfl) ?_
      refine lv_iload_n hx hb dX5_cross_50 rfl (lv_at hl 2 rfl) ?_
      refine gVv (cx_X2_crossOut l g (σ := σ1) hw) (xMv g) ⟨hx, hb, hml, hown, hts⟩ (cwV 2 hts gX5_cross_X2_crossOut rfl rfl rfl (by decide +kernel) ⟨Nat.le_of_ble_eq_true rfl, Nat.le_of_ble_eq_true rfl⟩) (xRecv_X2 hI) hI hS hl.1 rfl rfl (Nat.le_of_ble_eq_true rfl) dX5_cross_51 (fun σ2 H locs hw hI hS => ?_)
      refine lv_iconst (v := 1) hx hb dX5_cross_54 (by decide) ?_
      exact hret _ _ _ _ _ _ dX5_cross_55 isB1 hw hI hS
    have hw := hw.2 hc
    refine lv_iconst (v := 0) hx hb dX5_cross_43 (by decide) ?_
    exact hret _ _ _ _ _ _ dX5_cross_44 isB0 hw hI hS
  refine lv_aload_n hx hb dX5_cross_0 rfl (lv_at hl 0 rfl) ?_
  refine xG_X5_facts hx hb hF hown hI (hts _ (List.mem_of_getElem? (i := 1) rfl : (Cond.fieldLink RX5 12 "PlateRoom" "facts" "LPlateRoom$FactBook;" : Cond) ∈ wsX5_cross)) dX5_cross_1 ?_
  refine lv_iload_n hx hb dX5_cross_4 rfl (lv_at hl 1 rfl) ?_
  refine gVi (cx_X2_has l g (σ := σ) hw) (xMv g) ⟨hx, hb, hml, hown, hts⟩ (cwV 1 hts gX5_cross_X2_has rfl rfl rfl (by decide +kernel) ⟨Nat.le_of_ble_eq_true rfl, Nat.le_of_ble_eq_true rfl⟩) (xRecv_X2 hI) hI hS hl.1 rfl rfl (Nat.le_of_ble_eq_true rfl) dX5_cross_5 (fun r1 σ2 H locs hw hI hS => ?_)
  obtain ⟨hw, hq⟩ := hw
  rw [hq] at hI
  refine lv_iload_n hx hb dX5_cross_8 rfl (lv_at hl 2 rfl) ?_
  refine gSi (cx_X5_isDay l g (σ := σ) hw) (xMv g) ⟨hx, hb, hml, hown, hts⟩ (va_cwS 1 hts gX5_cross_X5_isDay rfl rfl rfl (by decide +kernel) ⟨Nat.le_of_ble_eq_true rfl, Nat.le_of_ble_eq_true rfl⟩) hI hS hl.1 rfl rfl (Nat.le_of_ble_eq_true rfl) dX5_cross_9 (fun r3 σ4 H locs hw hI hS => ?_)
  obtain ⟨hw, hq⟩ := hw
  rw [hq] at hI
  refine gSi (cx_X5_whyNot l g (σ := σ) hw) (xMv g) ⟨hx, hb, hml, hown, hts⟩ (va_cwS 2 hts gX5_cross_X5_whyNot rfl rfl rfl (by decide +kernel) ⟨Nat.le_of_ble_eq_true rfl, Nat.le_of_ble_eq_true rfl⟩) hI hS hl.1 rfl rfl (Nat.le_of_ble_eq_true rfl) dX5_cross_12 (fun r5 σ6 H locs hw hI hS => ?_)
  obtain ⟨hw, hq⟩ := hw
  rw [hq] at hI
  refine lv_istore_n (lv' := [(3, .int r5), (0, .ref (g.2.1 0)), (1, .int x1), (2, .int x2)]) hx hb dX5_cross_15 rfl hl (by decide) rfl (fun ls hl => ?_)
  refine lv_iload_n hx hb dX5_cross_16 rfl (lv_at hl 0 rfl) ?_
  refine lv_if_ne (tgt := 34) hx hb dX5_cross_17 (by decide) (fun hc => ?_) (fun hc => ?_)
  · have hw := hw.1 hc
    exact j34 _ _ _ _ _ _ _ hI hS (lv_sub hl [1, 2, 3, 0] rfl) hw
  have hw := hw.2 hc
  refine lv_aload_n hx hb dX5_cross_20 rfl (lv_at hl 1 rfl) ?_
  refine xG_X5_facts hx hb hF hown hI (hts _ (List.mem_of_getElem? (i := 1) rfl : (Cond.fieldLink RX5 12 "PlateRoom" "facts" "LPlateRoom$FactBook;" : Cond) ∈ wsX5_cross)) dX5_cross_21 ?_
  refine lv_iload_n hx hb dX5_cross_24 rfl (lv_at hl 2 rfl) ?_
  refine gVi (cx_X2_crossingDay l g (σ := σ) hw) (xMv g) ⟨hx, hb, hml, hown, hts⟩ (cwV 1 hts gX5_cross_X2_crossingDay rfl rfl rfl (by decide +kernel) ⟨Nat.le_of_ble_eq_true rfl, Nat.le_of_ble_eq_true rfl⟩) (xRecv_X2 hI) hI hS hl.1 rfl rfl (Nat.le_of_ble_eq_true rfl) dX5_cross_25 (fun r7 σ8 H locs hw hI hS => ?_)
  obtain ⟨hw, hq⟩ := hw
  rw [hq] at hI
  refine lv_iconst (v := (-1)) hx hb dX5_cross_28 (by decide) ?_
  refine lv_icmp_eq (tgt := 34) hx hb dX5_cross_29 (by decide) (fun hc => ?_) (fun hc => ?_)
  · have hw := hw.1 hc
    exact j34 _ _ _ _ _ _ _ hI hS (lv_sub hl [1, 2, 3, 0] rfl) hw
  have hw := hw.2 hc
  refine lv_iconst (v := 4) hx hb dX5_cross_32 (by decide) ?_
  refine lv_istore_n (lv' := [(3, .int 4), (0, .ref (g.2.1 0)), (1, .int x1), (2, .int x2)]) hx hb dX5_cross_33 rfl hl (by decide) rfl (fun ls hl => ?_)
  exact j34 _ _ _ _ _ _ _ hI hS (lv_sub hl [1, 2, 3, 0] rfl) hw
set_option maxRecDepth 100000 in
set_option maxHeartbeats 4000000 in
theorem cx_X2_kindOf (l : Launch) (g : wG) {σ : wS} {x1 : Int32} {Q : Int32 → Prop} (hw : wx_X2_kindOf Q x1 σ) : Met l yX2_kindOf wsX2_kindOf ({ frames := 1, cells := 0, slots := 0, locals := 21 } : Room) (va_Pc [.ref (g.2.1 3), .int x1] (fun U => xIn g σ U.heap U)) (va_Qi (fun r σ1 => Q r ∧ σ1 = σ) (fun σ1 t => xIn g σ1 t.heap t) (xA g)) 0 0 (xA g) := by
  refine gOfI (maxL := 2) (xMv g) (by decide) rfl (Nat.le_of_ble_eq_true rfl) ?_
  intro p e s m args below meth c QQ hx hb hml hown hts hret ls hl hI
  have hl : lv_has ls 2 [(0, .ref (g.2.1 3)), (1, .int x1)] := hl
  have hS : va_S (xA g) s.heap s.heap [] := va_S.rf
  have hF : ∀ w ∈ wsX20, w.before args s = true := fun w h => hts w (List.mem_cons_of_mem _ (List.mem_append_right _ h))
  refine lv_aload_n hx hb dX2_kindOf_0 rfl (lv_at hl 0 rfl) ?_
  refine lv_iload_n hx hb dX2_kindOf_1 rfl (lv_at hl 1 rfl) ?_
  refine gVi (cx_X2_has l g (σ := σ) hw) (xMv g) ⟨hx, hb, hml, hown, hts⟩ (cwV 1 hts gX2_kindOf_X2_has rfl rfl rfl (by decide +kernel) ⟨Nat.le_of_ble_eq_true rfl, Nat.le_of_ble_eq_true rfl⟩) (xRecv_X2 hI) hI hS hl.1 rfl rfl (Nat.le_of_ble_eq_true rfl) dX2_kindOf_2 (fun r1 σ2 H locs hw hI hS => ?_)
  obtain ⟨hw, hq⟩ := hw
  rw [hq] at hI
  refine lv_if_eq (tgt := 17) hx hb dX2_kindOf_5 (by decide) (fun hc => ?_) (fun hc => ?_)
  · have hw := hw.1 hc
    refine lv_iconst (v := (-1)) hx hb dX2_kindOf_17 (by decide) ?_
    exact hret _ _ _ _ _ _ dX2_kindOf_18 ⟨hw, rfl⟩ hI hS
  have hw := hw.2 hc
  refine lv_aload_n hx hb dX2_kindOf_8 rfl (lv_at hl 0 rfl) ?_
  refine xG_X2_kinds hx hb hF hown hI (hts _ (List.mem_of_getElem? (i := 1) rfl : (Cond.fieldLink RX2 9 "PlateRoom$FactBook" "kinds" "[I" : Cond) ∈ wsX2_kindOf)) dX2_kindOf_9 ?_
  refine lv_iload_n hx hb dX2_kindOf_12 rfl (lv_at hl 1 rfl) ?_
  have hin := hw.1
  have hw := hw.2
  refine xR_X2_kinds hx hb hI hin dX2_kindOf_13 ?_
  refine lv_goto (tgt := 18) hx hb dX2_kindOf_14 (by decide) ?_
  exact hret _ _ _ _ _ _ dX2_kindOf_18 ⟨hw, rfl⟩ hI hS
set_option maxRecDepth 100000 in
set_option maxHeartbeats 4000000 in
theorem cx_X2_tellingDay (l : Launch) (g : wG) {σ : wS} {x1 : Int32} {Q : Int32 → Prop} (hw : wx_X2_tellingDay Q x1 σ) : Met l yX2_tellingDay wsX2_tellingDay ({ frames := 1, cells := 0, slots := 0, locals := 21 } : Room) (va_Pc [.ref (g.2.1 3), .int x1] (fun U => xIn g σ U.heap U)) (va_Qi (fun r σ1 => Q r ∧ σ1 = σ) (fun σ1 t => xIn g σ1 t.heap t) (xA g)) 0 0 (xA g) := by
  refine gOfI (maxL := 2) (xMv g) (by decide) rfl (Nat.le_of_ble_eq_true rfl) ?_
  intro p e s m args below meth c QQ hx hb hml hown hts hret ls hl hI
  have hl : lv_has ls 2 [(0, .ref (g.2.1 3)), (1, .int x1)] := hl
  have hS : va_S (xA g) s.heap s.heap [] := va_S.rf
  have hF : ∀ w ∈ wsX20, w.before args s = true := fun w h => hts w (List.mem_cons_of_mem _ (List.mem_append_right _ h))
  refine lv_aload_n hx hb dX2_tellingDay_0 rfl (lv_at hl 0 rfl) ?_
  refine lv_iload_n hx hb dX2_tellingDay_1 rfl (lv_at hl 1 rfl) ?_
  refine gVi (cx_X2_has l g (σ := σ) hw) (xMv g) ⟨hx, hb, hml, hown, hts⟩ (cwV 1 hts gX2_tellingDay_X2_has rfl rfl rfl (by decide +kernel) ⟨Nat.le_of_ble_eq_true rfl, Nat.le_of_ble_eq_true rfl⟩) (xRecv_X2 hI) hI hS hl.1 rfl rfl (Nat.le_of_ble_eq_true rfl) dX2_tellingDay_2 (fun r1 σ2 H locs hw hI hS => ?_)
  obtain ⟨hw, hq⟩ := hw
  rw [hq] at hI
  refine lv_if_eq (tgt := 17) hx hb dX2_tellingDay_5 (by decide) (fun hc => ?_) (fun hc => ?_)
  · have hw := hw.1 hc
    refine lv_iconst (v := (-1)) hx hb dX2_tellingDay_17 (by decide) ?_
    exact hret _ _ _ _ _ _ dX2_tellingDay_18 ⟨hw, rfl⟩ hI hS
  have hw := hw.2 hc
  refine lv_aload_n hx hb dX2_tellingDay_8 rfl (lv_at hl 0 rfl) ?_
  refine xG_X2_toldOn hx hb hF hown hI (hts _ (List.mem_of_getElem? (i := 1) rfl : (Cond.fieldLink RX2 15 "PlateRoom$FactBook" "toldOn" "[I" : Cond) ∈ wsX2_tellingDay)) dX2_tellingDay_9 ?_
  refine lv_iload_n hx hb dX2_tellingDay_12 rfl (lv_at hl 1 rfl) ?_
  have hin := hw.1
  have hw := hw.2
  refine xR_X2_toldOn hx hb hI hin dX2_tellingDay_13 ?_
  refine lv_goto (tgt := 18) hx hb dX2_tellingDay_14 (by decide) ?_
  exact hret _ _ _ _ _ _ dX2_tellingDay_18 ⟨hw, rfl⟩ hI hS
set_option maxRecDepth 100000 in
set_option maxHeartbeats 4000000 in
theorem cx_X2_limitsOf (l : Launch) (g : wG) {σ : wS} {x1 : Int32} {Q : Int32 → Prop} (hw : wx_X2_limitsOf Q x1 σ) : Met l yX2_limitsOf wsX2_limitsOf ({ frames := 1, cells := 0, slots := 0, locals := 21 } : Room) (va_Pc [.ref (g.2.1 3), .int x1] (fun U => xIn g σ U.heap U)) (va_Qi (fun r σ1 => Q r ∧ σ1 = σ) (fun σ1 t => xIn g σ1 t.heap t) (xA g)) 0 0 (xA g) := by
  refine gOfI (maxL := 2) (xMv g) (by decide) rfl (Nat.le_of_ble_eq_true rfl) ?_
  intro p e s m args below meth c QQ hx hb hml hown hts hret ls hl hI
  have hl : lv_has ls 2 [(0, .ref (g.2.1 3)), (1, .int x1)] := hl
  have hS : va_S (xA g) s.heap s.heap [] := va_S.rf
  have hF : ∀ w ∈ wsX20, w.before args s = true := fun w h => hts w (List.mem_cons_of_mem _ (List.mem_append_right _ h))
  refine lv_aload_n hx hb dX2_limitsOf_0 rfl (lv_at hl 0 rfl) ?_
  refine lv_iload_n hx hb dX2_limitsOf_1 rfl (lv_at hl 1 rfl) ?_
  refine gVi (cx_X2_has l g (σ := σ) hw) (xMv g) ⟨hx, hb, hml, hown, hts⟩ (cwV 1 hts gX2_limitsOf_X2_has rfl rfl rfl (by decide +kernel) ⟨Nat.le_of_ble_eq_true rfl, Nat.le_of_ble_eq_true rfl⟩) (xRecv_X2 hI) hI hS hl.1 rfl rfl (Nat.le_of_ble_eq_true rfl) dX2_limitsOf_2 (fun r1 σ2 H locs hw hI hS => ?_)
  obtain ⟨hw, hq⟩ := hw
  rw [hq] at hI
  refine lv_if_eq (tgt := 17) hx hb dX2_limitsOf_5 (by decide) (fun hc => ?_) (fun hc => ?_)
  · have hw := hw.1 hc
    refine lv_iconst (v := 0) hx hb dX2_limitsOf_17 (by decide) ?_
    exact hret _ _ _ _ _ _ dX2_limitsOf_18 ⟨hw, rfl⟩ hI hS
  have hw := hw.2 hc
  refine lv_aload_n hx hb dX2_limitsOf_8 rfl (lv_at hl 0 rfl) ?_
  refine xG_X2_limitCounts hx hb hF hown hI (hts _ (List.mem_of_getElem? (i := 1) rfl : (Cond.fieldLink RX2 21 "PlateRoom$FactBook" "limitCounts" "[I" : Cond) ∈ wsX2_limitsOf)) dX2_limitsOf_9 ?_
  refine lv_iload_n hx hb dX2_limitsOf_12 rfl (lv_at hl 1 rfl) ?_
  have hin := hw.1
  have hw := hw.2
  refine xR_X2_limitCounts hx hb hI hin dX2_limitsOf_13 ?_
  refine lv_goto (tgt := 18) hx hb dX2_limitsOf_14 (by decide) ?_
  exact hret _ _ _ _ _ _ dX2_limitsOf_18 ⟨hw, rfl⟩ hI hS
set_option maxRecDepth 100000 in
set_option maxHeartbeats 4000000 in
theorem cx_X5_fact (l : Launch) (g : wG) {σ : wS} {x1 : Int32} {x2 : Int32} {Q : Int32 → wS → Prop} (hw : wx_X5_fact Q x1 x2 σ) : Met l yX5_fact wsX5_fact ({ frames := 2, cells := 0, slots := 0, locals := 42 } : Room) (va_Pc [.ref (g.2.1 0), .int x1, .int x2] (fun U => xIn g σ U.heap U)) (va_Qi Q (fun σ1 t => xIn g σ1 t.heap t) (xA g)) 0 0 (xA g) := by
  refine gOfI (maxL := 4) (xMv g) (by decide) rfl (Nat.le_of_ble_eq_true rfl) ?_
  intro p e s m args below meth c QQ hx hb hml hown hts hret ls hl hI
  have hl : lv_has ls 4 [(0, .ref (g.2.1 0)), (1, .int x1), (2, .int x2)] := hl
  have hS : va_S (xA g) s.heap s.heap [] := va_S.rf
  have hF : ∀ w ∈ wsX50, w.before args s = true := fun w h => hts w (List.mem_cons_of_mem _ (List.mem_append_left _ (List.mem_append_right _ h)))
  refine lv_aload_n hx hb dX5_fact_0 rfl (lv_at hl 0 rfl) ?_
  refine xG_X5_facts hx hb hF hown hI (hts _ (List.mem_of_getElem? (i := 1) rfl : (Cond.fieldLink RX5 12 "PlateRoom" "facts" "LPlateRoom$FactBook;" : Cond) ∈ wsX5_fact)) dX5_fact_1 ?_
  refine lv_iload_n hx hb dX5_fact_4 rfl (lv_at hl 1 rfl) ?_
  refine gVi (cx_X2_has l g (σ := σ) hw) (xMv g) ⟨hx, hb, hml, hown, hts⟩ (cwV 1 hts gX5_fact_X2_has rfl rfl rfl (by decide +kernel) ⟨Nat.le_of_ble_eq_true rfl, Nat.le_of_ble_eq_true rfl⟩) (xRecv_X2 hI) hI hS hl.1 rfl rfl (Nat.le_of_ble_eq_true rfl) dX5_fact_5 (fun r1 σ2 H locs hw hI hS => ?_)
  obtain ⟨hw, hq⟩ := hw
  rw [hq] at hI
  refine lv_iload_n hx hb dX5_fact_8 rfl (lv_at hl 2 rfl) ?_
  refine lv_iconst (v := 0) hx hb dX5_fact_9 (by decide) ?_
  refine lv_iconst (v := 3) hx hb dX5_fact_10 (by decide) ?_
  refine gSi (cx_X5_isWithin l g (σ := σ) hw) (xMv g) ⟨hx, hb, hml, hown, hts⟩ (va_cwS 3 hts gX5_fact_X5_isWithin rfl rfl rfl (by decide +kernel) ⟨Nat.le_of_ble_eq_true rfl, Nat.le_of_ble_eq_true rfl⟩) hI hS hl.1 rfl rfl (Nat.le_of_ble_eq_true rfl) dX5_fact_11 (fun r3 σ4 H locs hw hI hS => ?_)
  obtain ⟨hw, hq⟩ := hw
  rw [hq] at hI
  refine gSi (cx_X5_whyNot l g (σ := σ) hw) (xMv g) ⟨hx, hb, hml, hown, hts⟩ (va_cwS 2 hts gX5_fact_X5_whyNot rfl rfl rfl (by decide +kernel) ⟨Nat.le_of_ble_eq_true rfl, Nat.le_of_ble_eq_true rfl⟩) hI hS hl.1 rfl rfl (Nat.le_of_ble_eq_true rfl) dX5_fact_14 (fun r5 σ6 H locs hw hI hS => ?_)
  obtain ⟨hw, hq⟩ := hw
  rw [hq] at hI
  refine lv_istore_n (lv' := [(3, .int r5), (0, .ref (g.2.1 0)), (1, .int x1), (2, .int x2)]) hx hb dX5_fact_17 rfl hl (by decide) rfl (fun ls hl => ?_)
  refine lv_iload_n hx hb dX5_fact_18 rfl (lv_at hl 0 rfl) ?_
  refine lv_if_eq (tgt := 28) hx hb dX5_fact_19 (by decide) (fun hc => ?_) (fun hc => ?_)
  · have hw := hw.1 hc
    refine lv_iload_n hx hb dX5_fact_28 rfl (lv_at hl 3 rfl) ?_
    by_cases q0 : x2 = 0
    · have hw := hw.1 q0
      refine lv_tableIn (tgt := 56) hx hb dX5_fact_29 (by rw [q0]; decide) (by rw [q0]; decide) (by rw [q0]; rfl) (by decide) ?_
      refine lv_aload_n hx hb dX5_fact_56 rfl (lv_at hl 1 rfl) ?_
      refine lv_aload_n hx hb dX5_fact_57 rfl (lv_at hl 1 rfl) ?_
      refine xG_X5_facts hx hb hF hown hI (hts _ (List.mem_of_getElem? (i := 1) rfl : (Cond.fieldLink RX5 12 "PlateRoom" "facts" "LPlateRoom$FactBook;" : Cond) ∈ wsX5_fact)) dX5_fact_58 ?_
      refine lv_iload_n hx hb dX5_fact_61 rfl (lv_at hl 2 rfl) ?_
      refine gVi (cx_X2_kindOf l g (σ := σ) hw) (xMv g) ⟨hx, hb, hml, hown, hts⟩ (cwV 1 hts gX5_fact_X2_kindOf rfl rfl rfl (by decide +kernel) ⟨Nat.le_of_ble_eq_true rfl, Nat.le_of_ble_eq_true rfl⟩) (xRecv_X2 hI) hI hS hl.1 rfl rfl (Nat.le_of_ble_eq_true rfl) dX5_fact_62 (fun r7 σ8 H locs hw hI hS => ?_)
      obtain ⟨hw, hq⟩ := hw
      rw [hq] at hI
      refine gVi (cx_X5_answer l g (σ := σ) hw) (xMv g) ⟨hx, hb, hml, hown, hts⟩ (cwV 1 hts gX5_fact_X5_answer rfl rfl rfl (by decide +kernel) ⟨Nat.le_of_ble_eq_true rfl, Nat.le_of_ble_eq_true rfl⟩) (xRecv_X5 hI) hI hS hl.1 rfl rfl (Nat.le_of_ble_eq_true rfl) dX5_fact_65 (fun r9 σ10 H locs hw hI hS => ?_)
      exact hret _ _ _ _ _ _ dX5_fact_68 hw hI hS
    have hw := hw.2
    by_cases q1 : x2 = 1
    · have hw := hw.1 q1
      refine lv_tableIn (tgt := 69) hx hb dX5_fact_29 (by rw [q1]; decide) (by rw [q1]; decide) (by rw [q1]; rfl) (by decide) ?_
      refine lv_aload_n hx hb dX5_fact_69 rfl (lv_at hl 1 rfl) ?_
      refine lv_aload_n hx hb dX5_fact_70 rfl (lv_at hl 1 rfl) ?_
      refine xG_X5_facts hx hb hF hown hI (hts _ (List.mem_of_getElem? (i := 1) rfl : (Cond.fieldLink RX5 12 "PlateRoom" "facts" "LPlateRoom$FactBook;" : Cond) ∈ wsX5_fact)) dX5_fact_71 ?_
      refine lv_iload_n hx hb dX5_fact_74 rfl (lv_at hl 2 rfl) ?_
      refine gVi (cx_X2_tellingDay l g (σ := σ) hw) (xMv g) ⟨hx, hb, hml, hown, hts⟩ (cwV 1 hts gX5_fact_X2_tellingDay rfl rfl rfl (by decide +kernel) ⟨Nat.le_of_ble_eq_true rfl, Nat.le_of_ble_eq_true rfl⟩) (xRecv_X2 hI) hI hS hl.1 rfl rfl (Nat.le_of_ble_eq_true rfl) dX5_fact_75 (fun r11 σ12 H locs hw hI hS => ?_)
      obtain ⟨hw, hq⟩ := hw
      rw [hq] at hI
      refine gVi (cx_X5_answer l g (σ := σ) hw) (xMv g) ⟨hx, hb, hml, hown, hts⟩ (cwV 1 hts gX5_fact_X5_answer rfl rfl rfl (by decide +kernel) ⟨Nat.le_of_ble_eq_true rfl, Nat.le_of_ble_eq_true rfl⟩) (xRecv_X5 hI) hI hS hl.1 rfl rfl (Nat.le_of_ble_eq_true rfl) dX5_fact_78 (fun r13 σ14 H locs hw hI hS => ?_)
      exact hret _ _ _ _ _ _ dX5_fact_81 hw hI hS
    have hw := hw.2
    by_cases q2 : x2 = 2
    · have hw := hw.1 q2
      refine lv_tableIn (tgt := 82) hx hb dX5_fact_29 (by rw [q2]; decide) (by rw [q2]; decide) (by rw [q2]; rfl) (by decide) ?_
      refine lv_aload_n hx hb dX5_fact_82 rfl (lv_at hl 1 rfl) ?_
      refine lv_aload_n hx hb dX5_fact_83 rfl (lv_at hl 1 rfl) ?_
      refine xG_X5_facts hx hb hF hown hI (hts _ (List.mem_of_getElem? (i := 1) rfl : (Cond.fieldLink RX5 12 "PlateRoom" "facts" "LPlateRoom$FactBook;" : Cond) ∈ wsX5_fact)) dX5_fact_84 ?_
      refine lv_iload_n hx hb dX5_fact_87 rfl (lv_at hl 2 rfl) ?_
      refine gVi (cx_X2_crossingDay l g (σ := σ) hw) (xMv g) ⟨hx, hb, hml, hown, hts⟩ (cwV 1 hts gX5_fact_X2_crossingDay rfl rfl rfl (by decide +kernel) ⟨Nat.le_of_ble_eq_true rfl, Nat.le_of_ble_eq_true rfl⟩) (xRecv_X2 hI) hI hS hl.1 rfl rfl (Nat.le_of_ble_eq_true rfl) dX5_fact_88 (fun r15 σ16 H locs hw hI hS => ?_)
      obtain ⟨hw, hq⟩ := hw
      rw [hq] at hI
      refine gVi (cx_X5_answer l g (σ := σ) hw) (xMv g) ⟨hx, hb, hml, hown, hts⟩ (cwV 1 hts gX5_fact_X5_answer rfl rfl rfl (by decide +kernel) ⟨Nat.le_of_ble_eq_true rfl, Nat.le_of_ble_eq_true rfl⟩) (xRecv_X5 hI) hI hS hl.1 rfl rfl (Nat.le_of_ble_eq_true rfl) dX5_fact_91 (fun r17 σ18 H locs hw hI hS => ?_)
      exact hret _ _ _ _ _ _ dX5_fact_94 hw hI hS
    have hw := hw.2
    have hw := hw q0 q1 q2
    refine lv_tableOut (tgt := 95) hx hb dX5_fact_29 (gSw3 q0 q1 q2) (by decide) ?_
    refine lv_aload_n hx hb dX5_fact_95 rfl (lv_at hl 1 rfl) ?_
    refine lv_aload_n hx hb dX5_fact_96 rfl (lv_at hl 1 rfl) ?_
    refine xG_X5_facts hx hb hF hown hI (hts _ (List.mem_of_getElem? (i := 1) rfl : (Cond.fieldLink RX5 12 "PlateRoom" "facts" "LPlateRoom$FactBook;" : Cond) ∈ wsX5_fact)) dX5_fact_97 ?_
    refine lv_iload_n hx hb dX5_fact_100 rfl (lv_at hl 2 rfl) ?_
    refine gVi (cx_X2_limitsOf l g (σ := σ) hw) (xMv g) ⟨hx, hb, hml, hown, hts⟩ (cwV 1 hts gX5_fact_X2_limitsOf rfl rfl rfl (by decide +kernel) ⟨Nat.le_of_ble_eq_true rfl, Nat.le_of_ble_eq_true rfl⟩) (xRecv_X2 hI) hI hS hl.1 rfl rfl (Nat.le_of_ble_eq_true rfl) dX5_fact_101 (fun r19 σ20 H locs hw hI hS => ?_)
    obtain ⟨hw, hq⟩ := hw
    rw [hq] at hI
    refine gVi (cx_X5_answer l g (σ := σ) hw) (xMv g) ⟨hx, hb, hml, hown, hts⟩ (cwV 1 hts gX5_fact_X5_answer rfl rfl rfl (by decide +kernel) ⟨Nat.le_of_ble_eq_true rfl, Nat.le_of_ble_eq_true rfl⟩) (xRecv_X5 hI) hI hS hl.1 rfl rfl (Nat.le_of_ble_eq_true rfl) dX5_fact_104 (fun r21 σ22 H locs hw hI hS => ?_)
    exact hret _ _ _ _ _ _ dX5_fact_107 hw hI hS
  have hw := hw.2 hc
  refine lv_aload_n hx hb dX5_fact_22 rfl (lv_at hl 1 rfl) ?_
  refine lv_iload_n hx hb dX5_fact_23 rfl (lv_at hl 0 rfl) ?_
  refine gVi (cx_X5_refuse l g (σ := σ) hw) (xMv g) ⟨hx, hb, hml, hown, hts⟩ (cwV 1 hts gX5_fact_X5_refuse rfl rfl rfl (by decide +kernel) ⟨Nat.le_of_ble_eq_true rfl, Nat.le_of_ble_eq_true rfl⟩) (xRecv_X5 hI) hI hS hl.1 rfl rfl (Nat.le_of_ble_eq_true rfl) dX5_fact_24 (fun r23 σ24 H locs hw hI hS => ?_)
  exact hret _ _ _ _ _ _ dX5_fact_27 hw hI hS
set_option maxRecDepth 100000 in
set_option maxHeartbeats 4000000 in
theorem cx_X2_size (l : Launch) (g : wG) {σ : wS} {Q : Int32 → Prop} (hw : wx_X2_size Q σ) : Met l yX2_size wsX2_size ({ frames := 0, cells := 0, slots := 0, locals := 0 } : Room) (va_Pc [.ref (g.2.1 3)] (fun U => xIn g σ U.heap U)) (va_Qi (fun r σ1 => Q r ∧ σ1 = σ) (fun σ1 t => xIn g σ1 t.heap t) (xA g)) 0 0 (xA g) := by
  refine gOfI (maxL := 1) (xMv g) (by decide) rfl (Nat.le_of_ble_eq_true rfl) ?_
  intro p e s m args below meth c QQ hx hb hml hown hts hret ls hl hI
  have hl : lv_has ls 1 [(0, .ref (g.2.1 3))] := hl
  have hS : va_S (xA g) s.heap s.heap [] := va_S.rf
  have hF : ∀ w ∈ wsX20, w.before args s = true := fun w h => hts w (List.mem_cons_of_mem _ (List.mem_append_right _ h))
  refine lv_aload_n hx hb dX2_size_0 rfl (lv_at hl 0 rfl) ?_
  refine xG_X2_count hx hb hF hown hI (hts _ (List.mem_of_getElem? (i := 1) rfl : (Cond.fieldLink RX2 33 "PlateRoom$FactBook" "count" "I" : Cond) ∈ wsX2_size)) dX2_size_1 ?_
  exact hret _ _ _ _ _ _ dX2_size_4 ⟨hw, rfl⟩ hI hS
set_option maxRecDepth 100000 in
set_option maxHeartbeats 4000000 in
theorem cx_X2_isKnown (l : Launch) (g : wG) {σ : wS} {x1 : Int32} {x2 : Int32} {Q : Int32 → Prop} (hw : wx_X2_isKnown Q x1 x2 σ) : Met l yX2_isKnown wsX2_isKnown ({ frames := 1, cells := 0, slots := 0, locals := 21 } : Room) (va_Pc [.ref (g.2.1 3), .int x1, .int x2] (fun U => xIn g σ U.heap U)) (va_Qi (fun r σ1 => Q r ∧ σ1 = σ) (fun σ1 t => xIn g σ1 t.heap t) (xA g)) 0 0 (xA g) := by
  refine gOfZ (maxL := 3) (xMv g) (by decide) rfl (Nat.le_of_ble_eq_true rfl) ?_
  intro p e s m args below meth c QQ hx hb hml hown hts hret ls hl hI
  have hl : lv_has ls 3 [(0, .ref (g.2.1 3)), (1, .int x1), (2, .int x2)] := hl
  have hS : va_S (xA g) s.heap s.heap [] := va_S.rf
  have hF : ∀ w ∈ wsX20, w.before args s = true := fun w h => hts w (List.mem_cons_of_mem _ (List.mem_append_right _ h))
  refine lv_aload_n hx hb dX2_isKnown_0 rfl (lv_at hl 0 rfl) ?_
  refine lv_iload_n hx hb dX2_isKnown_1 rfl (lv_at hl 1 rfl) ?_
  refine gVi (cx_X2_has l g (σ := σ) hw) (xMv g) ⟨hx, hb, hml, hown, hts⟩ (cwV 1 hts gX2_isKnown_X2_has rfl rfl rfl (by decide +kernel) ⟨Nat.le_of_ble_eq_true rfl, Nat.le_of_ble_eq_true rfl⟩) (xRecv_X2 hI) hI hS hl.1 rfl rfl (Nat.le_of_ble_eq_true rfl) dX2_isKnown_2 (fun r1 σ2 H locs hw hI hS => ?_)
  obtain ⟨hw, hq⟩ := hw
  rw [hq] at hI
  refine lv_if_eq (tgt := 18) hx hb dX2_isKnown_5 (by decide) (fun hc => ?_) (fun hc => ?_)
  · have hw := hw.1 hc
    refine lv_iconst (v := 0) hx hb dX2_isKnown_18 (by decide) ?_
    exact hret _ _ _ _ _ _ dX2_isKnown_19 isB0 ⟨hw, rfl⟩ hI hS
  have hw := hw.2 hc
  refine lv_aload_n hx hb dX2_isKnown_8 rfl (lv_at hl 0 rfl) ?_
  refine xG_X2_toldOn hx hb hF hown hI (hts _ (List.mem_of_getElem? (i := 1) rfl : (Cond.fieldLink RX2 15 "PlateRoom$FactBook" "toldOn" "[I" : Cond) ∈ wsX2_isKnown)) dX2_isKnown_9 ?_
  refine lv_iload_n hx hb dX2_isKnown_12 rfl (lv_at hl 1 rfl) ?_
  have hin := hw.1
  have hw := hw.2
  refine xR_X2_toldOn hx hb hI hin dX2_isKnown_13 ?_
  refine lv_iload_n hx hb dX2_isKnown_14 rfl (lv_at hl 2 rfl) ?_
  refine lv_icmp_le (tgt := 20) hx hb dX2_isKnown_15 (by decide) (fun hc => ?_) (fun hc => ?_)
  · have hw := hw.1 hc
    refine lv_aload_n hx hb dX2_isKnown_20 rfl (lv_at hl 0 rfl) ?_
    refine xG_X2_crossedOn hx hb hF hown hI (hts _ (List.mem_of_getElem? (i := 2) rfl : (Cond.fieldLink RX2 18 "PlateRoom$FactBook" "crossedOn" "[I" : Cond) ∈ wsX2_isKnown)) dX2_isKnown_21 ?_
    refine lv_iload_n hx hb dX2_isKnown_24 rfl (lv_at hl 1 rfl) ?_
    have hin := hw.1
    have hw := hw.2
    refine xR_X2_crossedOn hx hb hI hin dX2_isKnown_25 ?_
    refine lv_iconst (v := (-1)) hx hb dX2_isKnown_26 (by decide) ?_
    refine lv_icmp_eq (tgt := 40) hx hb dX2_isKnown_27 (by decide) (fun hc => ?_) (fun hc => ?_)
    · have hw := hw.1 hc
      refine lv_iconst (v := 1) hx hb dX2_isKnown_40 (by decide) ?_
      refine lv_goto (tgt := 45) hx hb dX2_isKnown_41 (by decide) ?_
      exact hret _ _ _ _ _ _ dX2_isKnown_45 isB1 ⟨hw, rfl⟩ hI hS
    have hw := hw.2 hc
    refine lv_aload_n hx hb dX2_isKnown_30 rfl (lv_at hl 0 rfl) ?_
    refine xG_X2_crossedOn hx hb hF hown hI (hts _ (List.mem_of_getElem? (i := 2) rfl : (Cond.fieldLink RX2 18 "PlateRoom$FactBook" "crossedOn" "[I" : Cond) ∈ wsX2_isKnown)) dX2_isKnown_31 ?_
    refine lv_iload_n hx hb dX2_isKnown_34 rfl (lv_at hl 1 rfl) ?_
    have hin := hw.1
    have hw := hw.2
    refine xR_X2_crossedOn hx hb hI hin dX2_isKnown_35 ?_
    refine lv_iload_n hx hb dX2_isKnown_36 rfl (lv_at hl 2 rfl) ?_
    refine lv_icmp_le (tgt := 44) hx hb dX2_isKnown_37 (by decide) (fun hc => ?_) (fun hc => ?_)
    · have hw := hw.1 hc
      refine lv_iconst (v := 0) hx hb dX2_isKnown_44 (by decide) ?_
      exact hret _ _ _ _ _ _ dX2_isKnown_45 isB0 ⟨hw, rfl⟩ hI hS
    have hw := hw.2 hc
    refine lv_iconst (v := 1) hx hb dX2_isKnown_40 (by decide) ?_
    refine lv_goto (tgt := 45) hx hb dX2_isKnown_41 (by decide) ?_
    exact hret _ _ _ _ _ _ dX2_isKnown_45 isB1 ⟨hw, rfl⟩ hI hS
  have hw := hw.2 hc
  refine lv_iconst (v := 0) hx hb dX2_isKnown_18 (by decide) ?_
  exact hret _ _ _ _ _ _ dX2_isKnown_19 isB0 ⟨hw, rfl⟩ hI hS
set_option maxRecDepth 100000 in
set_option maxHeartbeats 4000000 in
theorem cx_X4_setLimit (l : Launch) (g : wG) {σ : wS} {x1 : Int32} {x2 : Int32} {x3 : Int32} {x4 : Int32} {Q : wS → Prop} (hw : wx_X4_setLimit Q x1 x2 x3 x4 σ) : Met l yX4_setLimit wsX4_setLimit ({ frames := 0, cells := 0, slots := 0, locals := 0 } : Room) (va_Pc [.ref (g.2.1 5), .int x1, .int x2, .int x3, .int x4] (fun U => xIn g σ U.heap U)) (va_Qv Q (fun σ1 t => xIn g σ1 t.heap t) (xA g)) 0 0 (xA g) := by
  refine gOfV (maxL := 5) (xMv g) (by decide) rfl (Nat.le_of_ble_eq_true rfl) ?_
  intro p e s m args below meth c QQ hx hb hml hown hts hret ls hl hI
  have hl : lv_has ls 5 [(0, .ref (g.2.1 5)), (1, .int x1), (2, .int x2), (3, .int x3), (4, .int x4)] := hl
  have hS : va_S (xA g) s.heap s.heap [] := va_S.rf
  have hF : ∀ w ∈ wsX40, w.before args s = true := fun w h => hts w (List.mem_cons_of_mem _ (List.mem_append_right _ h))
  refine lv_iload_n hx hb dX4_setLimit_0 rfl (lv_at hl 1 rfl) ?_
  refine lv_if_lt (tgt := 11) hx hb dX4_setLimit_1 (by decide) (fun hc => ?_) (fun hc => ?_)
  · have hw := hw.1 hc
    exact hret _ _ _ _ _ dX4_setLimit_11 hw hI hS
  have hw := hw.2 hc
  refine lv_iload_n hx hb dX4_setLimit_4 rfl (lv_at hl 1 rfl) ?_
  refine lv_sipush (v := 200) hx hb dX4_setLimit_5 (by decide) ?_
  refine lv_icmp_lt (tgt := 12) hx hb dX4_setLimit_8 (by decide) (fun hc => ?_) (fun hc => ?_)
  · have hw := hw.1 hc
    refine lv_aload_n hx hb dX4_setLimit_12 rfl (lv_at hl 0 rfl) ?_
    refine xG_X4_tails hx hb hF hown hI (hts _ (List.mem_of_getElem? (i := 1) rfl : (Cond.fieldLink RX4 9 "PlateRoom$TimeGraph" "tails" "[I" : Cond) ∈ wsX4_setLimit)) dX4_setLimit_13 ?_
    refine lv_iload_n hx hb dX4_setLimit_16 rfl (lv_at hl 1 rfl) ?_
    refine lv_iload_n hx hb dX4_setLimit_17 rfl (lv_at hl 2 rfl) ?_
    have hin := hw.1
    have hw := hw.2
    refine xS_X4_tails hx hb hI hS hin dX4_setLimit_18 (fun σ1 eσ1 H locs hI hS => ?_)
    have hw := hw σ1 eσ1
    refine lv_aload_n hx hb dX4_setLimit_19 rfl (lv_at hl 0 rfl) ?_
    refine xG_X4_heads hx hb hF hown hI (hts _ (List.mem_of_getElem? (i := 2) rfl : (Cond.fieldLink RX4 15 "PlateRoom$TimeGraph" "heads" "[I" : Cond) ∈ wsX4_setLimit)) dX4_setLimit_20 ?_
    refine lv_iload_n hx hb dX4_setLimit_23 rfl (lv_at hl 1 rfl) ?_
    refine lv_iload_n hx hb dX4_setLimit_24 rfl (lv_at hl 3 rfl) ?_
    have hin := hw.1
    have hw := hw.2
    refine xS_X4_heads hx hb hI hS hin dX4_setLimit_25 (fun σ2 eσ2 H locs hI hS => ?_)
    have hw := hw σ2 eσ2
    refine lv_aload_n hx hb dX4_setLimit_26 rfl (lv_at hl 0 rfl) ?_
    refine xG_X4_lengths hx hb hF hown hI (hts _ (List.mem_of_getElem? (i := 3) rfl : (Cond.fieldLink RX4 18 "PlateRoom$TimeGraph" "lengths" "[I" : Cond) ∈ wsX4_setLimit)) dX4_setLimit_27 ?_
    refine lv_iload_n hx hb dX4_setLimit_30 rfl (lv_at hl 1 rfl) ?_
    refine lv_iload hx hb dX4_setLimit_31 (lv_at hl 4 rfl) ?_
    have hin := hw.1
    have hw := hw.2
    refine xS_X4_lengths hx hb hI hS hin dX4_setLimit_33 (fun σ3 eσ3 H locs hI hS => ?_)
    have hw := hw σ3 eσ3
    exact hret _ _ _ _ _ dX4_setLimit_34 hw hI hS
  have hw := hw.2 hc
  exact hret _ _ _ _ _ dX4_setLimit_11 hw hI hS
