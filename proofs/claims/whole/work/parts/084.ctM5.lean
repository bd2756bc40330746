set_option maxRecDepth 100000 in
set_option maxHeartbeats 4000000 in
theorem cm_X6_order (l : Launch) (g : wG) {σ : wS} {x1 : Int32} {x2 : Int32} {x3 : Int32} {Q : Int32 → wS → Prop} (hw : wm_X6_order Q x1 x2 x3 σ) : Met l yX6_order wsX6_order ({ frames := 3, cells := 0, slots := 0, locals := 72 } : Room) (va_Pc [.ref (g.2.1 0), .int x1, .int x2, .int x3] (fun U => mIn g σ U.heap U)) (va_Qi Q (fun σ1 t => mIn g σ1 t.heap t) (mA g)) 0 0 (mA g) := by
  refine gOfI (maxL := 4) (mMv g) (by decide) rfl (Nat.le_of_ble_eq_true rfl) ?_
  intro p e s m args below meth c QQ hx hb hml hown hts hret ls hl hI
  have hl : lv_has ls 4 [(0, .ref (g.2.1 0)), (1, .int x1), (2, .int x2), (3, .int x3)] := hl
  have hS : va_S (mA g) s.heap s.heap [] := va_S.rf
  have hF : ∀ w ∈ wsX60, w.before args s = true := fun w h => hts w (List.mem_cons_of_mem _ (List.mem_append_right _ h))
  refine lv_aload_n hx hb dX6_order_0 rfl (lv_at hl 0 rfl) ?_
  refine lv_iconst (v := 0) hx hb dX6_order_1 (by decide) ?_
  refine mP_X6_thrown hx hb hF hown hI hS (hts _ (List.mem_of_getElem? (i := 1) rfl : (Cond.fieldLink RX6 101 "PlateRoomModel" "thrown" "I" : Cond) ∈ wsX6_order)) dX6_order_2 (fun σ1 eσ1 H locs hI hS => ?_)
  have hw := hw σ1 eσ1
  refine lv_aload_n hx hb dX6_order_5 rfl (lv_at hl 0 rfl) ?_
  refine lv_iconst (v := 0) hx hb dX6_order_6 (by decide) ?_
  refine mP_X6_status hx hb hF hown hI hS (hts _ (List.mem_of_getElem? (i := 2) rfl : (Cond.fieldLink RX6 105 "PlateRoomModel" "status" "I" : Cond) ∈ wsX6_order)) dX6_order_7 (fun σ2 eσ2 H locs hI hS => ?_)
  have hw := hw σ2 eσ2
  refine lv_aload_n hx hb dX6_order_10 rfl (lv_at hl 0 rfl) ?_
  refine lv_iload_n hx hb dX6_order_11 rfl (lv_at hl 1 rfl) ?_
  refine gVi (cm_X6_isPlate l g (σ := σ2) hw) (mMv g) ⟨hx, hb, hml, hown, hts⟩ (cwV 1 hts gX6_order_X6_isPlate rfl rfl rfl (by decide +kernel) ⟨Nat.le_of_ble_eq_true rfl, Nat.le_of_ble_eq_true rfl⟩) (mRecv_X6 hI) hI hS hl.1 rfl rfl (Nat.le_of_ble_eq_true rfl) dX6_order_12 (fun r3 σ4 H locs hw hI hS => ?_)
  obtain ⟨hw, hq⟩ := hw
  rw [hq] at hI
  refine lv_if_eq (tgt := 31) hx hb dX6_order_15 (by decide) (fun hc => ?_) (fun hc => ?_)
  · have hw := hw.1 hc
    refine lv_aload_n hx hb dX6_order_31 rfl (lv_at hl 0 rfl) ?_
    refine lv_iconst (v := 1) hx hb dX6_order_32 (by decide) ?_
    refine gVi (cm_X6_refuse l g (σ := σ2) hw) (mMv g) ⟨hx, hb, hml, hown, hts⟩ (cwV 1 hts gX6_order_X6_refuse rfl rfl rfl (by decide +kernel) ⟨Nat.le_of_ble_eq_true rfl, Nat.le_of_ble_eq_true rfl⟩) (mRecv_X6 hI) hI hS hl.1 rfl rfl (Nat.le_of_ble_eq_true rfl) dX6_order_33 (fun r5 σ6 H locs hw hI hS => ?_)
    exact hret _ _ _ _ _ _ dX6_order_36 hw hI hS
  have hw := hw.2 hc
  refine lv_aload_n hx hb dX6_order_18 rfl (lv_at hl 0 rfl) ?_
  refine lv_iload_n hx hb dX6_order_19 rfl (lv_at hl 2 rfl) ?_
  refine gVi (cm_X6_isPlate l g (σ := σ2) hw) (mMv g) ⟨hx, hb, hml, hown, hts⟩ (cwV 1 hts gX6_order_X6_isPlate rfl rfl rfl (by decide +kernel) ⟨Nat.le_of_ble_eq_true rfl, Nat.le_of_ble_eq_true rfl⟩) (mRecv_X6 hI) hI hS hl.1 rfl rfl (Nat.le_of_ble_eq_true rfl) dX6_order_20 (fun r7 σ8 H locs hw hI hS => ?_)
  obtain ⟨hw, hq⟩ := hw
  rw [hq] at hI
  refine lv_if_eq (tgt := 31) hx hb dX6_order_23 (by decide) (fun hc => ?_) (fun hc => ?_)
  · have hw := hw.1 hc
    refine lv_aload_n hx hb dX6_order_31 rfl (lv_at hl 0 rfl) ?_
    refine lv_iconst (v := 1) hx hb dX6_order_32 (by decide) ?_
    refine gVi (cm_X6_refuse l g (σ := σ2) hw) (mMv g) ⟨hx, hb, hml, hown, hts⟩ (cwV 1 hts gX6_order_X6_refuse rfl rfl rfl (by decide +kernel) ⟨Nat.le_of_ble_eq_true rfl, Nat.le_of_ble_eq_true rfl⟩) (mRecv_X6 hI) hI hS hl.1 rfl rfl (Nat.le_of_ble_eq_true rfl) dX6_order_33 (fun r9 σ10 H locs hw hI hS => ?_)
    exact hret _ _ _ _ _ _ dX6_order_36 hw hI hS
  have hw := hw.2 hc
  refine lv_iload_n hx hb dX6_order_26 rfl (lv_at hl 1 rfl) ?_
  refine lv_iload_n hx hb dX6_order_27 rfl (lv_at hl 2 rfl) ?_
  refine lv_icmp_ne (tgt := 37) hx hb dX6_order_28 (by decide) (fun hc => ?_) (fun hc => ?_)
  · have hw := hw.1 hc
    refine lv_iload_n hx hb dX6_order_37 rfl (lv_at hl 3 rfl) ?_
    refine gSi (cm_X6_isDay l g (σ := σ2) hw) (mMv g) ⟨hx, hb, hml, hown, hts⟩ (va_cwS 1 hts gX6_order_X6_isDay rfl rfl rfl (by decide +kernel) ⟨Nat.le_of_ble_eq_true rfl, Nat.le_of_ble_eq_true rfl⟩) hI hS hl.1 rfl rfl (Nat.le_of_ble_eq_true rfl) dX6_order_38 (fun r11 σ12 H locs hw hI hS => ?_)
    obtain ⟨hw, hq⟩ := hw
    rw [hq] at hI
    refine lv_if_ne (tgt := 50) hx hb dX6_order_41 (by decide) (fun hc => ?_) (fun hc => ?_)
    · have hw := hw.1 hc
      refine lv_aload_n hx hb dX6_order_50 rfl (lv_at hl 0 rfl) ?_
      refine lv_iload_n hx hb dX6_order_51 rfl (lv_at hl 3 rfl) ?_
      refine lv_iconst (v := (-1)) hx hb dX6_order_52 (by decide) ?_
      refine gVv (cm_X6_net l g (σ := σ2) hw) (mMv g) ⟨hx, hb, hml, hown, hts⟩ (cwV 2 hts gX6_order_X6_net rfl rfl rfl (by decide +kernel) ⟨Nat.le_of_ble_eq_true rfl, Nat.le_of_ble_eq_true rfl⟩) (mRecv_X6 hI) hI hS hl.1 rfl rfl (Nat.le_of_ble_eq_true rfl) dX6_order_53 (fun σ13 H locs hw hI hS => ?_)
      refine lv_aload_n hx hb dX6_order_56 rfl (lv_at hl 0 rfl) ?_
      refine lv_iconst (v := 0) hx hb dX6_order_57 (by decide) ?_
      refine gVi (cm_X6_goes l g (σ := σ13) hw) (mMv g) ⟨hx, hb, hml, hown, hts⟩ (cwV 1 hts gX6_order_X6_goes rfl rfl rfl (by decide +kernel) ⟨Nat.le_of_ble_eq_true rfl, Nat.le_of_ble_eq_true rfl⟩) (mRecv_X6 hI) hI hS hl.1 rfl rfl (Nat.le_of_ble_eq_true rfl) dX6_order_58 (fun r14 σ15 H locs hw hI hS => ?_)
      refine lv_if_ne (tgt := 70) hx hb dX6_order_61 (by decide) (fun hc => ?_) (fun hc => ?_)
      · have hw := hw.1 hc
        refine lv_aload_n hx hb dX6_order_70 rfl (lv_at hl 0 rfl) ?_
        refine lv_iload_n hx hb dX6_order_71 rfl (lv_at hl 1 rfl) ?_
        refine gSi (cm_X6_placeOf l g (σ := σ15) hw) (mMv g) ⟨hx, hb, hml, hown, hts⟩ (va_cwS 1 hts gX6_order_X6_placeOf rfl rfl rfl (by decide +kernel) ⟨Nat.le_of_ble_eq_true rfl, Nat.le_of_ble_eq_true rfl⟩) hI hS hl.1 rfl rfl (Nat.le_of_ble_eq_true rfl) dX6_order_72 (fun r16 σ17 H locs hw hI hS => ?_)
        obtain ⟨hw, hq⟩ := hw
        rw [hq] at hI
        refine gVi (cm_X6_goes l g (σ := σ15) hw) (mMv g) ⟨hx, hb, hml, hown, hts⟩ (cwV 1 hts gX6_order_X6_goes rfl rfl rfl (by decide +kernel) ⟨Nat.le_of_ble_eq_true rfl, Nat.le_of_ble_eq_true rfl⟩) (mRecv_X6 hI) hI hS hl.1 rfl rfl (Nat.le_of_ble_eq_true rfl) dX6_order_75 (fun r18 σ19 H locs hw hI hS => ?_)
        refine lv_pop hx hb dX6_order_78 rfl ?_
        refine lv_aload_n hx hb dX6_order_79 rfl (lv_at hl 0 rfl) ?_
        refine mG_X6_far hx hb hF hown hI (hts _ (List.mem_of_getElem? (i := 3) rfl : (Cond.fieldLink RX6 38 "PlateRoomModel" "far" "[J" : Cond) ∈ wsX6_order)) dX6_order_80 ?_
        refine lv_iload_n hx hb dX6_order_83 rfl (lv_at hl 2 rfl) ?_
        refine gSi (cm_X6_placeOf l g (σ := σ19) hw) (mMv g) ⟨hx, hb, hml, hown, hts⟩ (va_cwS 1 hts gX6_order_X6_placeOf rfl rfl rfl (by decide +kernel) ⟨Nat.le_of_ble_eq_true rfl, Nat.le_of_ble_eq_true rfl⟩) hI hS hl.1 rfl rfl (Nat.le_of_ble_eq_true rfl) dX6_order_84 (fun r20 σ21 H locs hw hI hS => ?_)
        obtain ⟨hw, hq⟩ := hw
        rw [hq] at hI
        have hin := hw.1
        have hw := hw.2
        refine mR_X6_far hx hb hI hin dX6_order_87 ?_
        refine lv_lconst (v := 1) hx hb dX6_order_88 (by decide) ?_
        refine W.lcmp hx hb dX6_order_89 ?_
        refine lv_if_lt (tgt := 95) hx hb dX6_order_90 (by decide) (fun hc => ?_) (fun hc => ?_)
        · have hw := hw.1 ((lg_cmp_lt _ _).mp hc)
          refine lv_aload_n hx hb dX6_order_95 rfl (lv_at hl 0 rfl) ?_
          refine lv_iload_n hx hb dX6_order_96 rfl (lv_at hl 2 rfl) ?_
          refine gSi (cm_X6_placeOf l g (σ := σ19) hw) (mMv g) ⟨hx, hb, hml, hown, hts⟩ (va_cwS 1 hts gX6_order_X6_placeOf rfl rfl rfl (by decide +kernel) ⟨Nat.le_of_ble_eq_true rfl, Nat.le_of_ble_eq_true rfl⟩) hI hS hl.1 rfl rfl (Nat.le_of_ble_eq_true rfl) dX6_order_97 (fun r22 σ23 H locs hw hI hS => ?_)
          obtain ⟨hw, hq⟩ := hw
          rw [hq] at hI
          refine gVi (cm_X6_goes l g (σ := σ19) hw) (mMv g) ⟨hx, hb, hml, hown, hts⟩ (cwV 1 hts gX6_order_X6_goes rfl rfl rfl (by decide +kernel) ⟨Nat.le_of_ble_eq_true rfl, Nat.le_of_ble_eq_true rfl⟩) (mRecv_X6 hI) hI hS hl.1 rfl rfl (Nat.le_of_ble_eq_true rfl) dX6_order_100 (fun r24 σ25 H locs hw hI hS => ?_)
          refine lv_pop hx hb dX6_order_103 rfl ?_
          refine lv_aload_n hx hb dX6_order_104 rfl (lv_at hl 0 rfl) ?_
          refine mG_X6_far hx hb hF hown hI (hts _ (List.mem_of_getElem? (i := 3) rfl : (Cond.fieldLink RX6 38 "PlateRoomModel" "far" "[J" : Cond) ∈ wsX6_order)) dX6_order_105 ?_
          refine lv_iload_n hx hb dX6_order_108 rfl (lv_at hl 1 rfl) ?_
          refine gSi (cm_X6_placeOf l g (σ := σ25) hw) (mMv g) ⟨hx, hb, hml, hown, hts⟩ (va_cwS 1 hts gX6_order_X6_placeOf rfl rfl rfl (by decide +kernel) ⟨Nat.le_of_ble_eq_true rfl, Nat.le_of_ble_eq_true rfl⟩) hI hS hl.1 rfl rfl (Nat.le_of_ble_eq_true rfl) dX6_order_109 (fun r26 σ27 H locs hw hI hS => ?_)
          obtain ⟨hw, hq⟩ := hw
          rw [hq] at hI
          have hin := hw.1
          have hw := hw.2
          refine mR_X6_far hx hb hI hin dX6_order_112 ?_
          refine lv_lneg hx hb dX6_order_113 ?_
          refine lv_lconst (v := 1) hx hb dX6_order_114 (by decide) ?_
          refine W.lcmp hx hb dX6_order_115 ?_
          refine lv_if_lt (tgt := 123) hx hb dX6_order_116 (by decide) (fun hc => ?_) (fun hc => ?_)
          · have hw := hw.1 ((lg_cmp_lt _ _).mp hc)
            refine lv_iconst (v := 0) hx hb dX6_order_123 (by decide) ?_
            exact hret _ _ _ _ _ _ dX6_order_124 hw hI hS
          have hw := hw.2 (fun h => hc ((lg_cmp_lt _ _).mpr h))
          refine lv_iconst (v := 1) hx hb dX6_order_119 (by decide) ?_
          refine lv_goto (tgt := 124) hx hb dX6_order_120 (by decide) ?_
          exact hret _ _ _ _ _ _ dX6_order_124 hw hI hS
        have hw := hw.2 (fun h => hc ((lg_cmp_lt _ _).mpr h))
        refine lv_iconst (v := 2) hx hb dX6_order_93 (by decide) ?_
        exact hret _ _ _ _ _ _ dX6_order_94 hw hI hS
      have hw := hw.2 hc
      refine lv_aload_n hx hb dX6_order_64 rfl (lv_at hl 0 rfl) ?_
      refine lv_iconst (v := 5) hx hb dX6_order_65 (by decide) ?_
      refine gVi (cm_X6_refuse l g (σ := σ15) hw) (mMv g) ⟨hx, hb, hml, hown, hts⟩ (cwV 1 hts gX6_order_X6_refuse rfl rfl rfl (by decide +kernel) ⟨Nat.le_of_ble_eq_true rfl, Nat.le_of_ble_eq_true rfl⟩) (mRecv_X6 hI) hI hS hl.1 rfl rfl (Nat.le_of_ble_eq_true rfl) dX6_order_66 (fun r28 σ29 H locs hw hI hS => ?_)
      exact hret _ _ _ _ _ _ dX6_order_69 hw hI hS
    have hw := hw.2 hc
    refine lv_aload_n hx hb dX6_order_44 rfl (lv_at hl 0 rfl) ?_
    refine lv_iconst (v := 2) hx hb dX6_order_45 (by decide) ?_
    refine gVi (cm_X6_refuse l g (σ := σ2) hw) (mMv g) ⟨hx, hb, hml, hown, hts⟩ (cwV 1 hts gX6_order_X6_refuse rfl rfl rfl (by decide +kernel) ⟨Nat.le_of_ble_eq_true rfl, Nat.le_of_ble_eq_true rfl⟩) (mRecv_X6 hI) hI hS hl.1 rfl rfl (Nat.le_of_ble_eq_true rfl) dX6_order_46 (fun r30 σ31 H locs hw hI hS => ?_)
    exact hret _ _ _ _ _ _ dX6_order_49 hw hI hS
  have hw := hw.2 hc
  refine lv_aload_n hx hb dX6_order_31 rfl (lv_at hl 0 rfl) ?_
  refine lv_iconst (v := 1) hx hb dX6_order_32 (by decide) ?_
  refine gVi (cm_X6_refuse l g (σ := σ2) hw) (mMv g) ⟨hx, hb, hml, hown, hts⟩ (cwV 1 hts gX6_order_X6_refuse rfl rfl rfl (by decide +kernel) ⟨Nat.le_of_ble_eq_true rfl, Nat.le_of_ble_eq_true rfl⟩) (mRecv_X6 hI) hI hS hl.1 rfl rfl (Nat.le_of_ble_eq_true rfl) dX6_order_33 (fun r32 σ33 H locs hw hI hS => ?_)
  exact hret _ _ _ _ _ _ dX6_order_36 hw hI hS
set_option maxRecDepth 100000 in
set_option maxHeartbeats 4000000 in
theorem cm_X6_edges (l : Launch) (g : wG) {σ : wS} {x1 : Int32} {x2 : Int32} {x3 : Int32} {Q : Int32 → wS → Prop} (hw : wm_X6_edges Q x1 x2 x3 σ) : Met l yX6_edges wsX6_edges ({ frames := 1, cells := 0, slots := 0, locals := 21 } : Room) (va_Pc [.ref (g.2.1 0), .int x1, .int x2, .int x3] (fun U => mIn g σ U.heap U)) (va_Qi Q (fun σ1 t => mIn g σ1 t.heap t) (mA g)) 0 0 (mA g) := by
  refine gOfZ (maxL := 4) (mMv g) (by decide) rfl (Nat.le_of_ble_eq_true rfl) ?_
  intro p e s m args below meth c QQ hx hb hml hown hts hret ls hl hI
  have hl : lv_has ls 4 [(0, .ref (g.2.1 0)), (1, .int x1), (2, .int x2), (3, .int x3)] := hl
  have hS : va_S (mA g) s.heap s.heap [] := va_S.rf
  have hF : ∀ w ∈ wsX60, w.before args s = true := fun w h => hts w (List.mem_cons_of_mem _ (List.mem_append_right _ h))
  refine lv_aload_n hx hb dX6_edges_0 rfl (lv_at hl 0 rfl) ?_
  refine lv_iconst (v := 0) hx hb dX6_edges_1 (by decide) ?_
  refine mP_X6_thrown hx hb hF hown hI hS (hts _ (List.mem_of_getElem? (i := 1) rfl : (Cond.fieldLink RX6 101 "PlateRoomModel" "thrown" "I" : Cond) ∈ wsX6_edges)) dX6_edges_2 (fun σ1 eσ1 H locs hI hS => ?_)
  have hw := hw σ1 eσ1
  refine lv_aload_n hx hb dX6_edges_5 rfl (lv_at hl 0 rfl) ?_
  refine lv_iconst (v := 0) hx hb dX6_edges_6 (by decide) ?_
  refine mP_X6_status hx hb hF hown hI hS (hts _ (List.mem_of_getElem? (i := 2) rfl : (Cond.fieldLink RX6 105 "PlateRoomModel" "status" "I" : Cond) ∈ wsX6_edges)) dX6_edges_7 (fun σ2 eσ2 H locs hI hS => ?_)
  have hw := hw σ2 eσ2
  refine lv_aload_n hx hb dX6_edges_10 rfl (lv_at hl 0 rfl) ?_
  refine lv_iload_n hx hb dX6_edges_11 rfl (lv_at hl 1 rfl) ?_
  refine gVi (cm_X6_isPlate l g (σ := σ2) hw) (mMv g) ⟨hx, hb, hml, hown, hts⟩ (cwV 1 hts gX6_edges_X6_isPlate rfl rfl rfl (by decide +kernel) ⟨Nat.le_of_ble_eq_true rfl, Nat.le_of_ble_eq_true rfl⟩) (mRecv_X6 hI) hI hS hl.1 rfl rfl (Nat.le_of_ble_eq_true rfl) dX6_edges_12 (fun r3 σ4 H locs hw hI hS => ?_)
  obtain ⟨hw, hq⟩ := hw
  rw [hq] at hI
  refine lv_if_ne (tgt := 24) hx hb dX6_edges_15 (by decide) (fun hc => ?_) (fun hc => ?_)
  · have hw := hw.1 hc
    refine lv_iload_n hx hb dX6_edges_24 rfl (lv_at hl 2 rfl) ?_
    refine lv_if_lt (tgt := 44) hx hb dX6_edges_25 (by decide) (fun hc => ?_) (fun hc => ?_)
    · have hw := hw.1 hc
      refine lv_aload_n hx hb dX6_edges_44 rfl (lv_at hl 0 rfl) ?_
      refine lv_iconst (v := 2) hx hb dX6_edges_45 (by decide) ?_
      refine gVi (cm_X6_no l g (σ := σ2) hw) (mMv g) ⟨hx, hb, hml, hown, hts⟩ (cwV 1 hts gX6_edges_X6_no rfl rfl rfl (by decide +kernel) ⟨Nat.le_of_ble_eq_true rfl, Nat.le_of_ble_eq_true rfl⟩) (mRecv_X6 hI) hI hS hl.1 rfl rfl (Nat.le_of_ble_eq_true rfl) dX6_edges_46 (fun r5 σ6 H locs hw hI hS => ?_)
      exact hret _ _ _ _ _ _ dX6_edges_49 hw.1 hw.2 hI hS
    have hw := hw.2 hc
    refine lv_iload_n hx hb dX6_edges_28 rfl (lv_at hl 2 rfl) ?_
    refine lv_bipush (v := 99) hx hb dX6_edges_29 (by decide) ?_
    refine lv_icmp_gt (tgt := 44) hx hb dX6_edges_31 (by decide) (fun hc => ?_) (fun hc => ?_)
    · have hw := hw.1 hc
      refine lv_aload_n hx hb dX6_edges_44 rfl (lv_at hl 0 rfl) ?_
      refine lv_iconst (v := 2) hx hb dX6_edges_45 (by decide) ?_
      refine gVi (cm_X6_no l g (σ := σ2) hw) (mMv g) ⟨hx, hb, hml, hown, hts⟩ (cwV 1 hts gX6_edges_X6_no rfl rfl rfl (by decide +kernel) ⟨Nat.le_of_ble_eq_true rfl, Nat.le_of_ble_eq_true rfl⟩) (mRecv_X6 hI) hI hS hl.1 rfl rfl (Nat.le_of_ble_eq_true rfl) dX6_edges_46 (fun r7 σ8 H locs hw hI hS => ?_)
      exact hret _ _ _ _ _ _ dX6_edges_49 hw.1 hw.2 hI hS
    have hw := hw.2 hc
    refine lv_iload_n hx hb dX6_edges_34 rfl (lv_at hl 3 rfl) ?_
    refine lv_if_lt (tgt := 44) hx hb dX6_edges_35 (by decide) (fun hc => ?_) (fun hc => ?_)
    · have hw := hw.1 hc
      refine lv_aload_n hx hb dX6_edges_44 rfl (lv_at hl 0 rfl) ?_
      refine lv_iconst (v := 2) hx hb dX6_edges_45 (by decide) ?_
      refine gVi (cm_X6_no l g (σ := σ2) hw) (mMv g) ⟨hx, hb, hml, hown, hts⟩ (cwV 1 hts gX6_edges_X6_no rfl rfl rfl (by decide +kernel) ⟨Nat.le_of_ble_eq_true rfl, Nat.le_of_ble_eq_true rfl⟩) (mRecv_X6 hI) hI hS hl.1 rfl rfl (Nat.le_of_ble_eq_true rfl) dX6_edges_46 (fun r9 σ10 H locs hw hI hS => ?_)
      exact hret _ _ _ _ _ _ dX6_edges_49 hw.1 hw.2 hI hS
    have hw := hw.2 hc
    refine lv_iload_n hx hb dX6_edges_38 rfl (lv_at hl 3 rfl) ?_
    refine lv_bipush (v := 99) hx hb dX6_edges_39 (by decide) ?_
    refine lv_icmp_le (tgt := 50) hx hb dX6_edges_41 (by decide) (fun hc => ?_) (fun hc => ?_)
    · have hw := hw.1 hc
      refine lv_aload_n hx hb dX6_edges_50 rfl (lv_at hl 0 rfl) ?_
      refine mG_X6_left hx hb hF hown hI (hts _ (List.mem_of_getElem? (i := 3) rfl : (Cond.fieldLink RX6 47 "PlateRoomModel" "left" "[I" : Cond) ∈ wsX6_edges)) dX6_edges_51 ?_
      refine lv_iload_n hx hb dX6_edges_54 rfl (lv_at hl 1 rfl) ?_
      refine lv_iload_n hx hb dX6_edges_55 rfl (lv_at hl 2 rfl) ?_
      have hin := hw.1
      have hw := hw.2
      refine mS_X6_left hx hb hI hS hin dX6_edges_56 (fun σ11 eσ11 H locs hI hS => ?_)
      have hw := hw σ11 eσ11
      refine lv_aload_n hx hb dX6_edges_57 rfl (lv_at hl 0 rfl) ?_
      refine mG_X6_right hx hb hF hown hI (hts _ (List.mem_of_getElem? (i := 4) rfl : (Cond.fieldLink RX6 50 "PlateRoomModel" "right" "[I" : Cond) ∈ wsX6_edges)) dX6_edges_58 ?_
      refine lv_iload_n hx hb dX6_edges_61 rfl (lv_at hl 1 rfl) ?_
      refine lv_iload_n hx hb dX6_edges_62 rfl (lv_at hl 3 rfl) ?_
      have hin := hw.1
      have hw := hw.2
      refine mS_X6_right hx hb hI hS hin dX6_edges_63 (fun σ12 eσ12 H locs hI hS => ?_)
      have hw := hw σ12 eσ12
      refine lv_iconst (v := 1) hx hb dX6_edges_64 (by decide) ?_
      exact hret _ _ _ _ _ _ dX6_edges_65 isB1 hw hI hS
    have hw := hw.2 hc
    refine lv_aload_n hx hb dX6_edges_44 rfl (lv_at hl 0 rfl) ?_
    refine lv_iconst (v := 2) hx hb dX6_edges_45 (by decide) ?_
    refine gVi (cm_X6_no l g (σ := σ2) hw) (mMv g) ⟨hx, hb, hml, hown, hts⟩ (cwV 1 hts gX6_edges_X6_no rfl rfl rfl (by decide +kernel) ⟨Nat.le_of_ble_eq_true rfl, Nat.le_of_ble_eq_true rfl⟩) (mRecv_X6 hI) hI hS hl.1 rfl rfl (Nat.le_of_ble_eq_true rfl) dX6_edges_46 (fun r13 σ14 H locs hw hI hS => ?_)
    exact hret _ _ _ _ _ _ dX6_edges_49 hw.1 hw.2 hI hS
  have hw := hw.2 hc
  refine lv_aload_n hx hb dX6_edges_18 rfl (lv_at hl 0 rfl) ?_
  refine lv_iconst (v := 1) hx hb dX6_edges_19 (by decide) ?_
  refine gVi (cm_X6_no l g (σ := σ2) hw) (mMv g) ⟨hx, hb, hml, hown, hts⟩ (cwV 1 hts gX6_edges_X6_no rfl rfl rfl (by decide +kernel) ⟨Nat.le_of_ble_eq_true rfl, Nat.le_of_ble_eq_true rfl⟩) (mRecv_X6 hI) hI hS hl.1 rfl rfl (Nat.le_of_ble_eq_true rfl) dX6_edges_20 (fun r15 σ16 H locs hw hI hS => ?_)
  exact hret _ _ _ _ _ _ dX6_edges_23 hw.1 hw.2 hI hS
set_option maxRecDepth 100000 in
set_option maxHeartbeats 4000000 in
theorem cm_X6_isSet (l : Launch) (g : wG) {σ : wS} {x1 : Int32} {Q : Int32 → Prop} (hw : wm_X6_isSet Q x1 σ) : Met l yX6_isSet wsX6_isSet ({ frames := 0, cells := 0, slots := 0, locals := 0 } : Room) (va_Pc [.ref (g.2.1 0), .int x1] (fun U => mIn g σ U.heap U)) (va_Qi (fun r σ1 => Q r ∧ σ1 = σ) (fun σ1 t => mIn g σ1 t.heap t) (mA g)) 0 0 (mA g) := by
  refine gOfZ (maxL := 2) (mMv g) (by decide) rfl (Nat.le_of_ble_eq_true rfl) ?_
  intro p e s m args below meth c QQ hx hb hml hown hts hret ls hl hI
  have hl : lv_has ls 2 [(0, .ref (g.2.1 0)), (1, .int x1)] := hl
  have hS : va_S (mA g) s.heap s.heap [] := va_S.rf
  have hF : ∀ w ∈ wsX60, w.before args s = true := fun w h => hts w (List.mem_cons_of_mem _ (List.mem_append_right _ h))
  refine lv_iload_n hx hb dX6_isSet_0 rfl (lv_at hl 1 rfl) ?_
  refine lv_if_lt (tgt := 18) hx hb dX6_isSet_1 (by decide) (fun hc => ?_) (fun hc => ?_)
  · have hw := hw.1 hc
    refine lv_iconst (v := 0) hx hb dX6_isSet_18 (by decide) ?_
    exact hret _ _ _ _ _ _ dX6_isSet_19 isB0 ⟨hw, rfl⟩ hI hS
  have hw := hw.2 hc
  refine lv_iload_n hx hb dX6_isSet_4 rfl (lv_at hl 1 rfl) ?_
  refine lv_iconst (v := 1) hx hb dX6_isSet_5 (by decide) ?_
  refine lv_aload_n hx hb dX6_isSet_6 rfl (lv_at hl 0 rfl) ?_
  refine mG_X6_plates hx hb hF hown hI (hts _ (List.mem_of_getElem? (i := 1) rfl : (Cond.fieldLink RX6 108 "PlateRoomModel" "plates" "I" : Cond) ∈ wsX6_isSet)) dX6_isSet_7 ?_
  refine lv_ishl hx hb dX6_isSet_10 ?_
  refine lv_icmp_ge (tgt := 18) hx hb dX6_isSet_11 (by decide) (fun hc => ?_) (fun hc => ?_)
  · have hw := hw.1 hc
    refine lv_iconst (v := 0) hx hb dX6_isSet_18 (by decide) ?_
    exact hret _ _ _ _ _ _ dX6_isSet_19 isB0 ⟨hw, rfl⟩ hI hS
  have hw := hw.2 hc
  refine lv_iconst (v := 1) hx hb dX6_isSet_14 (by decide) ?_
  refine lv_goto (tgt := 19) hx hb dX6_isSet_15 (by decide) ?_
  exact hret _ _ _ _ _ _ dX6_isSet_19 isB1 ⟨hw, rfl⟩ hI hS
set_option maxRecDepth 100000 in
set_option maxHeartbeats 4000000 in
theorem cm_X6_leftOf (l : Launch) (g : wG) {σ : wS} {x1 : Int32} {Q : Int32 → Prop} (hw : wm_X6_leftOf Q x1 σ) : Met l yX6_leftOf wsX6_leftOf ({ frames := 0, cells := 0, slots := 0, locals := 0 } : Room) (va_Pc [.ref (g.2.1 0), .int x1] (fun U => mIn g σ U.heap U)) (va_Qi (fun r σ1 => Q r ∧ σ1 = σ) (fun σ1 t => mIn g σ1 t.heap t) (mA g)) 0 0 (mA g) := by
  refine gOfI (maxL := 2) (mMv g) (by decide) rfl (Nat.le_of_ble_eq_true rfl) ?_
  intro p e s m args below meth c QQ hx hb hml hown hts hret ls hl hI
  have hl : lv_has ls 2 [(0, .ref (g.2.1 0)), (1, .int x1)] := hl
  have hS : va_S (mA g) s.heap s.heap [] := va_S.rf
  have hF : ∀ w ∈ wsX60, w.before args s = true := fun w h => hts w (List.mem_cons_of_mem _ (List.mem_append_right _ h))
  refine lv_aload_n hx hb dX6_leftOf_0 rfl (lv_at hl 0 rfl) ?_
  refine mG_X6_left hx hb hF hown hI (hts _ (List.mem_of_getElem? (i := 1) rfl : (Cond.fieldLink RX6 47 "PlateRoomModel" "left" "[I" : Cond) ∈ wsX6_leftOf)) dX6_leftOf_1 ?_
  refine lv_iload_n hx hb dX6_leftOf_4 rfl (lv_at hl 1 rfl) ?_
  have hin := hw.1
  have hw := hw.2
  refine mR_X6_left hx hb hI hin dX6_leftOf_5 ?_
  refine lv_if_le (tgt := 18) hx hb dX6_leftOf_6 (by decide) (fun hc => ?_) (fun hc => ?_)
  · have hw := hw.1 hc
    refine lv_bipush (v := 100) hx hb dX6_leftOf_18 (by decide) ?_
    refine lv_iload_n hx hb dX6_leftOf_20 rfl (lv_at hl 1 rfl) ?_
    refine lv_iadd hx hb dX6_leftOf_21 ?_
    exact hret _ _ _ _ _ _ dX6_leftOf_22 ⟨hw, rfl⟩ hI hS
  have hw := hw.2 hc
  refine lv_aload_n hx hb dX6_leftOf_9 rfl (lv_at hl 0 rfl) ?_
  refine mG_X6_left hx hb hF hown hI (hts _ (List.mem_of_getElem? (i := 1) rfl : (Cond.fieldLink RX6 47 "PlateRoomModel" "left" "[I" : Cond) ∈ wsX6_leftOf)) dX6_leftOf_10 ?_
  refine lv_iload_n hx hb dX6_leftOf_13 rfl (lv_at hl 1 rfl) ?_
  have hin := hw.1
  have hw := hw.2
  refine mR_X6_left hx hb hI hin dX6_leftOf_14 ?_
  refine lv_goto (tgt := 22) hx hb dX6_leftOf_15 (by decide) ?_
  exact hret _ _ _ _ _ _ dX6_leftOf_22 ⟨hw, rfl⟩ hI hS
set_option maxRecDepth 100000 in
set_option maxHeartbeats 4000000 in
theorem cm_X6_rightOf (l : Launch) (g : wG) {σ : wS} {x1 : Int32} {Q : Int32 → Prop} (hw : wm_X6_rightOf Q x1 σ) : Met l yX6_rightOf wsX6_rightOf ({ frames := 0, cells := 0, slots := 0, locals := 0 } : Room) (va_Pc [.ref (g.2.1 0), .int x1] (fun U => mIn g σ U.heap U)) (va_Qi (fun r σ1 => Q r ∧ σ1 = σ) (fun σ1 t => mIn g σ1 t.heap t) (mA g)) 0 0 (mA g) := by
  refine gOfI (maxL := 2) (mMv g) (by decide) rfl (Nat.le_of_ble_eq_true rfl) ?_
  intro p e s m args below meth c QQ hx hb hml hown hts hret ls hl hI
  have hl : lv_has ls 2 [(0, .ref (g.2.1 0)), (1, .int x1)] := hl
  have hS : va_S (mA g) s.heap s.heap [] := va_S.rf
  have hF : ∀ w ∈ wsX60, w.before args s = true := fun w h => hts w (List.mem_cons_of_mem _ (List.mem_append_right _ h))
  refine lv_aload_n hx hb dX6_rightOf_0 rfl (lv_at hl 0 rfl) ?_
  refine mG_X6_right hx hb hF hown hI (hts _ (List.mem_of_getElem? (i := 1) rfl : (Cond.fieldLink RX6 50 "PlateRoomModel" "right" "[I" : Cond) ∈ wsX6_rightOf)) dX6_rightOf_1 ?_
  refine lv_iload_n hx hb dX6_rightOf_4 rfl (lv_at hl 1 rfl) ?_
  have hin := hw.1
  have hw := hw.2
  refine mR_X6_right hx hb hI hin dX6_rightOf_5 ?_
  refine lv_if_le (tgt := 18) hx hb dX6_rightOf_6 (by decide) (fun hc => ?_) (fun hc => ?_)
  · have hw := hw.1 hc
    refine lv_sipush (v := 200) hx hb dX6_rightOf_18 (by decide) ?_
    refine lv_iload_n hx hb dX6_rightOf_21 rfl (lv_at hl 1 rfl) ?_
    refine lv_iadd hx hb dX6_rightOf_22 ?_
    exact hret _ _ _ _ _ _ dX6_rightOf_23 ⟨hw, rfl⟩ hI hS
  have hw := hw.2 hc
  refine lv_aload_n hx hb dX6_rightOf_9 rfl (lv_at hl 0 rfl) ?_
  refine mG_X6_right hx hb hF hown hI (hts _ (List.mem_of_getElem? (i := 1) rfl : (Cond.fieldLink RX6 50 "PlateRoomModel" "right" "[I" : Cond) ∈ wsX6_rightOf)) dX6_rightOf_10 ?_
  refine lv_iload_n hx hb dX6_rightOf_13 rfl (lv_at hl 1 rfl) ?_
  have hin := hw.1
  have hw := hw.2
  refine mR_X6_right hx hb hI hin dX6_rightOf_14 ?_
  refine lv_goto (tgt := 23) hx hb dX6_rightOf_15 (by decide) ?_
  exact hret _ _ _ _ _ _ dX6_rightOf_23 ⟨hw, rfl⟩ hI hS
set_option maxRecDepth 100000 in
set_option maxHeartbeats 4000000 in
theorem cm_X6_marks (l : Launch) (g : wG) {σ : wS} {x1 : Int32} {Q : wS → Prop} (hw : wm_X6_marks Q x1 σ) : Met l yX6_marks wsX6_marks ({ frames := 1, cells := 0, slots := 0, locals := 23 } : Room) (va_Pc [.ref (g.2.1 0), .int x1] (fun U => mIn g σ U.heap U)) (va_Qv Q (fun σ1 t => mIn g σ1 t.heap t) (mA g)) 0 0 (mA g) := by
  refine gOfV (maxL := 5) (mMv g) (by decide) rfl (Nat.le_of_ble_eq_true rfl) ?_
  intro p e s m args below meth c QQ hx hb hml hown hts hret ls hl hI
  have hl : lv_has ls 5 [(0, .ref (g.2.1 0)), (1, .int x1)] := hl
  have hS : va_S (mA g) s.heap s.heap [] := va_S.rf
  have hF : ∀ w ∈ wsX60, w.before args s = true := fun w h => hts w (List.mem_cons_of_mem _ (List.mem_append_right _ h))
  refine lv_iconst (v := 0) hx hb dX6_marks_0 (by decide) ?_
  refine lv_istore_n (lv' := [(2, .int 0), (0, .ref (g.2.1 0)), (1, .int x1)]) hx hb dX6_marks_1 rfl hl (by decide) rfl (fun ls hl => ?_)
  obtain ⟨n2, hw⟩ := hw
  have key2 : ∀ (n : Nat) (x1 : Int32) (x2 : Int32) (σ : wS) (H : Heap) (locs : List Loc) (ls : Array Slot), mIn g σ H s → va_S (mA g) s.heap H locs → lv_has ls 5 [(0, .ref (g.2.1 0)), (1, .int x1), (2, .int x2)] → wloop (wm_X6_marks_L2 Q x1) n (x2, σ) → W p l e ({ frames := 1, cells := 0, slots := 0, locals := 23 } : Room) s m args below meth c H locs 0 0 QQ (F0 m 2 ls []) := by
    intro n
    induction n with
    | zero => intro x1 x2 σ H locs ls hI hS hl hw; exact False.elim hw
    | succ n ih =>
      intro x1 x2 σ H locs ls hI hS hl hw
      obtain ⟨K2, hK2⟩ : ∃ K, K = wloop (wm_X6_marks_L2 Q x1) n := ⟨_, rfl⟩
      have hw : wm_X6_marks_L2 Q x1 K2 (x2, σ) := by rw [hK2]; exact hw
      dsimp only [wm_X6_marks_L2] at hw
      have ih2 := ih
      refine lv_iload_n hx hb dX6_marks_2 rfl (lv_at hl 2 rfl) ?_
      refine lv_aload_n hx hb dX6_marks_3 rfl (lv_at hl 0 rfl) ?_
      refine mG_X6_plates hx hb hF hown hI (hts _ (List.mem_of_getElem? (i := 1) rfl : (Cond.fieldLink RX6 108 "PlateRoomModel" "plates" "I" : Cond) ∈ wsX6_marks)) dX6_marks_4 ?_
      refine lv_icmp_ge (tgt := 57) hx hb dX6_marks_7 (by decide) (fun hc => ?_) (fun hc => ?_)
      · have hw := hw.1 hc
        refine lv_iconst (v := 1) hx hb dX6_marks_57 (by decide) ?_
        refine lv_istore_n (lv' := [(2, .int 1), (0, .ref (g.2.1 0)), (1, .int x1)]) hx hb dX6_marks_58 rfl hl (by decide) rfl (fun ls hl => ?_)
        obtain ⟨n59, hw⟩ := hw
        have key59 : ∀ (n : Nat) (x1 : Int32) (x2 : Int32) (σ : wS) (H : Heap) (locs : List Loc) (ls : Array Slot), mIn g σ H s → va_S (mA g) s.heap H locs → lv_has ls 5 [(0, .ref (g.2.1 0)), (1, .int x1), (2, .int x2)] → wloop (wm_X6_marks_L59 Q x1) n (x2, σ) → W p l e ({ frames := 1, cells := 0, slots := 0, locals := 23 } : Room) s m args below meth c H locs 0 0 QQ (F0 m 59 ls []) := by
          intro n
          induction n with
          | zero => intro x1 x2 σ H locs ls hI hS hl hw; exact False.elim hw
          | succ n ih =>
            intro x1 x2 σ H locs ls hI hS hl hw
            obtain ⟨K59, hK59⟩ : ∃ K, K = wloop (wm_X6_marks_L59 Q x1) n := ⟨_, rfl⟩
            have hw : wm_X6_marks_L59 Q x1 K59 (x2, σ) := by rw [hK59]; exact hw
            dsimp only [wm_X6_marks_L59] at hw
            have ih59 := ih
            refine lv_iload_n hx hb dX6_marks_59 rfl (lv_at hl 2 rfl) ?_
            refine lv_if_eq (tgt := 169) hx hb dX6_marks_60 (by decide) (fun hc => ?_) (fun hc => ?_)
            · have hw := hw.1 hc
              exact hret _ _ _ _ _ dX6_marks_169 hw hI hS
            have hw := hw.2 hc
            refine lv_iconst (v := 0) hx hb dX6_marks_63 (by decide) ?_
            refine lv_istore_n (lv' := [(2, .int 0), (0, .ref (g.2.1 0)), (1, .int x1)]) hx hb dX6_marks_64 rfl hl (by decide) rfl (fun ls hl => ?_)
            refine lv_iconst (v := 0) hx hb dX6_marks_65 (by decide) ?_
            refine lv_istore_n (lv' := [(3, .int 0), (2, .int 0), (0, .ref (g.2.1 0)), (1, .int x1)]) hx hb dX6_marks_66 rfl hl (by decide) rfl (fun ls hl => ?_)
            obtain ⟨n67, hw⟩ := hw
            have key67 : ∀ (n : Nat) (x2 : Int32) (x3 : Int32) (σ : wS) (H : Heap) (locs : List Loc) (ls : Array Slot), mIn g σ H s → va_S (mA g) s.heap H locs → lv_has ls 5 [(0, .ref (g.2.1 0)), (1, .int x1), (2, .int x2), (3, .int x3)] → wloop (wm_X6_marks_L67 Q K59 x1) n (x2, x3, σ) → W p l e ({ frames := 1, cells := 0, slots := 0, locals := 23 } : Room) s m args below meth c H locs 0 0 QQ (F0 m 67 ls []) := by
              intro n
              induction n with
              | zero => intro x2 x3 σ H locs ls hI hS hl hw; exact False.elim hw
              | succ n ih =>
                intro x2 x3 σ H locs ls hI hS hl hw
                obtain ⟨K67, hK67⟩ : ∃ K, K = wloop (wm_X6_marks_L67 Q K59 x1) n := ⟨_, rfl⟩
                have hw : wm_X6_marks_L67 Q K59 x1 K67 (x2, x3, σ) := by rw [hK67]; exact hw
                dsimp only [wm_X6_marks_L67] at hw
                have ih67 := ih
                refine lv_iload_n hx hb dX6_marks_67 rfl (lv_at hl 3 rfl) ?_
                refine lv_aload_n hx hb dX6_marks_68 rfl (lv_at hl 0 rfl) ?_
                refine mG_X6_plates hx hb hF hown hI (hts _ (List.mem_of_getElem? (i := 1) rfl : (Cond.fieldLink RX6 108 "PlateRoomModel" "plates" "I" : Cond) ∈ wsX6_marks)) dX6_marks_69 ?_
                refine lv_icmp_ge (tgt := 166) hx hb dX6_marks_72 (by decide) (fun hc => ?_) (fun hc => ?_)
                · have hw := hw.1 hc
                  refine lv_goto (tgt := 59) hx hb dX6_marks_166 (by decide) ?_
                  rw [hK59] at hw
                  exact ih59 _ _ _ _ _ _ hI hS (lv_sub hl [0, 1, 2] rfl) hw
                have hw := hw.2 hc
                refine lv_iload_n hx hb dX6_marks_75 rfl (lv_at hl 1 rfl) ?_
                refine lv_iload_n hx hb dX6_marks_76 rfl (lv_at hl 3 rfl) ?_
                refine lv_ishr hx hb dX6_marks_77 ?_
                refine lv_iconst (v := 1) hx hb dX6_marks_78 (by decide) ?_
                refine lv_iand hx hb dX6_marks_79 ?_
                refine lv_if_eq (tgt := 160) hx hb dX6_marks_80 (by decide) (fun hc => ?_) (fun hc => ?_)
                · have hw := hw.1 hc
                  obtain ⟨a1, ea1⟩ : ∃ y : Int32, y = x3 + 1 := ⟨_, rfl⟩
                  have hw := hw a1 ea1
                  refine lv_iinc (v := a1) (lv' := [(3, .int a1), (0, .ref (g.2.1 0)), (1, .int x1), (2, .int x2)]) hx hb dX6_marks_160 hl (k := 3) rfl (by rw [ea1]; rfl) (by decide) rfl (fun ls hl => ?_)
                  refine lv_goto (tgt := 67) hx hb dX6_marks_163 (by decide) ?_
                  rw [hK67] at hw
                  exact ih67 _ _ _ _ _ _ hI hS (lv_sub hl [1, 2, 3, 0] rfl) hw
                have hw := hw.2 hc
                refine lv_aload_n hx hb dX6_marks_83 rfl (lv_at hl 0 rfl) ?_
                refine mG_X6_mark hx hb hF hown hI (hts _ (List.mem_of_getElem? (i := 2) rfl : (Cond.fieldLink RX6 62 "PlateRoomModel" "mark" "[I" : Cond) ∈ wsX6_marks)) dX6_marks_84 ?_
                refine lv_aload_n hx hb dX6_marks_87 rfl (lv_at hl 0 rfl) ?_
                refine lv_iload_n hx hb dX6_marks_88 rfl (lv_at hl 3 rfl) ?_
                refine gVi (cm_X6_leftOf l g (σ := σ) hw) (mMv g) ⟨hx, hb, hml, hown, hts⟩ (cwV 1 hts gX6_marks_X6_leftOf rfl rfl rfl (by decide +kernel) ⟨Nat.le_of_ble_eq_true rfl, Nat.le_of_ble_eq_true rfl⟩) (mRecv_X6 hI) hI hS hl.1 rfl rfl (Nat.le_of_ble_eq_true rfl) dX6_marks_89 (fun r2 σ3 H locs hw hI hS => ?_)
                obtain ⟨hw, hq⟩ := hw
                rw [hq] at hI
                have hin := hw.1
                have hw := hw.2
                refine mR_X6_mark hx hb hI hin dX6_marks_92 ?_
                refine lv_aload_n hx hb dX6_marks_93 rfl (lv_at hl 0 rfl) ?_
                refine mG_X6_mark hx hb hF hown hI (hts _ (List.mem_of_getElem? (i := 2) rfl : (Cond.fieldLink RX6 62 "PlateRoomModel" "mark" "[I" : Cond) ∈ wsX6_marks)) dX6_marks_94 ?_
                refine lv_aload_n hx hb dX6_marks_97 rfl (lv_at hl 0 rfl) ?_
                refine lv_iload_n hx hb dX6_marks_98 rfl (lv_at hl 3 rfl) ?_
                refine gVi (cm_X6_rightOf l g (σ := σ) hw) (mMv g) ⟨hx, hb, hml, hown, hts⟩ (cwV 1 hts gX6_marks_X6_rightOf rfl rfl rfl (by decide +kernel) ⟨Nat.le_of_ble_eq_true rfl, Nat.le_of_ble_eq_true rfl⟩) (mRecv_X6 hI) hI hS hl.1 rfl rfl (Nat.le_of_ble_eq_true rfl) dX6_marks_99 (fun r4 σ5 H locs hw hI hS => ?_)
                obtain ⟨hw, hq⟩ := hw
                rw [hq] at hI
                have hin := hw.1
                have hw := hw.2
                refine mR_X6_mark hx hb hI hin dX6_marks_102 ?_
                refine lv_icmp_ne (tgt := 109) hx hb dX6_marks_103 (by decide) (fun hc => ?_) (fun hc => ?_)
                · have hw := hw.1 hc
                  refine lv_aload_n hx hb dX6_marks_109 rfl (lv_at hl 0 rfl) ?_
                  refine mG_X6_mark hx hb hF hown hI (hts _ (List.mem_of_getElem? (i := 2) rfl : (Cond.fieldLink RX6 62 "PlateRoomModel" "mark" "[I" : Cond) ∈ wsX6_marks)) dX6_marks_110 ?_
                  refine lv_aload_n hx hb dX6_marks_113 rfl (lv_at hl 0 rfl) ?_
                  refine lv_iload_n hx hb dX6_marks_114 rfl (lv_at hl 3 rfl) ?_
                  refine gVi (cm_X6_leftOf l g (σ := σ) hw) (mMv g) ⟨hx, hb, hml, hown, hts⟩ (cwV 1 hts gX6_marks_X6_leftOf rfl rfl rfl (by decide +kernel) ⟨Nat.le_of_ble_eq_true rfl, Nat.le_of_ble_eq_true rfl⟩) (mRecv_X6 hI) hI hS hl.1 rfl rfl (Nat.le_of_ble_eq_true rfl) dX6_marks_115 (fun r6 σ7 H locs hw hI hS => ?_)
                  obtain ⟨hw, hq⟩ := hw
                  rw [hq] at hI
                  have hin := hw.1
                  have hw := hw.2
                  refine mR_X6_mark hx hb hI hin dX6_marks_118 ?_
                  refine lv_aload_n hx hb dX6_marks_119 rfl (lv_at hl 0 rfl) ?_
                  refine mG_X6_mark hx hb hF hown hI (hts _ (List.mem_of_getElem? (i := 2) rfl : (Cond.fieldLink RX6 62 "PlateRoomModel" "mark" "[I" : Cond) ∈ wsX6_marks)) dX6_marks_120 ?_
                  refine lv_aload_n hx hb dX6_marks_123 rfl (lv_at hl 0 rfl) ?_
                  refine lv_iload_n hx hb dX6_marks_124 rfl (lv_at hl 3 rfl) ?_
                  refine gVi (cm_X6_rightOf l g (σ := σ) hw) (mMv g) ⟨hx, hb, hml, hown, hts⟩ (cwV 1 hts gX6_marks_X6_rightOf rfl rfl rfl (by decide +kernel) ⟨Nat.le_of_ble_eq_true rfl, Nat.le_of_ble_eq_true rfl⟩) (mRecv_X6 hI) hI hS hl.1 rfl rfl (Nat.le_of_ble_eq_true rfl) dX6_marks_125 (fun r8 σ9 H locs hw hI hS => ?_)
                  obtain ⟨hw, hq⟩ := hw
                  rw [hq] at hI
                  have hin := hw.1
                  have hw := hw.2
                  refine mR_X6_mark hx hb hI hin dX6_marks_128 ?_
                  refine va_mmin hx hb (hml.trans hl.1.symm) hown (hts _ (List.mem_of_getElem? (i := 3) rfl : (Cond.methodLink RX6 207 Lib.Math.min.name : Cond) ∈ wsX6_marks)) (hts _ (List.mem_of_getElem? (i := 4) rfl : (Cond.static Lib.Math.min.name : Cond) ∈ wsX6_marks)) (hts _ (List.mem_of_getElem? (i := 5) rfl : (Cond.initialized "java/lang/Math" : Cond) ∈ wsX6_marks)) (hts _ (List.mem_of_getElem? (i := 6) rfl : (Cond.code Lib.Math.min.name Lib.Math.min.code 2 (some .int) : Cond) ∈ wsX6_marks)) (Nat.le_of_ble_eq_true rfl) (Nat.le_of_ble_eq_true rfl) (Nat.zero_le _) (Nat.zero_le _) dX6_marks_129 ?_
                  refine lv_topi (fun m10 em10 => ?_)
                  have hw := hw m10 em10
                  refine lv_istore (lv' := [(4, .int m10), (0, .ref (g.2.1 0)), (1, .int x1), (2, .int x2), (3, .int x3)]) hx hb dX6_marks_132 hl (by decide) rfl (fun ls hl => ?_)
                  refine lv_aload_n hx hb dX6_marks_134 rfl (lv_at hl 1 rfl) ?_
                  refine mG_X6_mark hx hb hF hown hI (hts _ (List.mem_of_getElem? (i := 2) rfl : (Cond.fieldLink RX6 62 "PlateRoomModel" "mark" "[I" : Cond) ∈ wsX6_marks)) dX6_marks_135 ?_
                  refine lv_aload_n hx hb dX6_marks_138 rfl (lv_at hl 1 rfl) ?_
                  refine lv_iload_n hx hb dX6_marks_139 rfl (lv_at hl 4 rfl) ?_
                  refine gVi (cm_X6_leftOf l g (σ := σ) hw) (mMv g) ⟨hx, hb, hml, hown, hts⟩ (cwV 1 hts gX6_marks_X6_leftOf rfl rfl rfl (by decide +kernel) ⟨Nat.le_of_ble_eq_true rfl, Nat.le_of_ble_eq_true rfl⟩) (mRecv_X6 hI) hI hS hl.1 rfl rfl (Nat.le_of_ble_eq_true rfl) dX6_marks_140 (fun r11 σ12 H locs hw hI hS => ?_)
                  obtain ⟨hw, hq⟩ := hw
                  rw [hq] at hI
                  refine lv_iload hx hb dX6_marks_143 (lv_at hl 0 rfl) ?_
                  have hin := hw.1
                  have hw := hw.2
                  refine mS_X6_mark hx hb hI hS hin dX6_marks_145 (fun σ13 eσ13 H locs hI hS => ?_)
                  have hw := hw σ13 eσ13
                  refine lv_aload_n hx hb dX6_marks_146 rfl (lv_at hl 1 rfl) ?_
                  refine mG_X6_mark hx hb hF hown hI (hts _ (List.mem_of_getElem? (i := 2) rfl : (Cond.fieldLink RX6 62 "PlateRoomModel" "mark" "[I" : Cond) ∈ wsX6_marks)) dX6_marks_147 ?_
                  refine lv_aload_n hx hb dX6_marks_150 rfl (lv_at hl 1 rfl) ?_
                  refine lv_iload_n hx hb dX6_marks_151 rfl (lv_at hl 4 rfl) ?_
                  refine gVi (cm_X6_rightOf l g (σ := σ13) hw) (mMv g) ⟨hx, hb, hml, hown, hts⟩ (cwV 1 hts gX6_marks_X6_rightOf rfl rfl rfl (by decide +kernel) ⟨Nat.le_of_ble_eq_true rfl, Nat.le_of_ble_eq_true rfl⟩) (mRecv_X6 hI) hI hS hl.1 rfl rfl (Nat.le_of_ble_eq_true rfl) dX6_marks_152 (fun r14 σ15 H locs hw hI hS => ?_)
                  obtain ⟨hw, hq⟩ := hw
                  rw [hq] at hI
                  refine lv_iload hx hb dX6_marks_155 (lv_at hl 0 rfl) ?_
                  have hin := hw.1
                  have hw := hw.2
                  refine mS_X6_mark hx hb hI hS hin dX6_marks_157 (fun σ16 eσ16 H locs hI hS => ?_)
                  have hw := hw σ16 eσ16
                  refine lv_iconst (v := 1) hx hb dX6_marks_158 (by decide) ?_
                  refine lv_istore_n (lv' := [(2, .int 1), (4, .int m10), (0, .ref (g.2.1 0)), (1, .int x1), (3, .int x3)]) hx hb dX6_marks_159 rfl hl (by decide) rfl (fun ls hl => ?_)
                  obtain ⟨a17, ea17⟩ : ∃ y : Int32, y = x3 + 1 := ⟨_, rfl⟩
                  have hw := hw a17 ea17
                  refine lv_iinc (v := a17) (lv' := [(3, .int a17), (2, .int 1), (4, .int m10), (0, .ref (g.2.1 0)), (1, .int x1)]) hx hb dX6_marks_160 hl (k := 4) rfl (by rw [ea17]; rfl) (by decide) rfl (fun ls hl => ?_)
                  refine lv_goto (tgt := 67) hx hb dX6_marks_163 (by decide) ?_
                  rw [hK67] at hw
                  exact ih67 _ _ _ _ _ _ hI hS (lv_sub hl [3, 4, 1, 0] rfl) hw
                have hw := hw.2 hc
                refine lv_goto (tgt := 160) hx hb dX6_marks_106 (by decide) ?_
                obtain ⟨a18, ea18⟩ : ∃ y : Int32, y = x3 + 1 := ⟨_, rfl⟩
                have hw := hw a18 ea18
                refine lv_iinc (v := a18) (lv' := [(3, .int a18), (0, .ref (g.2.1 0)), (1, .int x1), (2, .int x2)]) hx hb dX6_marks_160 hl (k := 3) rfl (by rw [ea18]; rfl) (by decide) rfl (fun ls hl => ?_)
                refine lv_goto (tgt := 67) hx hb dX6_marks_163 (by decide) ?_
                rw [hK67] at hw
                exact ih67 _ _ _ _ _ _ hI hS (lv_sub hl [1, 2, 3, 0] rfl) hw
            exact key67 n67 _ _ _ _ _ _ hI hS (lv_sub hl [2, 3, 1, 0] rfl) hw
        exact key59 n59 _ _ _ _ _ _ hI hS (lv_sub hl [1, 2, 0] rfl) hw
      have hw := hw.2 hc
      refine lv_iload_n hx hb dX6_marks_10 rfl (lv_at hl 1 rfl) ?_
      refine lv_iload_n hx hb dX6_marks_11 rfl (lv_at hl 2 rfl) ?_
      refine lv_ishr hx hb dX6_marks_12 ?_
      refine lv_iconst (v := 1) hx hb dX6_marks_13 (by decide) ?_
      refine lv_iand hx hb dX6_marks_14 ?_
      refine lv_if_ne (tgt := 21) hx hb dX6_marks_15 (by decide) (fun hc => ?_) (fun hc => ?_)
      · have hw := hw.1 hc
        refine lv_aload_n hx hb dX6_marks_21 rfl (lv_at hl 0 rfl) ?_
        refine mG_X6_mark hx hb hF hown hI (hts _ (List.mem_of_getElem? (i := 2) rfl : (Cond.fieldLink RX6 62 "PlateRoomModel" "mark" "[I" : Cond) ∈ wsX6_marks)) dX6_marks_22 ?_
        refine lv_aload_n hx hb dX6_marks_25 rfl (lv_at hl 0 rfl) ?_
        refine lv_iload_n hx hb dX6_marks_26 rfl (lv_at hl 2 rfl) ?_
        refine gVi (cm_X6_leftOf l g (σ := σ) hw) (mMv g) ⟨hx, hb, hml, hown, hts⟩ (cwV 1 hts gX6_marks_X6_leftOf rfl rfl rfl (by decide +kernel) ⟨Nat.le_of_ble_eq_true rfl, Nat.le_of_ble_eq_true rfl⟩) (mRecv_X6 hI) hI hS hl.1 rfl rfl (Nat.le_of_ble_eq_true rfl) dX6_marks_27 (fun r1 σ2 H locs hw hI hS => ?_)
        obtain ⟨hw, hq⟩ := hw
        rw [hq] at hI
        refine lv_aload_n hx hb dX6_marks_30 rfl (lv_at hl 0 rfl) ?_
        refine lv_iload_n hx hb dX6_marks_31 rfl (lv_at hl 2 rfl) ?_
        refine gVi (cm_X6_leftOf l g (σ := σ) hw) (mMv g) ⟨hx, hb, hml, hown, hts⟩ (cwV 1 hts gX6_marks_X6_leftOf rfl rfl rfl (by decide +kernel) ⟨Nat.le_of_ble_eq_true rfl, Nat.le_of_ble_eq_true rfl⟩) (mRecv_X6 hI) hI hS hl.1 rfl rfl (Nat.le_of_ble_eq_true rfl) dX6_marks_32 (fun r3 σ4 H locs hw hI hS => ?_)
        obtain ⟨hw, hq⟩ := hw
        rw [hq] at hI
        have hin := hw.1
        have hw := hw.2
        refine mS_X6_mark hx hb hI hS hin dX6_marks_35 (fun σ5 eσ5 H locs hI hS => ?_)
        have hw := hw σ5 eσ5
        refine lv_aload_n hx hb dX6_marks_36 rfl (lv_at hl 0 rfl) ?_
        refine mG_X6_mark hx hb hF hown hI (hts _ (List.mem_of_getElem? (i := 2) rfl : (Cond.fieldLink RX6 62 "PlateRoomModel" "mark" "[I" : Cond) ∈ wsX6_marks)) dX6_marks_37 ?_
        refine lv_aload_n hx hb dX6_marks_40 rfl (lv_at hl 0 rfl) ?_
        refine lv_iload_n hx hb dX6_marks_41 rfl (lv_at hl 2 rfl) ?_
        refine gVi (cm_X6_rightOf l g (σ := σ5) hw) (mMv g) ⟨hx, hb, hml, hown, hts⟩ (cwV 1 hts gX6_marks_X6_rightOf rfl rfl rfl (by decide +kernel) ⟨Nat.le_of_ble_eq_true rfl, Nat.le_of_ble_eq_true rfl⟩) (mRecv_X6 hI) hI hS hl.1 rfl rfl (Nat.le_of_ble_eq_true rfl) dX6_marks_42 (fun r6 σ7 H locs hw hI hS => ?_)
        obtain ⟨hw, hq⟩ := hw
        rw [hq] at hI
        refine lv_aload_n hx hb dX6_marks_45 rfl (lv_at hl 0 rfl) ?_
        refine lv_iload_n hx hb dX6_marks_46 rfl (lv_at hl 2 rfl) ?_
        refine gVi (cm_X6_rightOf l g (σ := σ5) hw) (mMv g) ⟨hx, hb, hml, hown, hts⟩ (cwV 1 hts gX6_marks_X6_rightOf rfl rfl rfl (by decide +kernel) ⟨Nat.le_of_ble_eq_true rfl, Nat.le_of_ble_eq_true rfl⟩) (mRecv_X6 hI) hI hS hl.1 rfl rfl (Nat.le_of_ble_eq_true rfl) dX6_marks_47 (fun r8 σ9 H locs hw hI hS => ?_)
        obtain ⟨hw, hq⟩ := hw
        rw [hq] at hI
        have hin := hw.1
        have hw := hw.2
        refine mS_X6_mark hx hb hI hS hin dX6_marks_50 (fun σ10 eσ10 H locs hI hS => ?_)
        have hw := hw σ10 eσ10
        obtain ⟨a11, ea11⟩ : ∃ y : Int32, y = x2 + 1 := ⟨_, rfl⟩
        have hw := hw a11 ea11
        refine lv_iinc (v := a11) (lv' := [(2, .int a11), (0, .ref (g.2.1 0)), (1, .int x1)]) hx hb dX6_marks_51 hl (k := 2) rfl (by rw [ea11]; rfl) (by decide) rfl (fun ls hl => ?_)
        refine lv_goto (tgt := 2) hx hb dX6_marks_54 (by decide) ?_
        rw [hK2] at hw
        exact ih2 _ _ _ _ _ _ hI hS (lv_sub hl [1, 2, 0] rfl) hw
      have hw := hw.2 hc
      refine lv_goto (tgt := 51) hx hb dX6_marks_18 (by decide) ?_
      obtain ⟨a12, ea12⟩ : ∃ y : Int32, y = x2 + 1 := ⟨_, rfl⟩
      have hw := hw a12 ea12
      refine lv_iinc (v := a12) (lv' := [(2, .int a12), (0, .ref (g.2.1 0)), (1, .int x1)]) hx hb dX6_marks_51 hl (k := 2) rfl (by rw [ea12]; rfl) (by decide) rfl (fun ls hl => ?_)
      refine lv_goto (tgt := 2) hx hb dX6_marks_54 (by decide) ?_
      rw [hK2] at hw
      exact ih2 _ _ _ _ _ _ hI hS (lv_sub hl [1, 2, 0] rfl) hw
  exact key2 n2 _ _ _ _ _ _ hI hS (lv_sub hl [1, 2, 0] rfl) hw
set_option maxRecDepth 100000 in
set_option maxHeartbeats 4000000 in
theorem cm_X6_counts (l : Launch) (g : wG) {σ : wS} {x1 : Int32} {Q : wS → Prop} (hw : wm_X6_counts Q x1 σ) : Met l yX6_counts wsX6_counts ({ frames := 1, cells := 0, slots := 0, locals := 21 } : Room) (va_Pc [.ref (g.2.1 0), .int x1] (fun U => mIn g σ U.heap U)) (va_Qv Q (fun σ1 t => mIn g σ1 t.heap t) (mA g)) 0 0 (mA g) := by
  refine gOfV (maxL := 3) (mMv g) (by decide) rfl (Nat.le_of_ble_eq_true rfl) ?_
  intro p e s m args below meth c QQ hx hb hml hown hts hret ls hl hI
  have hl : lv_has ls 3 [(0, .ref (g.2.1 0)), (1, .int x1)] := hl
  have hS : va_S (mA g) s.heap s.heap [] := va_S.rf
  have hF : ∀ w ∈ wsX60, w.before args s = true := fun w h => hts w (List.mem_cons_of_mem _ (List.mem_append_right _ h))
  refine lv_iconst (v := 0) hx hb dX6_counts_0 (by decide) ?_
  refine lv_istore_n (lv' := [(2, .int 0), (0, .ref (g.2.1 0)), (1, .int x1)]) hx hb dX6_counts_1 rfl hl (by decide) rfl (fun ls hl => ?_)
  obtain ⟨n2, hw⟩ := hw
  have key2 : ∀ (n : Nat) (x1 : Int32) (x2 : Int32) (σ : wS) (H : Heap) (locs : List Loc) (ls : Array Slot), mIn g σ H s → va_S (mA g) s.heap H locs → lv_has ls 3 [(0, .ref (g.2.1 0)), (1, .int x1), (2, .int x2)] → wloop (wm_X6_counts_L2 Q x1) n (x2, σ) → W p l e ({ frames := 1, cells := 0, slots := 0, locals := 21 } : Room) s m args below meth c H locs 0 0 QQ (F0 m 2 ls []) := by
    intro n
    induction n with
    | zero => intro x1 x2 σ H locs ls hI hS hl hw; exact False.elim hw
    | succ n ih =>
      intro x1 x2 σ H locs ls hI hS hl hw
      obtain ⟨K2, hK2⟩ : ∃ K, K = wloop (wm_X6_counts_L2 Q x1) n := ⟨_, rfl⟩
      have hw : wm_X6_counts_L2 Q x1 K2 (x2, σ) := by rw [hK2]; exact hw
      dsimp only [wm_X6_counts_L2] at hw
      have ih2 := ih
      refine lv_iload_n hx hb dX6_counts_2 rfl (lv_at hl 2 rfl) ?_
      refine lv_sipush (v := 500) hx hb dX6_counts_3 (by decide) ?_
      refine lv_icmp_ge (tgt := 22) hx hb dX6_counts_6 (by decide) (fun hc => ?_) (fun hc => ?_)
      · have hw := hw.1 hc
        refine lv_iconst (v := 0) hx hb dX6_counts_22 (by decide) ?_
        refine lv_istore_n (lv' := [(2, .int 0), (0, .ref (g.2.1 0)), (1, .int x1)]) hx hb dX6_counts_23 rfl hl (by decide) rfl (fun ls hl => ?_)
        obtain ⟨n24, hw⟩ := hw
        have key24 : ∀ (n : Nat) (x1 : Int32) (x2 : Int32) (σ : wS) (H : Heap) (locs : List Loc) (ls : Array Slot), mIn g σ H s → va_S (mA g) s.heap H locs → lv_has ls 3 [(0, .ref (g.2.1 0)), (1, .int x1), (2, .int x2)] → wloop (wm_X6_counts_L24 Q x1) n (x2, σ) → W p l e ({ frames := 1, cells := 0, slots := 0, locals := 21 } : Room) s m args below meth c H locs 0 0 QQ (F0 m 24 ls []) := by
          intro n
          induction n with
          | zero => intro x1 x2 σ H locs ls hI hS hl hw; exact False.elim hw
          | succ n ih =>
            intro x1 x2 σ H locs ls hI hS hl hw
            obtain ⟨K24, hK24⟩ : ∃ K, K = wloop (wm_X6_counts_L24 Q x1) n := ⟨_, rfl⟩
            have hw : wm_X6_counts_L24 Q x1 K24 (x2, σ) := by rw [hK24]; exact hw
            dsimp only [wm_X6_counts_L24] at hw
            have ih24 := ih
            refine lv_iload_n hx hb dX6_counts_24 rfl (lv_at hl 2 rfl) ?_
            refine lv_aload_n hx hb dX6_counts_25 rfl (lv_at hl 0 rfl) ?_
            refine mG_X6_plates hx hb hF hown hI (hts _ (List.mem_of_getElem? (i := 2) rfl : (Cond.fieldLink RX6 108 "PlateRoomModel" "plates" "I" : Cond) ∈ wsX6_counts)) dX6_counts_26 ?_
            refine lv_icmp_ge (tgt := 77) hx hb dX6_counts_29 (by decide) (fun hc => ?_) (fun hc => ?_)
            · have hw := hw.1 hc
              exact hret _ _ _ _ _ dX6_counts_77 hw hI hS
            have hw := hw.2 hc
            refine lv_iload_n hx hb dX6_counts_32 rfl (lv_at hl 1 rfl) ?_
            refine lv_iload_n hx hb dX6_counts_33 rfl (lv_at hl 2 rfl) ?_
            refine lv_ishr hx hb dX6_counts_34 ?_
            refine lv_iconst (v := 1) hx hb dX6_counts_35 (by decide) ?_
            refine lv_iand hx hb dX6_counts_36 ?_
            refine lv_if_ne (tgt := 43) hx hb dX6_counts_37 (by decide) (fun hc => ?_) (fun hc => ?_)
            · have hw := hw.1 hc
              refine lv_aload_n hx hb dX6_counts_43 rfl (lv_at hl 0 rfl) ?_
              refine mG_X6_excess hx hb hF hown hI (hts _ (List.mem_of_getElem? (i := 1) rfl : (Cond.fieldLink RX6 59 "PlateRoomModel" "excess" "[I" : Cond) ∈ wsX6_counts)) dX6_counts_44 ?_
              refine lv_aload_n hx hb dX6_counts_47 rfl (lv_at hl 0 rfl) ?_
              refine lv_iload_n hx hb dX6_counts_48 rfl (lv_at hl 2 rfl) ?_
              refine gVi (cm_X6_leftOf l g (σ := σ) hw) (mMv g) ⟨hx, hb, hml, hown, hts⟩ (cwV 1 hts gX6_counts_X6_leftOf rfl rfl rfl (by decide +kernel) ⟨Nat.le_of_ble_eq_true rfl, Nat.le_of_ble_eq_true rfl⟩) (mRecv_X6 hI) hI hS hl.1 rfl rfl (Nat.le_of_ble_eq_true rfl) dX6_counts_49 (fun r1 σ2 H locs hw hI hS => ?_)
              obtain ⟨hw, hq⟩ := hw
              rw [hq] at hI
              refine lv_dup2_11 hx hb dX6_counts_52 rfl rfl ?_
              have hin := hw.1
              have hw := hw.2
              refine mR_X6_excess hx hb hI hin dX6_counts_53 ?_
              refine lv_iconst (v := 1) hx hb dX6_counts_54 (by decide) ?_
              refine lv_iadd hx hb dX6_counts_55 ?_
              have hin := hw.1
              have hw := hw.2
              refine mS_X6_excess hx hb hI hS hin dX6_counts_56 (fun σ3 eσ3 H locs hI hS => ?_)
              have hw := hw σ3 eσ3
              refine lv_aload_n hx hb dX6_counts_57 rfl (lv_at hl 0 rfl) ?_
              refine mG_X6_excess hx hb hF hown hI (hts _ (List.mem_of_getElem? (i := 1) rfl : (Cond.fieldLink RX6 59 "PlateRoomModel" "excess" "[I" : Cond) ∈ wsX6_counts)) dX6_counts_58 ?_
              refine lv_aload_n hx hb dX6_counts_61 rfl (lv_at hl 0 rfl) ?_
              refine lv_iload_n hx hb dX6_counts_62 rfl (lv_at hl 2 rfl) ?_
              refine gVi (cm_X6_rightOf l g (σ := σ3) hw) (mMv g) ⟨hx, hb, hml, hown, hts⟩ (cwV 1 hts gX6_counts_X6_rightOf rfl rfl rfl (by decide +kernel) ⟨Nat.le_of_ble_eq_true rfl, Nat.le_of_ble_eq_true rfl⟩) (mRecv_X6 hI) hI hS hl.1 rfl rfl (Nat.le_of_ble_eq_true rfl) dX6_counts_63 (fun r4 σ5 H locs hw hI hS => ?_)
              obtain ⟨hw, hq⟩ := hw
              rw [hq] at hI
              refine lv_dup2_11 hx hb dX6_counts_66 rfl rfl ?_
              have hin := hw.1
              have hw := hw.2
              refine mR_X6_excess hx hb hI hin dX6_counts_67 ?_
              refine lv_iconst (v := 1) hx hb dX6_counts_68 (by decide) ?_
              refine lv_isub hx hb dX6_counts_69 ?_
              have hin := hw.1
              have hw := hw.2
              refine mS_X6_excess hx hb hI hS hin dX6_counts_70 (fun σ6 eσ6 H locs hI hS => ?_)
              have hw := hw σ6 eσ6
              obtain ⟨a7, ea7⟩ : ∃ y : Int32, y = x2 + 1 := ⟨_, rfl⟩
              have hw := hw a7 ea7
              refine lv_iinc (v := a7) (lv' := [(2, .int a7), (0, .ref (g.2.1 0)), (1, .int x1)]) hx hb dX6_counts_71 hl (k := 2) rfl (by rw [ea7]; rfl) (by decide) rfl (fun ls hl => ?_)
              refine lv_goto (tgt := 24) hx hb dX6_counts_74 (by decide) ?_
              rw [hK24] at hw
              exact ih24 _ _ _ _ _ _ hI hS (lv_sub hl [1, 2, 0] rfl) hw
            have hw := hw.2 hc
            refine lv_goto (tgt := 71) hx hb dX6_counts_40 (by decide) ?_
            obtain ⟨a8, ea8⟩ : ∃ y : Int32, y = x2 + 1 := ⟨_, rfl⟩
            have hw := hw a8 ea8
            refine lv_iinc (v := a8) (lv' := [(2, .int a8), (0, .ref (g.2.1 0)), (1, .int x1)]) hx hb dX6_counts_71 hl (k := 2) rfl (by rw [ea8]; rfl) (by decide) rfl (fun ls hl => ?_)
            refine lv_goto (tgt := 24) hx hb dX6_counts_74 (by decide) ?_
            rw [hK24] at hw
            exact ih24 _ _ _ _ _ _ hI hS (lv_sub hl [1, 2, 0] rfl) hw
        exact key24 n24 _ _ _ _ _ _ hI hS (lv_sub hl [1, 2, 0] rfl) hw
      have hw := hw.2 hc
      refine lv_aload_n hx hb dX6_counts_9 rfl (lv_at hl 0 rfl) ?_
      refine mG_X6_excess hx hb hF hown hI (hts _ (List.mem_of_getElem? (i := 1) rfl : (Cond.fieldLink RX6 59 "PlateRoomModel" "excess" "[I" : Cond) ∈ wsX6_counts)) dX6_counts_10 ?_
      refine lv_iload_n hx hb dX6_counts_13 rfl (lv_at hl 2 rfl) ?_
      refine lv_iconst (v := 0) hx hb dX6_counts_14 (by decide) ?_
      have hin := hw.1
      have hw := hw.2
      refine mS_X6_excess hx hb hI hS hin dX6_counts_15 (fun σ1 eσ1 H locs hI hS => ?_)
      have hw := hw σ1 eσ1
      obtain ⟨a2, ea2⟩ : ∃ y : Int32, y = x2 + 1 := ⟨_, rfl⟩
      have hw := hw a2 ea2
      refine lv_iinc (v := a2) (lv' := [(2, .int a2), (0, .ref (g.2.1 0)), (1, .int x1)]) hx hb dX6_counts_16 hl (k := 2) rfl (by rw [ea2]; rfl) (by decide) rfl (fun ls hl => ?_)
      refine lv_goto (tgt := 2) hx hb dX6_counts_19 (by decide) ?_
      rw [hK2] at hw
      exact ih2 _ _ _ _ _ _ hI hS (lv_sub hl [1, 2, 0] rfl) hw
  exact key2 n2 _ _ _ _ _ _ hI hS (lv_sub hl [1, 2, 0] rfl) hw
