set_option maxRecDepth 100000 in
set_option maxHeartbeats 4000000 in
theorem cm_X6_stood (l : Launch) (g : wG) {σ : wS} {x1 : Int32} {x2 : Int32} {x3 : Int32} {x4 : Int32} {x5 : Int32} {Q : Int32 → wS → Prop} (hw : wm_X6_stood Q x1 x2 x3 x4 x5 σ) : Met l yX6_stood wsX6_stood ({ frames := 2, cells := 0, slots := 0, locals := 46 } : Room) (va_Pc [.ref (g.2.1 0), .int x1, .int x2, .int x3, .int x4, .int x5] (fun U => mIn g σ U.heap U)) (va_Qi Q (fun σ1 t => mIn g σ1 t.heap t) (mA g)) 0 0 (mA g) := by
  refine gOfI (maxL := 6) (mMv g) (by decide) rfl (Nat.le_of_ble_eq_true rfl) ?_
  intro p e s m args below meth c QQ hx hb hml hown hts hret ls hl hI
  have hl : lv_has ls 6 [(0, .ref (g.2.1 0)), (1, .int x1), (2, .int x2), (3, .int x3), (4, .int x4), (5, .int x5)] := hl
  have hS : va_S (mA g) s.heap s.heap [] := va_S.rf
  have hF : ∀ w ∈ wsX60, w.before args s = true := fun w h => hts w (List.mem_cons_of_mem _ (List.mem_append_right _ h))
  have j63 : ∀ (x1 : Int32) (x3 : Int32) (x4 : Int32) (x5 : Int32) (s1 : Int32) (σ : wS) (H : Heap) (locs : List Loc) (ls : Array Slot), mIn g σ H s → va_S (mA g) s.heap H locs → lv_has ls 6 [(1, .int x1), (3, .int x3), (4, .int x4), (5, .int x5)] → wm_X6_stood_J63 Q x1 x3 x4 x5 s1 σ → W p l e ({ frames := 2, cells := 0, slots := 0, locals := 46 } : Room) s m args below meth c H locs 0 0 QQ (F0 m 63 ls [.int s1, .ref (g.2.1 0)]) := by
    intro x1 x3 x4 x5 s1 σ H locs ls hI hS hl hw
    refine lv_iload_n hx hb dX6_stood_63 rfl (lv_at hl 0 rfl) ?_
    refine lv_iload_n hx hb dX6_stood_64 rfl (lv_at hl 1 rfl) ?_
    refine lv_iload hx hb dX6_stood_65 (lv_at hl 2 rfl) ?_
    refine lv_iload hx hb dX6_stood_67 (lv_at hl 3 rfl) ?_
    refine gVi (cm_X6_adds l g (σ := σ) hw) (mMv g) ⟨hx, hb, hml, hown, hts⟩ (cwV 5 hts gX6_stood_X6_adds rfl rfl rfl (by decide +kernel) ⟨Nat.le_of_ble_eq_true rfl, Nat.le_of_ble_eq_true rfl⟩) (mRecv_X6 hI) hI hS hl.1 rfl rfl (Nat.le_of_ble_eq_true rfl) dX6_stood_69 (fun r1 σ2 H locs hw hI hS => ?_)
    refine lv_goto (tgt := 80) hx hb dX6_stood_72 (by decide) ?_
    exact hret _ _ _ _ _ _ dX6_stood_80 hw hI hS
  refine lv_aload_n hx hb dX6_stood_0 rfl (lv_at hl 0 rfl) ?_
  refine lv_iconst (v := 0) hx hb dX6_stood_1 (by decide) ?_
  refine mP_X6_thrown hx hb hF hown hI hS (hts _ (List.mem_of_getElem? (i := 1) rfl : (Cond.fieldLink RX6 101 "PlateRoomModel" "thrown" "I" : Cond) ∈ wsX6_stood)) dX6_stood_2 (fun σ1 eσ1 H locs hI hS => ?_)
  have hw := hw σ1 eσ1
  refine lv_aload_n hx hb dX6_stood_5 rfl (lv_at hl 0 rfl) ?_
  refine lv_iconst (v := 0) hx hb dX6_stood_6 (by decide) ?_
  refine mP_X6_status hx hb hF hown hI hS (hts _ (List.mem_of_getElem? (i := 2) rfl : (Cond.fieldLink RX6 105 "PlateRoomModel" "status" "I" : Cond) ∈ wsX6_stood)) dX6_stood_7 (fun σ2 eσ2 H locs hI hS => ?_)
  have hw := hw σ2 eσ2
  refine lv_aload_n hx hb dX6_stood_10 rfl (lv_at hl 0 rfl) ?_
  refine lv_iload_n hx hb dX6_stood_11 rfl (lv_at hl 1 rfl) ?_
  refine gVi (cm_X6_isMotif l g (σ := σ2) hw) (mMv g) ⟨hx, hb, hml, hown, hts⟩ (cwV 1 hts gX6_stood_X6_isMotif rfl rfl rfl (by decide +kernel) ⟨Nat.le_of_ble_eq_true rfl, Nat.le_of_ble_eq_true rfl⟩) (mRecv_X6 hI) hI hS hl.1 rfl rfl (Nat.le_of_ble_eq_true rfl) dX6_stood_12 (fun r3 σ4 H locs hw hI hS => ?_)
  obtain ⟨hw, hq⟩ := hw
  rw [hq] at hI
  refine lv_if_ne (tgt := 24) hx hb dX6_stood_15 (by decide) (fun hc => ?_) (fun hc => ?_)
  · have hw := hw.1 hc
    refine lv_iload_n hx hb dX6_stood_24 rfl (lv_at hl 3 rfl) ?_
    refine gSi (cm_X6_isTime l g (σ := σ2) hw) (mMv g) ⟨hx, hb, hml, hown, hts⟩ (va_cwS 1 hts gX6_stood_X6_isTime rfl rfl rfl (by decide +kernel) ⟨Nat.le_of_ble_eq_true rfl, Nat.le_of_ble_eq_true rfl⟩) hI hS hl.1 rfl rfl (Nat.le_of_ble_eq_true rfl) dX6_stood_25 (fun r5 σ6 H locs hw hI hS => ?_)
    obtain ⟨hw, hq⟩ := hw
    rw [hq] at hI
    refine lv_if_eq (tgt := 75) hx hb dX6_stood_28 (by decide) (fun hc => ?_) (fun hc => ?_)
    · have hw := hw.1 hc
      refine lv_aload_n hx hb dX6_stood_75 rfl (lv_at hl 0 rfl) ?_
      refine lv_iconst (v := 2) hx hb dX6_stood_76 (by decide) ?_
      refine gVi (cm_X6_refuse l g (σ := σ2) hw) (mMv g) ⟨hx, hb, hml, hown, hts⟩ (cwV 1 hts gX6_stood_X6_refuse rfl rfl rfl (by decide +kernel) ⟨Nat.le_of_ble_eq_true rfl, Nat.le_of_ble_eq_true rfl⟩) (mRecv_X6 hI) hI hS hl.1 rfl rfl (Nat.le_of_ble_eq_true rfl) dX6_stood_77 (fun r7 σ8 H locs hw hI hS => ?_)
      exact hret _ _ _ _ _ _ dX6_stood_80 hw hI hS
    have hw := hw.2 hc
    refine lv_iload hx hb dX6_stood_31 (lv_at hl 4 rfl) ?_
    refine gSi (cm_X6_isTime l g (σ := σ2) hw) (mMv g) ⟨hx, hb, hml, hown, hts⟩ (va_cwS 1 hts gX6_stood_X6_isTime rfl rfl rfl (by decide +kernel) ⟨Nat.le_of_ble_eq_true rfl, Nat.le_of_ble_eq_true rfl⟩) hI hS hl.1 rfl rfl (Nat.le_of_ble_eq_true rfl) dX6_stood_33 (fun r9 σ10 H locs hw hI hS => ?_)
    obtain ⟨hw, hq⟩ := hw
    rw [hq] at hI
    refine lv_if_eq (tgt := 75) hx hb dX6_stood_36 (by decide) (fun hc => ?_) (fun hc => ?_)
    · have hw := hw.1 hc
      refine lv_aload_n hx hb dX6_stood_75 rfl (lv_at hl 0 rfl) ?_
      refine lv_iconst (v := 2) hx hb dX6_stood_76 (by decide) ?_
      refine gVi (cm_X6_refuse l g (σ := σ2) hw) (mMv g) ⟨hx, hb, hml, hown, hts⟩ (cwV 1 hts gX6_stood_X6_refuse rfl rfl rfl (by decide +kernel) ⟨Nat.le_of_ble_eq_true rfl, Nat.le_of_ble_eq_true rfl⟩) (mRecv_X6 hI) hI hS hl.1 rfl rfl (Nat.le_of_ble_eq_true rfl) dX6_stood_77 (fun r11 σ12 H locs hw hI hS => ?_)
      exact hret _ _ _ _ _ _ dX6_stood_80 hw hI hS
    have hw := hw.2 hc
    refine lv_iload_n hx hb dX6_stood_39 rfl (lv_at hl 3 rfl) ?_
    refine lv_iload hx hb dX6_stood_40 (lv_at hl 4 rfl) ?_
    refine lv_icmp_gt (tgt := 75) hx hb dX6_stood_42 (by decide) (fun hc => ?_) (fun hc => ?_)
    · have hw := hw.1 hc
      refine lv_aload_n hx hb dX6_stood_75 rfl (lv_at hl 0 rfl) ?_
      refine lv_iconst (v := 2) hx hb dX6_stood_76 (by decide) ?_
      refine gVi (cm_X6_refuse l g (σ := σ2) hw) (mMv g) ⟨hx, hb, hml, hown, hts⟩ (cwV 1 hts gX6_stood_X6_refuse rfl rfl rfl (by decide +kernel) ⟨Nat.le_of_ble_eq_true rfl, Nat.le_of_ble_eq_true rfl⟩) (mRecv_X6 hI) hI hS hl.1 rfl rfl (Nat.le_of_ble_eq_true rfl) dX6_stood_77 (fun r13 σ14 H locs hw hI hS => ?_)
      exact hret _ _ _ _ _ _ dX6_stood_80 hw hI hS
    have hw := hw.2 hc
    refine lv_iload hx hb dX6_stood_45 (lv_at hl 5 rfl) ?_
    refine gSi (cm_X6_isDay l g (σ := σ2) hw) (mMv g) ⟨hx, hb, hml, hown, hts⟩ (va_cwS 1 hts gX6_stood_X6_isDay rfl rfl rfl (by decide +kernel) ⟨Nat.le_of_ble_eq_true rfl, Nat.le_of_ble_eq_true rfl⟩) hI hS hl.1 rfl rfl (Nat.le_of_ble_eq_true rfl) dX6_stood_47 (fun r15 σ16 H locs hw hI hS => ?_)
    obtain ⟨hw, hq⟩ := hw
    rw [hq] at hI
    refine lv_if_eq (tgt := 75) hx hb dX6_stood_50 (by decide) (fun hc => ?_) (fun hc => ?_)
    · have hw := hw.1 hc
      refine lv_aload_n hx hb dX6_stood_75 rfl (lv_at hl 0 rfl) ?_
      refine lv_iconst (v := 2) hx hb dX6_stood_76 (by decide) ?_
      refine gVi (cm_X6_refuse l g (σ := σ2) hw) (mMv g) ⟨hx, hb, hml, hown, hts⟩ (cwV 1 hts gX6_stood_X6_refuse rfl rfl rfl (by decide +kernel) ⟨Nat.le_of_ble_eq_true rfl, Nat.le_of_ble_eq_true rfl⟩) (mRecv_X6 hI) hI hS hl.1 rfl rfl (Nat.le_of_ble_eq_true rfl) dX6_stood_77 (fun r17 σ18 H locs hw hI hS => ?_)
      exact hret _ _ _ _ _ _ dX6_stood_80 hw hI hS
    have hw := hw.2 hc
    refine lv_aload_n hx hb dX6_stood_53 rfl (lv_at hl 0 rfl) ?_
    refine lv_iload_n hx hb dX6_stood_54 rfl (lv_at hl 2 rfl) ?_
    refine lv_if_eq (tgt := 62) hx hb dX6_stood_55 (by decide) (fun hc => ?_) (fun hc => ?_)
    · have hw := hw.1 hc
      refine lv_iconst (v := 3) hx hb dX6_stood_62 (by decide) ?_
      exact j63 _ _ _ _ _ _ _ _ _ hI hS (lv_sub hl [1, 3, 4, 5] rfl) hw
    have hw := hw.2 hc
    refine lv_iconst (v := 4) hx hb dX6_stood_58 (by decide) ?_
    refine lv_goto (tgt := 63) hx hb dX6_stood_59 (by decide) ?_
    exact j63 _ _ _ _ _ _ _ _ _ hI hS (lv_sub hl [1, 3, 4, 5] rfl) hw
  have hw := hw.2 hc
  refine lv_aload_n hx hb dX6_stood_18 rfl (lv_at hl 0 rfl) ?_
  refine lv_iconst (v := 1) hx hb dX6_stood_19 (by decide) ?_
  refine gVi (cm_X6_refuse l g (σ := σ2) hw) (mMv g) ⟨hx, hb, hml, hown, hts⟩ (cwV 1 hts gX6_stood_X6_refuse rfl rfl rfl (by decide +kernel) ⟨Nat.le_of_ble_eq_true rfl, Nat.le_of_ble_eq_true rfl⟩) (mRecv_X6 hI) hI hS hl.1 rfl rfl (Nat.le_of_ble_eq_true rfl) dX6_stood_20 (fun r19 σ20 H locs hw hI hS => ?_)
  exact hret _ _ _ _ _ _ dX6_stood_23 hw hI hS
set_option maxRecDepth 100000 in
set_option maxHeartbeats 4000000 in
theorem cm_X6_isFact (l : Launch) (g : wG) {σ : wS} {x1 : Int32} {Q : Int32 → Prop} (hw : wm_X6_isFact Q x1 σ) : Met l yX6_isFact wsX6_isFact ({ frames := 0, cells := 0, slots := 0, locals := 0 } : Room) (va_Pc [.ref (g.2.1 0), .int x1] (fun U => mIn g σ U.heap U)) (va_Qi (fun r σ1 => Q r ∧ σ1 = σ) (fun σ1 t => mIn g σ1 t.heap t) (mA g)) 0 0 (mA g) := by
  refine gOfZ (maxL := 2) (mMv g) (by decide) rfl (Nat.le_of_ble_eq_true rfl) ?_
  intro p e s m args below meth c QQ hx hb hml hown hts hret ls hl hI
  have hl : lv_has ls 2 [(0, .ref (g.2.1 0)), (1, .int x1)] := hl
  have hS : va_S (mA g) s.heap s.heap [] := va_S.rf
  have hF : ∀ w ∈ wsX60, w.before args s = true := fun w h => hts w (List.mem_cons_of_mem _ (List.mem_append_right _ h))
  refine lv_iload_n hx hb dX6_isFact_0 rfl (lv_at hl 1 rfl) ?_
  refine lv_if_lt (tgt := 16) hx hb dX6_isFact_1 (by decide) (fun hc => ?_) (fun hc => ?_)
  · have hw := hw.1 hc
    refine lv_iconst (v := 0) hx hb dX6_isFact_16 (by decide) ?_
    exact hret _ _ _ _ _ _ dX6_isFact_17 isB0 ⟨hw, rfl⟩ hI hS
  have hw := hw.2 hc
  refine lv_iload_n hx hb dX6_isFact_4 rfl (lv_at hl 1 rfl) ?_
  refine lv_aload_n hx hb dX6_isFact_5 rfl (lv_at hl 0 rfl) ?_
  refine mG_X6_facts hx hb hF hown hI (hts _ (List.mem_of_getElem? (i := 1) rfl : (Cond.fieldLink RX6 119 "PlateRoomModel" "facts" "I" : Cond) ∈ wsX6_isFact)) dX6_isFact_6 ?_
  refine lv_icmp_ge (tgt := 16) hx hb dX6_isFact_9 (by decide) (fun hc => ?_) (fun hc => ?_)
  · have hw := hw.1 hc
    refine lv_iconst (v := 0) hx hb dX6_isFact_16 (by decide) ?_
    exact hret _ _ _ _ _ _ dX6_isFact_17 isB0 ⟨hw, rfl⟩ hI hS
  have hw := hw.2 hc
  refine lv_iconst (v := 1) hx hb dX6_isFact_12 (by decide) ?_
  refine lv_goto (tgt := 17) hx hb dX6_isFact_13 (by decide) ?_
  exact hret _ _ _ _ _ _ dX6_isFact_17 isB1 ⟨hw, rfl⟩ hI hS
set_option maxRecDepth 100000 in
set_option maxHeartbeats 4000000 in
theorem cm_X6_no (l : Launch) (g : wG) {σ : wS} {x1 : Int32} {Q : Int32 → wS → Prop} (hw : wm_X6_no Q x1 σ) : Met l yX6_no wsX6_no ({ frames := 0, cells := 0, slots := 0, locals := 0 } : Room) (va_Pc [.ref (g.2.1 0), .int x1] (fun U => mIn g σ U.heap U)) (va_Qi Q (fun σ1 t => mIn g σ1 t.heap t) (mA g)) 0 0 (mA g) := by
  refine gOfZ (maxL := 2) (mMv g) (by decide) rfl (Nat.le_of_ble_eq_true rfl) ?_
  intro p e s m args below meth c QQ hx hb hml hown hts hret ls hl hI
  have hl : lv_has ls 2 [(0, .ref (g.2.1 0)), (1, .int x1)] := hl
  have hS : va_S (mA g) s.heap s.heap [] := va_S.rf
  have hF : ∀ w ∈ wsX60, w.before args s = true := fun w h => hts w (List.mem_cons_of_mem _ (List.mem_append_right _ h))
  refine lv_aload_n hx hb dX6_no_0 rfl (lv_at hl 0 rfl) ?_
  refine lv_iload_n hx hb dX6_no_1 rfl (lv_at hl 1 rfl) ?_
  refine mP_X6_status hx hb hF hown hI hS (hts _ (List.mem_of_getElem? (i := 1) rfl : (Cond.fieldLink RX6 105 "PlateRoomModel" "status" "I" : Cond) ∈ wsX6_no)) dX6_no_2 (fun σ1 eσ1 H locs hI hS => ?_)
  have hw := hw σ1 eσ1
  refine lv_iconst (v := 0) hx hb dX6_no_5 (by decide) ?_
  exact hret _ _ _ _ _ _ dX6_no_6 isB0 hw hI hS
set_option maxRecDepth 100000 in
set_option maxHeartbeats 4000000 in
theorem cm_X6_cross (l : Launch) (g : wG) {σ : wS} {x1 : Int32} {x2 : Int32} {Q : Int32 → wS → Prop} (hw : wm_X6_cross Q x1 x2 σ) : Met l yX6_cross wsX6_cross ({ frames := 1, cells := 0, slots := 0, locals := 21 } : Room) (va_Pc [.ref (g.2.1 0), .int x1, .int x2] (fun U => mIn g σ U.heap U)) (va_Qi Q (fun σ1 t => mIn g σ1 t.heap t) (mA g)) 0 0 (mA g) := by
  refine gOfZ (maxL := 3) (mMv g) (by decide) rfl (Nat.le_of_ble_eq_true rfl) ?_
  intro p e s m args below meth c QQ hx hb hml hown hts hret ls hl hI
  have hl : lv_has ls 3 [(0, .ref (g.2.1 0)), (1, .int x1), (2, .int x2)] := hl
  have hS : va_S (mA g) s.heap s.heap [] := va_S.rf
  have hF : ∀ w ∈ wsX60, w.before args s = true := fun w h => hts w (List.mem_cons_of_mem _ (List.mem_append_right _ h))
  refine lv_aload_n hx hb dX6_cross_0 rfl (lv_at hl 0 rfl) ?_
  refine lv_iconst (v := 0) hx hb dX6_cross_1 (by decide) ?_
  refine mP_X6_thrown hx hb hF hown hI hS (hts _ (List.mem_of_getElem? (i := 1) rfl : (Cond.fieldLink RX6 101 "PlateRoomModel" "thrown" "I" : Cond) ∈ wsX6_cross)) dX6_cross_2 (fun σ1 eσ1 H locs hI hS => ?_)
  have hw := hw σ1 eσ1
  refine lv_aload_n hx hb dX6_cross_5 rfl (lv_at hl 0 rfl) ?_
  refine lv_iconst (v := 0) hx hb dX6_cross_6 (by decide) ?_
  refine mP_X6_status hx hb hF hown hI hS (hts _ (List.mem_of_getElem? (i := 2) rfl : (Cond.fieldLink RX6 105 "PlateRoomModel" "status" "I" : Cond) ∈ wsX6_cross)) dX6_cross_7 (fun σ2 eσ2 H locs hI hS => ?_)
  have hw := hw σ2 eσ2
  refine lv_aload_n hx hb dX6_cross_10 rfl (lv_at hl 0 rfl) ?_
  refine lv_iload_n hx hb dX6_cross_11 rfl (lv_at hl 1 rfl) ?_
  refine gVi (cm_X6_isFact l g (σ := σ2) hw) (mMv g) ⟨hx, hb, hml, hown, hts⟩ (cwV 1 hts gX6_cross_X6_isFact rfl rfl rfl (by decide +kernel) ⟨Nat.le_of_ble_eq_true rfl, Nat.le_of_ble_eq_true rfl⟩) (mRecv_X6 hI) hI hS hl.1 rfl rfl (Nat.le_of_ble_eq_true rfl) dX6_cross_12 (fun r3 σ4 H locs hw hI hS => ?_)
  obtain ⟨hw, hq⟩ := hw
  rw [hq] at hI
  refine lv_if_ne (tgt := 24) hx hb dX6_cross_15 (by decide) (fun hc => ?_) (fun hc => ?_)
  · have hw := hw.1 hc
    refine lv_iload_n hx hb dX6_cross_24 rfl (lv_at hl 2 rfl) ?_
    refine gSi (cm_X6_isDay l g (σ := σ2) hw) (mMv g) ⟨hx, hb, hml, hown, hts⟩ (va_cwS 1 hts gX6_cross_X6_isDay rfl rfl rfl (by decide +kernel) ⟨Nat.le_of_ble_eq_true rfl, Nat.le_of_ble_eq_true rfl⟩) hI hS hl.1 rfl rfl (Nat.le_of_ble_eq_true rfl) dX6_cross_25 (fun r5 σ6 H locs hw hI hS => ?_)
    obtain ⟨hw, hq⟩ := hw
    rw [hq] at hI
    refine lv_if_ne (tgt := 37) hx hb dX6_cross_28 (by decide) (fun hc => ?_) (fun hc => ?_)
    · have hw := hw.1 hc
      refine lv_aload_n hx hb dX6_cross_37 rfl (lv_at hl 0 rfl) ?_
      refine mG_X6_crossed hx hb hF hown hI (hts _ (List.mem_of_getElem? (i := 3) rfl : (Cond.fieldLink RX6 25 "PlateRoomModel" "crossed" "[I" : Cond) ∈ wsX6_cross)) dX6_cross_38 ?_
      refine lv_iload_n hx hb dX6_cross_41 rfl (lv_at hl 1 rfl) ?_
      have hin := hw.1
      have hw := hw.2
      refine mR_X6_crossed hx hb hI hin dX6_cross_42 ?_
      refine lv_if_lt (tgt := 52) hx hb dX6_cross_43 (by decide) (fun hc => ?_) (fun hc => ?_)
      · have hw := hw.1 hc
        refine lv_aload_n hx hb dX6_cross_52 rfl (lv_at hl 0 rfl) ?_
        refine mG_X6_crossed hx hb hF hown hI (hts _ (List.mem_of_getElem? (i := 3) rfl : (Cond.fieldLink RX6 25 "PlateRoomModel" "crossed" "[I" : Cond) ∈ wsX6_cross)) dX6_cross_53 ?_
        refine lv_iload_n hx hb dX6_cross_56 rfl (lv_at hl 1 rfl) ?_
        refine lv_iload_n hx hb dX6_cross_57 rfl (lv_at hl 2 rfl) ?_
        have hin := hw.1
        have hw := hw.2
        refine mS_X6_crossed hx hb hI hS hin dX6_cross_58 (fun σ7 eσ7 H locs hI hS => ?_)
        have hw := hw σ7 eσ7
        refine lv_iconst (v := 1) hx hb dX6_cross_59 (by decide) ?_
        exact hret _ _ _ _ _ _ dX6_cross_60 isB1 hw hI hS
      have hw := hw.2 hc
      refine lv_aload_n hx hb dX6_cross_46 rfl (lv_at hl 0 rfl) ?_
      refine lv_iconst (v := 4) hx hb dX6_cross_47 (by decide) ?_
      refine gVi (cm_X6_no l g (σ := σ2) hw) (mMv g) ⟨hx, hb, hml, hown, hts⟩ (cwV 1 hts gX6_cross_X6_no rfl rfl rfl (by decide +kernel) ⟨Nat.le_of_ble_eq_true rfl, Nat.le_of_ble_eq_true rfl⟩) (mRecv_X6 hI) hI hS hl.1 rfl rfl (Nat.le_of_ble_eq_true rfl) dX6_cross_48 (fun r8 σ9 H locs hw hI hS => ?_)
      exact hret _ _ _ _ _ _ dX6_cross_51 hw.1 hw.2 hI hS
    have hw := hw.2 hc
    refine lv_aload_n hx hb dX6_cross_31 rfl (lv_at hl 0 rfl) ?_
    refine lv_iconst (v := 2) hx hb dX6_cross_32 (by decide) ?_
    refine gVi (cm_X6_no l g (σ := σ2) hw) (mMv g) ⟨hx, hb, hml, hown, hts⟩ (cwV 1 hts gX6_cross_X6_no rfl rfl rfl (by decide +kernel) ⟨Nat.le_of_ble_eq_true rfl, Nat.le_of_ble_eq_true rfl⟩) (mRecv_X6 hI) hI hS hl.1 rfl rfl (Nat.le_of_ble_eq_true rfl) dX6_cross_33 (fun r10 σ11 H locs hw hI hS => ?_)
    exact hret _ _ _ _ _ _ dX6_cross_36 hw.1 hw.2 hI hS
  have hw := hw.2 hc
  refine lv_aload_n hx hb dX6_cross_18 rfl (lv_at hl 0 rfl) ?_
  refine lv_iconst (v := 1) hx hb dX6_cross_19 (by decide) ?_
  refine gVi (cm_X6_no l g (σ := σ2) hw) (mMv g) ⟨hx, hb, hml, hown, hts⟩ (cwV 1 hts gX6_cross_X6_no rfl rfl rfl (by decide +kernel) ⟨Nat.le_of_ble_eq_true rfl, Nat.le_of_ble_eq_true rfl⟩) (mRecv_X6 hI) hI hS hl.1 rfl rfl (Nat.le_of_ble_eq_true rfl) dX6_cross_20 (fun r12 σ13 H locs hw hI hS => ?_)
  exact hret _ _ _ _ _ _ dX6_cross_23 hw.1 hw.2 hI hS
set_option maxRecDepth 100000 in
set_option maxHeartbeats 4000000 in
theorem cm_X6_fact (l : Launch) (g : wG) {σ : wS} {x1 : Int32} {x2 : Int32} {Q : Int32 → wS → Prop} (hw : wm_X6_fact Q x1 x2 σ) : Met l yX6_fact wsX6_fact ({ frames := 1, cells := 0, slots := 0, locals := 21 } : Room) (va_Pc [.ref (g.2.1 0), .int x1, .int x2] (fun U => mIn g σ U.heap U)) (va_Qi Q (fun σ1 t => mIn g σ1 t.heap t) (mA g)) 0 0 (mA g) := by
  refine gOfI (maxL := 3) (mMv g) (by decide) rfl (Nat.le_of_ble_eq_true rfl) ?_
  intro p e s m args below meth c QQ hx hb hml hown hts hret ls hl hI
  have hl : lv_has ls 3 [(0, .ref (g.2.1 0)), (1, .int x1), (2, .int x2)] := hl
  have hS : va_S (mA g) s.heap s.heap [] := va_S.rf
  have hF : ∀ w ∈ wsX60, w.before args s = true := fun w h => hts w (List.mem_cons_of_mem _ (List.mem_append_right _ h))
  refine lv_aload_n hx hb dX6_fact_0 rfl (lv_at hl 0 rfl) ?_
  refine lv_iconst (v := 0) hx hb dX6_fact_1 (by decide) ?_
  refine mP_X6_thrown hx hb hF hown hI hS (hts _ (List.mem_of_getElem? (i := 1) rfl : (Cond.fieldLink RX6 101 "PlateRoomModel" "thrown" "I" : Cond) ∈ wsX6_fact)) dX6_fact_2 (fun σ1 eσ1 H locs hI hS => ?_)
  have hw := hw σ1 eσ1
  refine lv_aload_n hx hb dX6_fact_5 rfl (lv_at hl 0 rfl) ?_
  refine lv_iconst (v := 0) hx hb dX6_fact_6 (by decide) ?_
  refine mP_X6_status hx hb hF hown hI hS (hts _ (List.mem_of_getElem? (i := 2) rfl : (Cond.fieldLink RX6 105 "PlateRoomModel" "status" "I" : Cond) ∈ wsX6_fact)) dX6_fact_7 (fun σ2 eσ2 H locs hI hS => ?_)
  have hw := hw σ2 eσ2
  refine lv_aload_n hx hb dX6_fact_10 rfl (lv_at hl 0 rfl) ?_
  refine lv_iload_n hx hb dX6_fact_11 rfl (lv_at hl 1 rfl) ?_
  refine gVi (cm_X6_isFact l g (σ := σ2) hw) (mMv g) ⟨hx, hb, hml, hown, hts⟩ (cwV 1 hts gX6_fact_X6_isFact rfl rfl rfl (by decide +kernel) ⟨Nat.le_of_ble_eq_true rfl, Nat.le_of_ble_eq_true rfl⟩) (mRecv_X6 hI) hI hS hl.1 rfl rfl (Nat.le_of_ble_eq_true rfl) dX6_fact_12 (fun r3 σ4 H locs hw hI hS => ?_)
  obtain ⟨hw, hq⟩ := hw
  rw [hq] at hI
  refine lv_if_ne (tgt := 24) hx hb dX6_fact_15 (by decide) (fun hc => ?_) (fun hc => ?_)
  · have hw := hw.1 hc
    refine lv_iload_n hx hb dX6_fact_24 rfl (lv_at hl 2 rfl) ?_
    by_cases q0 : x2 = 0
    · have hw := hw.1 q0
      refine lv_tableIn (tgt := 56) hx hb dX6_fact_25 (by rw [q0]; decide) (by rw [q0]; decide) (by rw [q0]; rfl) (by decide) ?_
      refine lv_aload_n hx hb dX6_fact_56 rfl (lv_at hl 0 rfl) ?_
      refine mG_X6_kind hx hb hF hown hI (hts _ (List.mem_of_getElem? (i := 3) rfl : (Cond.fieldLink RX6 7 "PlateRoomModel" "kind" "[I" : Cond) ∈ wsX6_fact)) dX6_fact_57 ?_
      refine lv_iload_n hx hb dX6_fact_60 rfl (lv_at hl 1 rfl) ?_
      have hin := hw.1
      have hw := hw.2
      refine mR_X6_kind hx hb hI hin dX6_fact_61 ?_
      exact hret _ _ _ _ _ _ dX6_fact_62 hw hI hS
    have hw := hw.2
    by_cases q1 : x2 = 1
    · have hw := hw.1 q1
      refine lv_tableIn (tgt := 63) hx hb dX6_fact_25 (by rw [q1]; decide) (by rw [q1]; decide) (by rw [q1]; rfl) (by decide) ?_
      refine lv_aload_n hx hb dX6_fact_63 rfl (lv_at hl 0 rfl) ?_
      refine mG_X6_told hx hb hF hown hI (hts _ (List.mem_of_getElem? (i := 4) rfl : (Cond.fieldLink RX6 22 "PlateRoomModel" "told" "[I" : Cond) ∈ wsX6_fact)) dX6_fact_64 ?_
      refine lv_iload_n hx hb dX6_fact_67 rfl (lv_at hl 1 rfl) ?_
      have hin := hw.1
      have hw := hw.2
      refine mR_X6_told hx hb hI hin dX6_fact_68 ?_
      exact hret _ _ _ _ _ _ dX6_fact_69 hw hI hS
    have hw := hw.2
    by_cases q2 : x2 = 2
    · have hw := hw.1 q2
      refine lv_tableIn (tgt := 70) hx hb dX6_fact_25 (by rw [q2]; decide) (by rw [q2]; decide) (by rw [q2]; rfl) (by decide) ?_
      refine lv_aload_n hx hb dX6_fact_70 rfl (lv_at hl 0 rfl) ?_
      refine mG_X6_crossed hx hb hF hown hI (hts _ (List.mem_of_getElem? (i := 5) rfl : (Cond.fieldLink RX6 25 "PlateRoomModel" "crossed" "[I" : Cond) ∈ wsX6_fact)) dX6_fact_71 ?_
      refine lv_iload_n hx hb dX6_fact_74 rfl (lv_at hl 1 rfl) ?_
      have hin := hw.1
      have hw := hw.2
      refine mR_X6_crossed hx hb hI hin dX6_fact_75 ?_
      exact hret _ _ _ _ _ _ dX6_fact_76 hw hI hS
    have hw := hw.2
    by_cases q3 : x2 = 3
    · have hw := hw.1 q3
      refine lv_tableIn (tgt := 77) hx hb dX6_fact_25 (by rw [q3]; decide) (by rw [q3]; decide) (by rw [q3]; rfl) (by decide) ?_
      refine lv_aload_n hx hb dX6_fact_77 rfl (lv_at hl 0 rfl) ?_
      refine mG_X6_kind hx hb hF hown hI (hts _ (List.mem_of_getElem? (i := 3) rfl : (Cond.fieldLink RX6 7 "PlateRoomModel" "kind" "[I" : Cond) ∈ wsX6_fact)) dX6_fact_78 ?_
      refine lv_iload_n hx hb dX6_fact_81 rfl (lv_at hl 1 rfl) ?_
      have hin := hw.1
      have hw := hw.2
      refine mR_X6_kind hx hb hI hin dX6_fact_82 ?_
      refine lv_iconst (v := 1) hx hb dX6_fact_83 (by decide) ?_
      refine lv_icmp_ne (tgt := 91) hx hb dX6_fact_84 (by decide) (fun hc => ?_) (fun hc => ?_)
      · have hw := hw.1 hc
        refine lv_iconst (v := 2) hx hb dX6_fact_91 (by decide) ?_
        exact hret _ _ _ _ _ _ dX6_fact_92 hw hI hS
      have hw := hw.2 hc
      refine lv_iconst (v := 1) hx hb dX6_fact_87 (by decide) ?_
      refine lv_goto (tgt := 92) hx hb dX6_fact_88 (by decide) ?_
      exact hret _ _ _ _ _ _ dX6_fact_92 hw hI hS
    have hw := hw.2
    have hw := hw q0 q1 q2 q3
    refine lv_tableOut (tgt := 93) hx hb dX6_fact_25 (gSw4 q0 q1 q2 q3) (by decide) ?_
    refine lv_aload_n hx hb dX6_fact_93 rfl (lv_at hl 0 rfl) ?_
    refine lv_iconst (v := 2) hx hb dX6_fact_94 (by decide) ?_
    refine gVi (cm_X6_refuse l g (σ := σ2) hw) (mMv g) ⟨hx, hb, hml, hown, hts⟩ (cwV 1 hts gX6_fact_X6_refuse rfl rfl rfl (by decide +kernel) ⟨Nat.le_of_ble_eq_true rfl, Nat.le_of_ble_eq_true rfl⟩) (mRecv_X6 hI) hI hS hl.1 rfl rfl (Nat.le_of_ble_eq_true rfl) dX6_fact_95 (fun r5 σ6 H locs hw hI hS => ?_)
    exact hret _ _ _ _ _ _ dX6_fact_98 hw hI hS
  have hw := hw.2 hc
  refine lv_aload_n hx hb dX6_fact_18 rfl (lv_at hl 0 rfl) ?_
  refine lv_iconst (v := 1) hx hb dX6_fact_19 (by decide) ?_
  refine gVi (cm_X6_refuse l g (σ := σ2) hw) (mMv g) ⟨hx, hb, hml, hown, hts⟩ (cwV 1 hts gX6_fact_X6_refuse rfl rfl rfl (by decide +kernel) ⟨Nat.le_of_ble_eq_true rfl, Nat.le_of_ble_eq_true rfl⟩) (mRecv_X6 hI) hI hS hl.1 rfl rfl (Nat.le_of_ble_eq_true rfl) dX6_fact_20 (fun r7 σ8 H locs hw hI hS => ?_)
  exact hret _ _ _ _ _ _ dX6_fact_23 hw hI hS
set_option maxRecDepth 100000 in
set_option maxHeartbeats 4000000 in
theorem cm_X6_placeOf (l : Launch) (g : wG) {σ : wS} {x0 : Int32} {Q : Int32 → Prop} (hw : wm_X6_placeOf Q x0) : Met l yX6_placeOf wsX6_placeOf ({ frames := 0, cells := 0, slots := 0, locals := 0 } : Room) (va_Pc [.int x0] (fun U => mIn g σ U.heap U)) (va_Qi (fun r σ1 => Q r ∧ σ1 = σ) (fun σ1 t => mIn g σ1 t.heap t) (mA g)) 0 0 (mA g) := by
  refine gOfI (maxL := 1) (mMv g) (by decide) rfl (Nat.le_of_ble_eq_true rfl) ?_
  intro p e s m args below meth c QQ hx hb hml hown hts hret ls hl hI
  have hl : lv_has ls 1 [(0, .int x0)] := hl
  have hS : va_S (mA g) s.heap s.heap [] := va_S.rf
  refine lv_iconst (v := 1) hx hb dX6_placeOf_0 (by decide) ?_
  refine lv_iload_n hx hb dX6_placeOf_1 rfl (lv_at hl 0 rfl) ?_
  refine lv_iadd hx hb dX6_placeOf_2 ?_
  exact hret _ _ _ _ _ _ dX6_placeOf_3 ⟨hw, rfl⟩ hI hS
set_option maxRecDepth 100000 in
set_option maxHeartbeats 4000000 in
theorem cm_X6_way (l : Launch) (g : wG) {σ : wS} {x1 : Int32} {x2 : Int32} {x3 : Int64} {Q : wS → Prop} (hw : wm_X6_way Q x1 x2 x3 σ) : Met l yX6_way wsX6_way ({ frames := 0, cells := 0, slots := 0, locals := 0 } : Room) (va_Pc [.ref (g.2.1 0), .int x1, .int x2, .long x3] (fun U => mIn g σ U.heap U)) (va_Qv Q (fun σ1 t => mIn g σ1 t.heap t) (mA g)) 0 0 (mA g) := by
  refine gOfV (maxL := 5) (mMv g) (by decide) rfl (Nat.le_of_ble_eq_true rfl) ?_
  intro p e s m args below meth c QQ hx hb hml hown hts hret ls hl hI
  have hl : lv_has ls 5 [(0, .ref (g.2.1 0)), (1, .int x1), (2, .int x2), (3, .long x3)] := hl
  have hS : va_S (mA g) s.heap s.heap [] := va_S.rf
  have hF : ∀ w ∈ wsX60, w.before args s = true := fun w h => hts w (List.mem_cons_of_mem _ (List.mem_append_right _ h))
  refine lv_aload_n hx hb dX6_way_0 rfl (lv_at hl 0 rfl) ?_
  refine mG_X6_wayFrom hx hb hF hown hI (hts _ (List.mem_of_getElem? (i := 1) rfl : (Cond.fieldLink RX6 28 "PlateRoomModel" "wayFrom" "[I" : Cond) ∈ wsX6_way)) dX6_way_1 ?_
  refine lv_aload_n hx hb dX6_way_4 rfl (lv_at hl 0 rfl) ?_
  refine mG_X6_ways hx hb hF hown hI (hts _ (List.mem_of_getElem? (i := 2) rfl : (Cond.fieldLink RX6 146 "PlateRoomModel" "ways" "I" : Cond) ∈ wsX6_way)) dX6_way_5 ?_
  refine lv_iload_n hx hb dX6_way_8 rfl (lv_at hl 1 rfl) ?_
  have hin := hw.1
  have hw := hw.2
  refine mS_X6_wayFrom hx hb hI hS hin dX6_way_9 (fun σ1 eσ1 H locs hI hS => ?_)
  have hw := hw σ1 eσ1
  refine lv_aload_n hx hb dX6_way_10 rfl (lv_at hl 0 rfl) ?_
  refine mG_X6_wayTo hx hb hF hown hI (hts _ (List.mem_of_getElem? (i := 3) rfl : (Cond.fieldLink RX6 31 "PlateRoomModel" "wayTo" "[I" : Cond) ∈ wsX6_way)) dX6_way_11 ?_
  refine lv_aload_n hx hb dX6_way_14 rfl (lv_at hl 0 rfl) ?_
  refine mG_X6_ways hx hb hF hown hI (hts _ (List.mem_of_getElem? (i := 2) rfl : (Cond.fieldLink RX6 146 "PlateRoomModel" "ways" "I" : Cond) ∈ wsX6_way)) dX6_way_15 ?_
  refine lv_iload_n hx hb dX6_way_18 rfl (lv_at hl 2 rfl) ?_
  have hin := hw.1
  have hw := hw.2
  refine mS_X6_wayTo hx hb hI hS hin dX6_way_19 (fun σ2 eσ2 H locs hI hS => ?_)
  have hw := hw σ2 eσ2
  refine lv_aload_n hx hb dX6_way_20 rfl (lv_at hl 0 rfl) ?_
  refine mG_X6_wayMore hx hb hF hown hI (hts _ (List.mem_of_getElem? (i := 4) rfl : (Cond.fieldLink RX6 34 "PlateRoomModel" "wayMore" "[J" : Cond) ∈ wsX6_way)) dX6_way_21 ?_
  refine lv_aload_n hx hb dX6_way_24 rfl (lv_at hl 0 rfl) ?_
  refine mG_X6_ways hx hb hF hown hI (hts _ (List.mem_of_getElem? (i := 2) rfl : (Cond.fieldLink RX6 146 "PlateRoomModel" "ways" "I" : Cond) ∈ wsX6_way)) dX6_way_25 ?_
  refine lv_lload_n hx hb dX6_way_28 rfl (lv_at hl 3 rfl) ?_
  have hin := hw.1
  have hw := hw.2
  refine mS_X6_wayMore hx hb hI hS hin dX6_way_29 (fun σ3 eσ3 H locs hI hS => ?_)
  have hw := hw σ3 eσ3
  refine lv_aload_n hx hb dX6_way_30 rfl (lv_at hl 0 rfl) ?_
  refine lv_dup hx hb dX6_way_31 rfl ?_
  refine mG_X6_ways hx hb hF hown hI (hts _ (List.mem_of_getElem? (i := 2) rfl : (Cond.fieldLink RX6 146 "PlateRoomModel" "ways" "I" : Cond) ∈ wsX6_way)) dX6_way_32 ?_
  refine lv_iconst (v := 1) hx hb dX6_way_35 (by decide) ?_
  refine lv_iadd hx hb dX6_way_36 ?_
  refine mP_X6_ways hx hb hF hown hI hS (hts _ (List.mem_of_getElem? (i := 2) rfl : (Cond.fieldLink RX6 146 "PlateRoomModel" "ways" "I" : Cond) ∈ wsX6_way)) dX6_way_37 (fun σ4 eσ4 H locs hI hS => ?_)
  have hw := hw σ4 eσ4
  exact hret _ _ _ _ _ dX6_way_40 hw hI hS
set_option maxRecDepth 100000 in
set_option maxHeartbeats 4000000 in
theorem cm_X6_bound (l : Launch) (g : wG) {σ : wS} {x1 : Int32} {Q : wS → Prop} (hw : wm_X6_bound Q x1 σ) : Met l yX6_bound wsX6_bound ({ frames := 1, cells := 0, slots := 0, locals := 24 } : Room) (va_Pc [.ref (g.2.1 0), .int x1] (fun U => mIn g σ U.heap U)) (va_Qv Q (fun σ1 t => mIn g σ1 t.heap t) (mA g)) 0 0 (mA g) := by
  refine gOfV (maxL := 2) (mMv g) (by decide) rfl (Nat.le_of_ble_eq_true rfl) ?_
  intro p e s m args below meth c QQ hx hb hml hown hts hret ls hl hI
  have hl : lv_has ls 2 [(0, .ref (g.2.1 0)), (1, .int x1)] := hl
  have hS : va_S (mA g) s.heap s.heap [] := va_S.rf
  refine lv_aload_n hx hb dX6_bound_0 rfl (lv_at hl 0 rfl) ?_
  refine lv_iconst (v := 0) hx hb dX6_bound_1 (by decide) ?_
  refine lv_iload_n hx hb dX6_bound_2 rfl (lv_at hl 1 rfl) ?_
  refine lv_lconst (v := 0) hx hb dX6_bound_3 (by decide) ?_
  refine gVv (cm_X6_way l g (σ := σ) hw) (mMv g) ⟨hx, hb, hml, hown, hts⟩ (cwV 3 hts gX6_bound_X6_way rfl rfl rfl (by decide +kernel) ⟨Nat.le_of_ble_eq_true rfl, Nat.le_of_ble_eq_true rfl⟩) (mRecv_X6 hI) hI hS hl.1 rfl rfl (Nat.le_of_ble_eq_true rfl) dX6_bound_4 (fun σ1 H locs hw hI hS => ?_)
  refine lv_aload_n hx hb dX6_bound_7 rfl (lv_at hl 0 rfl) ?_
  refine lv_iload_n hx hb dX6_bound_8 rfl (lv_at hl 1 rfl) ?_
  refine lv_iconst (v := 0) hx hb dX6_bound_9 (by decide) ?_
  refine lv_ldc2 (own := RX6) hx hb hown (hts _ (List.mem_of_getElem? (i := 1) rfl : (Cond.constantLong RX6 153 (-100000) : Cond) ∈ wsX6_bound)) dX6_bound_10 ?_
  refine gVv (cm_X6_way l g (σ := σ1) hw) (mMv g) ⟨hx, hb, hml, hown, hts⟩ (cwV 3 hts gX6_bound_X6_way rfl rfl rfl (by decide +kernel) ⟨Nat.le_of_ble_eq_true rfl, Nat.le_of_ble_eq_true rfl⟩) (mRecv_X6 hI) hI hS hl.1 rfl rfl (Nat.le_of_ble_eq_true rfl) dX6_bound_13 (fun σ2 H locs hw hI hS => ?_)
  exact hret _ _ _ _ _ dX6_bound_16 hw hI hS
set_option maxRecDepth 100000 in
set_option maxHeartbeats 4000000 in
theorem cm_X6_begins (l : Launch) (g : wG) {σ : wS} {x0 : Int32} {Q : Int32 → Prop} (hw : wm_X6_begins Q x0) : Met l yX6_begins wsX6_begins ({ frames := 0, cells := 0, slots := 0, locals := 0 } : Room) (va_Pc [.int x0] (fun U => mIn g σ U.heap U)) (va_Qi (fun r σ1 => Q r ∧ σ1 = σ) (fun σ1 t => mIn g σ1 t.heap t) (mA g)) 0 0 (mA g) := by
  refine gOfI (maxL := 1) (mMv g) (by decide) rfl (Nat.le_of_ble_eq_true rfl) ?_
  intro p e s m args below meth c QQ hx hb hml hown hts hret ls hl hI
  have hl : lv_has ls 1 [(0, .int x0)] := hl
  have hS : va_S (mA g) s.heap s.heap [] := va_S.rf
  refine lv_bipush (v := 21) hx hb dX6_begins_0 (by decide) ?_
  refine lv_iconst (v := 2) hx hb dX6_begins_2 (by decide) ?_
  refine lv_iload_n hx hb dX6_begins_3 rfl (lv_at hl 0 rfl) ?_
  refine lv_imul hx hb dX6_begins_4 ?_
  refine lv_iadd hx hb dX6_begins_5 ?_
  exact hret _ _ _ _ _ _ dX6_begins_6 ⟨hw, rfl⟩ hI hS
set_option maxRecDepth 100000 in
set_option maxHeartbeats 4000000 in
theorem cm_X6_endsAt (l : Launch) (g : wG) {σ : wS} {x0 : Int32} {Q : Int32 → Prop} (hw : wm_X6_endsAt Q x0) : Met l yX6_endsAt wsX6_endsAt ({ frames := 0, cells := 0, slots := 0, locals := 0 } : Room) (va_Pc [.int x0] (fun U => mIn g σ U.heap U)) (va_Qi (fun r σ1 => Q r ∧ σ1 = σ) (fun σ1 t => mIn g σ1 t.heap t) (mA g)) 0 0 (mA g) := by
  refine gOfI (maxL := 1) (mMv g) (by decide) rfl (Nat.le_of_ble_eq_true rfl) ?_
  intro p e s m args below meth c QQ hx hb hml hown hts hret ls hl hI
  have hl : lv_has ls 1 [(0, .int x0)] := hl
  have hS : va_S (mA g) s.heap s.heap [] := va_S.rf
  refine lv_bipush (v := 22) hx hb dX6_endsAt_0 (by decide) ?_
  refine lv_iconst (v := 2) hx hb dX6_endsAt_2 (by decide) ?_
  refine lv_iload_n hx hb dX6_endsAt_3 rfl (lv_at hl 0 rfl) ?_
  refine lv_imul hx hb dX6_endsAt_4 ?_
  refine lv_iadd hx hb dX6_endsAt_5 ?_
  exact hret _ _ _ _ _ _ dX6_endsAt_6 ⟨hw, rfl⟩ hI hS
set_option maxRecDepth 100000 in
set_option maxHeartbeats 4000000 in
theorem cm_X6_isKnown (l : Launch) (g : wG) {σ : wS} {x1 : Int32} {x2 : Int32} {Q : Int32 → Prop} (hw : wm_X6_isKnown Q x1 x2 σ) : Met l yX6_isKnown wsX6_isKnown ({ frames := 0, cells := 0, slots := 0, locals := 0 } : Room) (va_Pc [.ref (g.2.1 0), .int x1, .int x2] (fun U => mIn g σ U.heap U)) (va_Qi (fun r σ1 => Q r ∧ σ1 = σ) (fun σ1 t => mIn g σ1 t.heap t) (mA g)) 0 0 (mA g) := by
  refine gOfZ (maxL := 3) (mMv g) (by decide) rfl (Nat.le_of_ble_eq_true rfl) ?_
  intro p e s m args below meth c QQ hx hb hml hown hts hret ls hl hI
  have hl : lv_has ls 3 [(0, .ref (g.2.1 0)), (1, .int x1), (2, .int x2)] := hl
  have hS : va_S (mA g) s.heap s.heap [] := va_S.rf
  have hF : ∀ w ∈ wsX60, w.before args s = true := fun w h => hts w (List.mem_cons_of_mem _ (List.mem_append_right _ h))
  refine lv_aload_n hx hb dX6_isKnown_0 rfl (lv_at hl 0 rfl) ?_
  refine mG_X6_told hx hb hF hown hI (hts _ (List.mem_of_getElem? (i := 1) rfl : (Cond.fieldLink RX6 22 "PlateRoomModel" "told" "[I" : Cond) ∈ wsX6_isKnown)) dX6_isKnown_1 ?_
  refine lv_iload_n hx hb dX6_isKnown_4 rfl (lv_at hl 1 rfl) ?_
  have hin := hw.1
  have hw := hw.2
  refine mR_X6_told hx hb hI hin dX6_isKnown_5 ?_
  refine lv_iload_n hx hb dX6_isKnown_6 rfl (lv_at hl 2 rfl) ?_
  refine lv_icmp_gt (tgt := 33) hx hb dX6_isKnown_7 (by decide) (fun hc => ?_) (fun hc => ?_)
  · have hw := hw.1 hc
    refine lv_iconst (v := 0) hx hb dX6_isKnown_33 (by decide) ?_
    exact hret _ _ _ _ _ _ dX6_isKnown_34 isB0 ⟨hw, rfl⟩ hI hS
  have hw := hw.2 hc
  refine lv_aload_n hx hb dX6_isKnown_10 rfl (lv_at hl 0 rfl) ?_
  refine mG_X6_crossed hx hb hF hown hI (hts _ (List.mem_of_getElem? (i := 2) rfl : (Cond.fieldLink RX6 25 "PlateRoomModel" "crossed" "[I" : Cond) ∈ wsX6_isKnown)) dX6_isKnown_11 ?_
  refine lv_iload_n hx hb dX6_isKnown_14 rfl (lv_at hl 1 rfl) ?_
  have hin := hw.1
  have hw := hw.2
  refine mR_X6_crossed hx hb hI hin dX6_isKnown_15 ?_
  refine lv_if_lt (tgt := 29) hx hb dX6_isKnown_16 (by decide) (fun hc => ?_) (fun hc => ?_)
  · have hw := hw.1 hc
    refine lv_iconst (v := 1) hx hb dX6_isKnown_29 (by decide) ?_
    refine lv_goto (tgt := 34) hx hb dX6_isKnown_30 (by decide) ?_
    exact hret _ _ _ _ _ _ dX6_isKnown_34 isB1 ⟨hw, rfl⟩ hI hS
  have hw := hw.2 hc
  refine lv_aload_n hx hb dX6_isKnown_19 rfl (lv_at hl 0 rfl) ?_
  refine mG_X6_crossed hx hb hF hown hI (hts _ (List.mem_of_getElem? (i := 2) rfl : (Cond.fieldLink RX6 25 "PlateRoomModel" "crossed" "[I" : Cond) ∈ wsX6_isKnown)) dX6_isKnown_20 ?_
  refine lv_iload_n hx hb dX6_isKnown_23 rfl (lv_at hl 1 rfl) ?_
  have hin := hw.1
  have hw := hw.2
  refine mR_X6_crossed hx hb hI hin dX6_isKnown_24 ?_
  refine lv_iload_n hx hb dX6_isKnown_25 rfl (lv_at hl 2 rfl) ?_
  refine lv_icmp_le (tgt := 33) hx hb dX6_isKnown_26 (by decide) (fun hc => ?_) (fun hc => ?_)
  · have hw := hw.1 hc
    refine lv_iconst (v := 0) hx hb dX6_isKnown_33 (by decide) ?_
    exact hret _ _ _ _ _ _ dX6_isKnown_34 isB0 ⟨hw, rfl⟩ hI hS
  have hw := hw.2 hc
  refine lv_iconst (v := 1) hx hb dX6_isKnown_29 (by decide) ?_
  refine lv_goto (tgt := 34) hx hb dX6_isKnown_30 (by decide) ?_
  exact hret _ _ _ _ _ _ dX6_isKnown_34 isB1 ⟨hw, rfl⟩ hI hS
set_option maxRecDepth 100000 in
set_option maxHeartbeats 4000000 in
theorem cm_X6_within (l : Launch) (g : wG) {σ : wS} {x1 : Int32} {x2 : Int32} {x3 : Int32} {Q : wS → Prop} (hw : wm_X6_within Q x1 x2 x3 σ) : Met l yX6_within wsX6_within ({ frames := 1, cells := 0, slots := 0, locals := 24 } : Room) (va_Pc [.ref (g.2.1 0), .int x1, .int x2, .int x3] (fun U => mIn g σ U.heap U)) (va_Qv Q (fun σ1 t => mIn g σ1 t.heap t) (mA g)) 0 0 (mA g) := by
  refine gOfV (maxL := 4) (mMv g) (by decide) rfl (Nat.le_of_ble_eq_true rfl) ?_
  intro p e s m args below meth c QQ hx hb hml hown hts hret ls hl hI
  have hl : lv_has ls 4 [(0, .ref (g.2.1 0)), (1, .int x1), (2, .int x2), (3, .int x3)] := hl
  have hS : va_S (mA g) s.heap s.heap [] := va_S.rf
  refine lv_aload_n hx hb dX6_within_0 rfl (lv_at hl 0 rfl) ?_
  refine lv_iconst (v := 0) hx hb dX6_within_1 (by decide) ?_
  refine lv_iload_n hx hb dX6_within_2 rfl (lv_at hl 1 rfl) ?_
  refine lv_iload_n hx hb dX6_within_3 rfl (lv_at hl 2 rfl) ?_
  refine lv_i2l hx hb dX6_within_4 rfl ?_
  refine gVv (cm_X6_way l g (σ := σ) hw) (mMv g) ⟨hx, hb, hml, hown, hts⟩ (cwV 3 hts gX6_within_X6_way rfl rfl rfl (by decide +kernel) ⟨Nat.le_of_ble_eq_true rfl, Nat.le_of_ble_eq_true rfl⟩) (mRecv_X6 hI) hI hS hl.1 rfl rfl (Nat.le_of_ble_eq_true rfl) dX6_within_5 (fun σ1 H locs hw hI hS => ?_)
  refine lv_aload_n hx hb dX6_within_8 rfl (lv_at hl 0 rfl) ?_
  refine lv_iload_n hx hb dX6_within_9 rfl (lv_at hl 1 rfl) ?_
  refine lv_iconst (v := 0) hx hb dX6_within_10 (by decide) ?_
  refine lv_iload_n hx hb dX6_within_11 rfl (lv_at hl 3 rfl) ?_
  refine lv_ineg hx hb dX6_within_12 ?_
  refine lv_i2l hx hb dX6_within_13 rfl ?_
  refine gVv (cm_X6_way l g (σ := σ1) hw) (mMv g) ⟨hx, hb, hml, hown, hts⟩ (cwV 3 hts gX6_within_X6_way rfl rfl rfl (by decide +kernel) ⟨Nat.le_of_ble_eq_true rfl, Nat.le_of_ble_eq_true rfl⟩) (mRecv_X6 hI) hI hS hl.1 rfl rfl (Nat.le_of_ble_eq_true rfl) dX6_within_14 (fun σ2 H locs hw hI hS => ?_)
  exact hret _ _ _ _ _ dX6_within_17 hw hI hS
