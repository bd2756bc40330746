set_option maxRecDepth 100000 in
set_option maxHeartbeats 4000000 in
theorem cm_X6_death (l : Launch) (g : wG) {σ : wS} {x1 : Int32} {x2 : Int32} {x3 : Int32} {Q : Int32 → wS → Prop} (hw : wm_X6_death Q x1 x2 x3 σ) : Met l yX6_death wsX6_death ({ frames := 1, cells := 0, slots := 0, locals := 21 } : Room) (va_Pc [.ref (g.2.1 0), .int x1, .int x2, .int x3] (fun U => mIn g σ U.heap U)) (va_Qi Q (fun σ1 t => mIn g σ1 t.heap t) (mA g)) 0 0 (mA g) := by
  refine gOfZ (maxL := 4) (mMv g) (by decide) rfl (Nat.le_of_ble_eq_true rfl) ?_
  intro p e s m args below meth c QQ hx hb hml hown hts hret ls hl hI
  have hl : lv_has ls 4 [(0, .ref (g.2.1 0)), (1, .int x1), (2, .int x2), (3, .int x3)] := hl
  have hS : va_S (mA g) s.heap s.heap [] := va_S.rf
  have hF : ∀ w ∈ wsX60, w.before args s = true := fun w h => hts w (List.mem_cons_of_mem _ (List.mem_append_right _ h))
  refine lv_aload_n hx hb dX6_death_0 rfl (lv_at hl 0 rfl) ?_
  refine lv_iconst (v := 0) hx hb dX6_death_1 (by decide) ?_
  refine mP_X6_thrown hx hb hF hown hI hS (hts _ (List.mem_of_getElem? (i := 1) rfl : (Cond.fieldLink RX6 101 "PlateRoomModel" "thrown" "I" : Cond) ∈ wsX6_death)) dX6_death_2 (fun σ1 eσ1 H locs hI hS => ?_)
  have hw := hw σ1 eσ1
  refine lv_aload_n hx hb dX6_death_5 rfl (lv_at hl 0 rfl) ?_
  refine lv_iconst (v := 0) hx hb dX6_death_6 (by decide) ?_
  refine mP_X6_status hx hb hF hown hI hS (hts _ (List.mem_of_getElem? (i := 2) rfl : (Cond.fieldLink RX6 105 "PlateRoomModel" "status" "I" : Cond) ∈ wsX6_death)) dX6_death_7 (fun σ2 eσ2 H locs hI hS => ?_)
  have hw := hw σ2 eσ2
  refine lv_aload_n hx hb dX6_death_10 rfl (lv_at hl 0 rfl) ?_
  refine lv_iload_n hx hb dX6_death_11 rfl (lv_at hl 1 rfl) ?_
  refine gVi (cm_X6_isPlate l g (σ := σ2) hw) (mMv g) ⟨hx, hb, hml, hown, hts⟩ (cwV 1 hts gX6_death_X6_isPlate rfl rfl rfl (by decide +kernel) ⟨Nat.le_of_ble_eq_true rfl, Nat.le_of_ble_eq_true rfl⟩) (mRecv_X6 hI) hI hS hl.1 rfl rfl (Nat.le_of_ble_eq_true rfl) dX6_death_12 (fun r3 σ4 H locs hw hI hS => ?_)
  obtain ⟨hw, hq⟩ := hw
  rw [hq] at hI
  refine lv_if_ne (tgt := 24) hx hb dX6_death_15 (by decide) (fun hc => ?_) (fun hc => ?_)
  · have hw := hw.1 hc
    refine lv_iload_n hx hb dX6_death_24 rfl (lv_at hl 2 rfl) ?_
    refine lv_if_lt (tgt := 41) hx hb dX6_death_25 (by decide) (fun hc => ?_) (fun hc => ?_)
    · have hw := hw.1 hc
      refine lv_aload_n hx hb dX6_death_41 rfl (lv_at hl 0 rfl) ?_
      refine lv_iconst (v := 2) hx hb dX6_death_42 (by decide) ?_
      refine gVi (cm_X6_no l g (σ := σ2) hw) (mMv g) ⟨hx, hb, hml, hown, hts⟩ (cwV 1 hts gX6_death_X6_no rfl rfl rfl (by decide +kernel) ⟨Nat.le_of_ble_eq_true rfl, Nat.le_of_ble_eq_true rfl⟩) (mRecv_X6 hI) hI hS hl.1 rfl rfl (Nat.le_of_ble_eq_true rfl) dX6_death_43 (fun r5 σ6 H locs hw hI hS => ?_)
      exact hret _ _ _ _ _ _ dX6_death_46 hw.1 hw.2 hI hS
    have hw := hw.2 hc
    refine lv_iload_n hx hb dX6_death_28 rfl (lv_at hl 2 rfl) ?_
    refine lv_ldc (own := RX6) hx hb hown (hts _ (List.mem_of_getElem? (i := 3) rfl : (Cond.constant RX6 114 (100000) : Cond) ∈ wsX6_death)) dX6_death_29 ?_
    refine lv_icmp_gt (tgt := 41) hx hb dX6_death_31 (by decide) (fun hc => ?_) (fun hc => ?_)
    · have hw := hw.1 hc
      refine lv_aload_n hx hb dX6_death_41 rfl (lv_at hl 0 rfl) ?_
      refine lv_iconst (v := 2) hx hb dX6_death_42 (by decide) ?_
      refine gVi (cm_X6_no l g (σ := σ2) hw) (mMv g) ⟨hx, hb, hml, hown, hts⟩ (cwV 1 hts gX6_death_X6_no rfl rfl rfl (by decide +kernel) ⟨Nat.le_of_ble_eq_true rfl, Nat.le_of_ble_eq_true rfl⟩) (mRecv_X6 hI) hI hS hl.1 rfl rfl (Nat.le_of_ble_eq_true rfl) dX6_death_43 (fun r7 σ8 H locs hw hI hS => ?_)
      exact hret _ _ _ _ _ _ dX6_death_46 hw.1 hw.2 hI hS
    have hw := hw.2 hc
    refine lv_iload_n hx hb dX6_death_34 rfl (lv_at hl 3 rfl) ?_
    refine gSi (cm_X6_isDay l g (σ := σ2) hw) (mMv g) ⟨hx, hb, hml, hown, hts⟩ (va_cwS 1 hts gX6_death_X6_isDay rfl rfl rfl (by decide +kernel) ⟨Nat.le_of_ble_eq_true rfl, Nat.le_of_ble_eq_true rfl⟩) hI hS hl.1 rfl rfl (Nat.le_of_ble_eq_true rfl) dX6_death_35 (fun r9 σ10 H locs hw hI hS => ?_)
    obtain ⟨hw, hq⟩ := hw
    rw [hq] at hI
    refine lv_if_ne (tgt := 47) hx hb dX6_death_38 (by decide) (fun hc => ?_) (fun hc => ?_)
    · have hw := hw.1 hc
      refine lv_aload_n hx hb dX6_death_47 rfl (lv_at hl 0 rfl) ?_
      refine mG_X6_deaths hx hb hF hown hI (hts _ (List.mem_of_getElem? (i := 4) rfl : (Cond.fieldLink RX6 255 "PlateRoomModel" "deaths" "I" : Cond) ∈ wsX6_death)) dX6_death_48 ?_
      refine lv_bipush (v := 60) hx hb dX6_death_51 (by decide) ?_
      refine lv_icmp_ne (tgt := 62) hx hb dX6_death_53 (by decide) (fun hc => ?_) (fun hc => ?_)
      · have hw := hw.1 hc
        refine lv_aload_n hx hb dX6_death_62 rfl (lv_at hl 0 rfl) ?_
        refine mG_X6_deathOf hx hb hF hown hI (hts _ (List.mem_of_getElem? (i := 5) rfl : (Cond.fieldLink RX6 92 "PlateRoomModel" "deathOf" "[I" : Cond) ∈ wsX6_death)) dX6_death_63 ?_
        refine lv_aload_n hx hb dX6_death_66 rfl (lv_at hl 0 rfl) ?_
        refine mG_X6_deaths hx hb hF hown hI (hts _ (List.mem_of_getElem? (i := 4) rfl : (Cond.fieldLink RX6 255 "PlateRoomModel" "deaths" "I" : Cond) ∈ wsX6_death)) dX6_death_67 ?_
        refine lv_iload_n hx hb dX6_death_70 rfl (lv_at hl 1 rfl) ?_
        have hin := hw.1
        have hw := hw.2
        refine mS_X6_deathOf hx hb hI hS hin dX6_death_71 (fun σ11 eσ11 H locs hI hS => ?_)
        have hw := hw σ11 eσ11
        refine lv_aload_n hx hb dX6_death_72 rfl (lv_at hl 0 rfl) ?_
        refine mG_X6_deathDay hx hb hF hown hI (hts _ (List.mem_of_getElem? (i := 6) rfl : (Cond.fieldLink RX6 95 "PlateRoomModel" "deathDay" "[I" : Cond) ∈ wsX6_death)) dX6_death_73 ?_
        refine lv_aload_n hx hb dX6_death_76 rfl (lv_at hl 0 rfl) ?_
        refine mG_X6_deaths hx hb hF hown hI (hts _ (List.mem_of_getElem? (i := 4) rfl : (Cond.fieldLink RX6 255 "PlateRoomModel" "deaths" "I" : Cond) ∈ wsX6_death)) dX6_death_77 ?_
        refine lv_iload_n hx hb dX6_death_80 rfl (lv_at hl 2 rfl) ?_
        have hin := hw.1
        have hw := hw.2
        refine mS_X6_deathDay hx hb hI hS hin dX6_death_81 (fun σ12 eσ12 H locs hI hS => ?_)
        have hw := hw σ12 eσ12
        refine lv_aload_n hx hb dX6_death_82 rfl (lv_at hl 0 rfl) ?_
        refine mG_X6_deathTold hx hb hF hown hI (hts _ (List.mem_of_getElem? (i := 7) rfl : (Cond.fieldLink RX6 98 "PlateRoomModel" "deathTold" "[I" : Cond) ∈ wsX6_death)) dX6_death_83 ?_
        refine lv_aload_n hx hb dX6_death_86 rfl (lv_at hl 0 rfl) ?_
        refine mG_X6_deaths hx hb hF hown hI (hts _ (List.mem_of_getElem? (i := 4) rfl : (Cond.fieldLink RX6 255 "PlateRoomModel" "deaths" "I" : Cond) ∈ wsX6_death)) dX6_death_87 ?_
        refine lv_iload_n hx hb dX6_death_90 rfl (lv_at hl 3 rfl) ?_
        have hin := hw.1
        have hw := hw.2
        refine mS_X6_deathTold hx hb hI hS hin dX6_death_91 (fun σ13 eσ13 H locs hI hS => ?_)
        have hw := hw σ13 eσ13
        refine lv_aload_n hx hb dX6_death_92 rfl (lv_at hl 0 rfl) ?_
        refine lv_dup hx hb dX6_death_93 rfl ?_
        refine mG_X6_deaths hx hb hF hown hI (hts _ (List.mem_of_getElem? (i := 4) rfl : (Cond.fieldLink RX6 255 "PlateRoomModel" "deaths" "I" : Cond) ∈ wsX6_death)) dX6_death_94 ?_
        refine lv_iconst (v := 1) hx hb dX6_death_97 (by decide) ?_
        refine lv_iadd hx hb dX6_death_98 ?_
        refine mP_X6_deaths hx hb hF hown hI hS (hts _ (List.mem_of_getElem? (i := 4) rfl : (Cond.fieldLink RX6 255 "PlateRoomModel" "deaths" "I" : Cond) ∈ wsX6_death)) dX6_death_99 (fun σ14 eσ14 H locs hI hS => ?_)
        have hw := hw σ14 eσ14
        refine lv_iconst (v := 1) hx hb dX6_death_102 (by decide) ?_
        exact hret _ _ _ _ _ _ dX6_death_103 isB1 hw hI hS
      have hw := hw.2 hc
      refine lv_aload_n hx hb dX6_death_56 rfl (lv_at hl 0 rfl) ?_
      refine lv_iconst (v := 3) hx hb dX6_death_57 (by decide) ?_
      refine gVi (cm_X6_no l g (σ := σ2) hw) (mMv g) ⟨hx, hb, hml, hown, hts⟩ (cwV 1 hts gX6_death_X6_no rfl rfl rfl (by decide +kernel) ⟨Nat.le_of_ble_eq_true rfl, Nat.le_of_ble_eq_true rfl⟩) (mRecv_X6 hI) hI hS hl.1 rfl rfl (Nat.le_of_ble_eq_true rfl) dX6_death_58 (fun r15 σ16 H locs hw hI hS => ?_)
      exact hret _ _ _ _ _ _ dX6_death_61 hw.1 hw.2 hI hS
    have hw := hw.2 hc
    refine lv_aload_n hx hb dX6_death_41 rfl (lv_at hl 0 rfl) ?_
    refine lv_iconst (v := 2) hx hb dX6_death_42 (by decide) ?_
    refine gVi (cm_X6_no l g (σ := σ2) hw) (mMv g) ⟨hx, hb, hml, hown, hts⟩ (cwV 1 hts gX6_death_X6_no rfl rfl rfl (by decide +kernel) ⟨Nat.le_of_ble_eq_true rfl, Nat.le_of_ble_eq_true rfl⟩) (mRecv_X6 hI) hI hS hl.1 rfl rfl (Nat.le_of_ble_eq_true rfl) dX6_death_43 (fun r17 σ18 H locs hw hI hS => ?_)
    exact hret _ _ _ _ _ _ dX6_death_46 hw.1 hw.2 hI hS
  have hw := hw.2 hc
  refine lv_aload_n hx hb dX6_death_18 rfl (lv_at hl 0 rfl) ?_
  refine lv_iconst (v := 1) hx hb dX6_death_19 (by decide) ?_
  refine gVi (cm_X6_no l g (σ := σ2) hw) (mMv g) ⟨hx, hb, hml, hown, hts⟩ (cwV 1 hts gX6_death_X6_no rfl rfl rfl (by decide +kernel) ⟨Nat.le_of_ble_eq_true rfl, Nat.le_of_ble_eq_true rfl⟩) (mRecv_X6 hI) hI hS hl.1 rfl rfl (Nat.le_of_ble_eq_true rfl) dX6_death_20 (fun r19 σ20 H locs hw hI hS => ?_)
  exact hret _ _ _ _ _ _ dX6_death_23 hw.1 hw.2 hI hS
set_option maxRecDepth 100000 in
set_option maxHeartbeats 4000000 in
theorem cm_X6_free (l : Launch) (g : wG) {σ : wS} {x1 : Int32} {x2 : Int32} {x3 : Int32} {Q : Int32 → wS → Prop} (hw : wm_X6_free Q x1 x2 x3 σ) : Met l yX6_free wsX6_free ({ frames := 1, cells := 0, slots := 0, locals := 21 } : Room) (va_Pc [.ref (g.2.1 0), .int x1, .int x2, .int x3] (fun U => mIn g σ U.heap U)) (va_Qi Q (fun σ1 t => mIn g σ1 t.heap t) (mA g)) 0 0 (mA g) := by
  refine gOfI (maxL := 7) (mMv g) (by decide) rfl (Nat.le_of_ble_eq_true rfl) ?_
  intro p e s m args below meth c QQ hx hb hml hown hts hret ls hl hI
  have hl : lv_has ls 7 [(0, .ref (g.2.1 0)), (1, .int x1), (2, .int x2), (3, .int x3)] := hl
  have hS : va_S (mA g) s.heap s.heap [] := va_S.rf
  have hF : ∀ w ∈ wsX60, w.before args s = true := fun w h => hts w (List.mem_cons_of_mem _ (List.mem_append_right _ h))
  refine lv_aload_n hx hb dX6_free_0 rfl (lv_at hl 0 rfl) ?_
  refine lv_iconst (v := 0) hx hb dX6_free_1 (by decide) ?_
  refine mP_X6_thrown hx hb hF hown hI hS (hts _ (List.mem_of_getElem? (i := 1) rfl : (Cond.fieldLink RX6 101 "PlateRoomModel" "thrown" "I" : Cond) ∈ wsX6_free)) dX6_free_2 (fun σ1 eσ1 H locs hI hS => ?_)
  have hw := hw σ1 eσ1
  refine lv_aload_n hx hb dX6_free_5 rfl (lv_at hl 0 rfl) ?_
  refine lv_iconst (v := 0) hx hb dX6_free_6 (by decide) ?_
  refine mP_X6_status hx hb hF hown hI hS (hts _ (List.mem_of_getElem? (i := 2) rfl : (Cond.fieldLink RX6 105 "PlateRoomModel" "status" "I" : Cond) ∈ wsX6_free)) dX6_free_7 (fun σ2 eσ2 H locs hI hS => ?_)
  have hw := hw σ2 eσ2
  refine lv_aload_n hx hb dX6_free_10 rfl (lv_at hl 0 rfl) ?_
  refine lv_iload_n hx hb dX6_free_11 rfl (lv_at hl 1 rfl) ?_
  refine gVi (cm_X6_isPlate l g (σ := σ2) hw) (mMv g) ⟨hx, hb, hml, hown, hts⟩ (cwV 1 hts gX6_free_X6_isPlate rfl rfl rfl (by decide +kernel) ⟨Nat.le_of_ble_eq_true rfl, Nat.le_of_ble_eq_true rfl⟩) (mRecv_X6 hI) hI hS hl.1 rfl rfl (Nat.le_of_ble_eq_true rfl) dX6_free_12 (fun r3 σ4 H locs hw hI hS => ?_)
  obtain ⟨hw, hq⟩ := hw
  rw [hq] at hI
  refine lv_if_ne (tgt := 24) hx hb dX6_free_15 (by decide) (fun hc => ?_) (fun hc => ?_)
  · have hw := hw.1 hc
    refine lv_iload_n hx hb dX6_free_24 rfl (lv_at hl 2 rfl) ?_
    refine lv_if_lt (tgt := 42) hx hb dX6_free_25 (by decide) (fun hc => ?_) (fun hc => ?_)
    · have hw := hw.1 hc
      refine lv_aload_n hx hb dX6_free_42 rfl (lv_at hl 0 rfl) ?_
      refine lv_iconst (v := 2) hx hb dX6_free_43 (by decide) ?_
      refine gVi (cm_X6_refuse l g (σ := σ2) hw) (mMv g) ⟨hx, hb, hml, hown, hts⟩ (cwV 1 hts gX6_free_X6_refuse rfl rfl rfl (by decide +kernel) ⟨Nat.le_of_ble_eq_true rfl, Nat.le_of_ble_eq_true rfl⟩) (mRecv_X6 hI) hI hS hl.1 rfl rfl (Nat.le_of_ble_eq_true rfl) dX6_free_44 (fun r5 σ6 H locs hw hI hS => ?_)
      exact hret _ _ _ _ _ _ dX6_free_47 hw hI hS
    have hw := hw.2 hc
    refine lv_iload_n hx hb dX6_free_28 rfl (lv_at hl 2 rfl) ?_
    refine lv_ldcw (own := RX6) hx hb hown (hts _ (List.mem_of_getElem? (i := 3) rfl : (Cond.constant RX6 258 (200000) : Cond) ∈ wsX6_free)) dX6_free_29 ?_
    refine lv_icmp_gt (tgt := 42) hx hb dX6_free_32 (by decide) (fun hc => ?_) (fun hc => ?_)
    · have hw := hw.1 hc
      refine lv_aload_n hx hb dX6_free_42 rfl (lv_at hl 0 rfl) ?_
      refine lv_iconst (v := 2) hx hb dX6_free_43 (by decide) ?_
      refine gVi (cm_X6_refuse l g (σ := σ2) hw) (mMv g) ⟨hx, hb, hml, hown, hts⟩ (cwV 1 hts gX6_free_X6_refuse rfl rfl rfl (by decide +kernel) ⟨Nat.le_of_ble_eq_true rfl, Nat.le_of_ble_eq_true rfl⟩) (mRecv_X6 hI) hI hS hl.1 rfl rfl (Nat.le_of_ble_eq_true rfl) dX6_free_44 (fun r7 σ8 H locs hw hI hS => ?_)
      exact hret _ _ _ _ _ _ dX6_free_47 hw hI hS
    have hw := hw.2 hc
    refine lv_iload_n hx hb dX6_free_35 rfl (lv_at hl 3 rfl) ?_
    refine gSi (cm_X6_isDay l g (σ := σ2) hw) (mMv g) ⟨hx, hb, hml, hown, hts⟩ (va_cwS 1 hts gX6_free_X6_isDay rfl rfl rfl (by decide +kernel) ⟨Nat.le_of_ble_eq_true rfl, Nat.le_of_ble_eq_true rfl⟩) hI hS hl.1 rfl rfl (Nat.le_of_ble_eq_true rfl) dX6_free_36 (fun r9 σ10 H locs hw hI hS => ?_)
    obtain ⟨hw, hq⟩ := hw
    rw [hq] at hI
    refine lv_if_ne (tgt := 48) hx hb dX6_free_39 (by decide) (fun hc => ?_) (fun hc => ?_)
    · have hw := hw.1 hc
      refine lv_iconst (v := (-1)) hx hb dX6_free_48 (by decide) ?_
      refine lv_topi (fun a11 ea11 => ?_)
      have hw := hw a11 ea11
      refine lv_istore (lv' := [(4, .int a11), (0, .ref (g.2.1 0)), (1, .int x1), (2, .int x2), (3, .int x3)]) hx hb dX6_free_49 hl (by decide) rfl (fun ls hl => ?_)
      refine lv_iconst (v := 0) hx hb dX6_free_51 (by decide) ?_
      refine lv_istore (lv' := [(5, .int 0), (4, .int a11), (0, .ref (g.2.1 0)), (1, .int x1), (2, .int x2), (3, .int x3)]) hx hb dX6_free_52 hl (by decide) rfl (fun ls hl => ?_)
      obtain ⟨n54, hw⟩ := hw
      have key54 : ∀ (n : Nat) (x1 : Int32) (x2 : Int32) (x3 : Int32) (x4 : Int32) (x5 : Int32) (σ : wS) (H : Heap) (locs : List Loc) (ls : Array Slot), mIn g σ H s → va_S (mA g) s.heap H locs → lv_has ls 7 [(0, .ref (g.2.1 0)), (1, .int x1), (2, .int x2), (3, .int x3), (4, .int x4), (5, .int x5)] → wloop (wm_X6_free_L54 Q x1 x2 x3 σ) n (x4, x5) → W p l e ({ frames := 1, cells := 0, slots := 0, locals := 21 } : Room) s m args below meth c H locs 0 0 QQ (F0 m 54 ls []) := by
        intro n
        induction n with
        | zero => intro x1 x2 x3 x4 x5 σ H locs ls hI hS hl hw; exact False.elim hw
        | succ n ih =>
          intro x1 x2 x3 x4 x5 σ H locs ls hI hS hl hw
          obtain ⟨K54, hK54⟩ : ∃ K, K = wloop (wm_X6_free_L54 Q x1 x2 x3 σ) n := ⟨_, rfl⟩
          have hw : wm_X6_free_L54 Q x1 x2 x3 σ K54 (x4, x5) := by rw [hK54]; exact hw
          dsimp only [wm_X6_free_L54] at hw
          have ih54 := ih
          refine lv_iload hx hb dX6_free_54 (lv_at hl 5 rfl) ?_
          refine lv_aload_n hx hb dX6_free_56 rfl (lv_at hl 0 rfl) ?_
          refine mG_X6_laws hx hb hF hown hI (hts _ (List.mem_of_getElem? (i := 4) rfl : (Cond.fieldLink RX6 252 "PlateRoomModel" "laws" "I" : Cond) ∈ wsX6_free)) dX6_free_57 ?_
          refine lv_icmp_ge (tgt := 106) hx hb dX6_free_60 (by decide) (fun hc => ?_) (fun hc => ?_)
          · have hw := hw.1 hc
            refine lv_iconst (v := (-1)) hx hb dX6_free_106 (by decide) ?_
            refine lv_topi (fun a1 ea1 => ?_)
            have hw := hw a1 ea1
            refine lv_istore (lv' := [(5, .int a1), (0, .ref (g.2.1 0)), (1, .int x1), (2, .int x2), (3, .int x3), (4, .int x4)]) hx hb dX6_free_107 hl (by decide) rfl (fun ls hl => ?_)
            refine lv_iconst (v := 0) hx hb dX6_free_109 (by decide) ?_
            refine lv_istore (lv' := [(6, .int 0), (5, .int a1), (0, .ref (g.2.1 0)), (1, .int x1), (2, .int x2), (3, .int x3), (4, .int x4)]) hx hb dX6_free_110 hl (by decide) rfl (fun ls hl => ?_)
            obtain ⟨n112, hw⟩ := hw
            have key112 : ∀ (n : Nat) (x1 : Int32) (x2 : Int32) (x3 : Int32) (x4 : Int32) (x5 : Int32) (x6 : Int32) (σ : wS) (H : Heap) (locs : List Loc) (ls : Array Slot), mIn g σ H s → va_S (mA g) s.heap H locs → lv_has ls 7 [(0, .ref (g.2.1 0)), (1, .int x1), (2, .int x2), (3, .int x3), (4, .int x4), (5, .int x5), (6, .int x6)] → wloop (wm_X6_free_L112 Q x1 x2 x3 x4 σ) n (x5, x6) → W p l e ({ frames := 1, cells := 0, slots := 0, locals := 21 } : Room) s m args below meth c H locs 0 0 QQ (F0 m 112 ls []) := by
              intro n
              induction n with
              | zero => intro x1 x2 x3 x4 x5 x6 σ H locs ls hI hS hl hw; exact False.elim hw
              | succ n ih =>
                intro x1 x2 x3 x4 x5 x6 σ H locs ls hI hS hl hw
                obtain ⟨K112, hK112⟩ : ∃ K, K = wloop (wm_X6_free_L112 Q x1 x2 x3 x4 σ) n := ⟨_, rfl⟩
                have hw : wm_X6_free_L112 Q x1 x2 x3 x4 σ K112 (x5, x6) := by rw [hK112]; exact hw
                dsimp only [wm_X6_free_L112] at hw
                have ih112 := ih
                refine lv_iload hx hb dX6_free_112 (lv_at hl 6 rfl) ?_
                refine lv_aload_n hx hb dX6_free_114 rfl (lv_at hl 0 rfl) ?_
                refine mG_X6_deaths hx hb hF hown hI (hts _ (List.mem_of_getElem? (i := 6) rfl : (Cond.fieldLink RX6 255 "PlateRoomModel" "deaths" "I" : Cond) ∈ wsX6_free)) dX6_free_115 ?_
                refine lv_icmp_ge (tgt := 175) hx hb dX6_free_118 (by decide) (fun hc => ?_) (fun hc => ?_)
                · have hw := hw.1 hc
                  refine lv_iload hx hb dX6_free_175 (lv_at hl 4 rfl) ?_
                  refine lv_if_lt (tgt := 208) hx hb dX6_free_177 (by decide) (fun hc => ?_) (fun hc => ?_)
                  · have hw := hw.1 hc
                    refine lv_iconst (v := 0) hx hb dX6_free_208 (by decide) ?_
                    exact hret _ _ _ _ _ _ dX6_free_209 hw hI hS
                  have hw := hw.2 hc
                  refine lv_iload hx hb dX6_free_180 (lv_at hl 5 rfl) ?_
                  refine lv_if_lt (tgt := 208) hx hb dX6_free_182 (by decide) (fun hc => ?_) (fun hc => ?_)
                  · have hw := hw.1 hc
                    refine lv_iconst (v := 0) hx hb dX6_free_208 (by decide) ?_
                    exact hret _ _ _ _ _ _ dX6_free_209 hw hI hS
                  have hw := hw.2 hc
                  refine lv_aload_n hx hb dX6_free_185 rfl (lv_at hl 0 rfl) ?_
                  refine mG_X6_deathDay hx hb hF hown hI (hts _ (List.mem_of_getElem? (i := 9) rfl : (Cond.fieldLink RX6 95 "PlateRoomModel" "deathDay" "[I" : Cond) ∈ wsX6_free)) dX6_free_186 ?_
                  refine lv_iload hx hb dX6_free_189 (lv_at hl 5 rfl) ?_
                  have hin := hw.1
                  have hw := hw.2
                  refine mR_X6_deathDay hx hb hI hin dX6_free_191 ?_
                  refine lv_aload_n hx hb dX6_free_192 rfl (lv_at hl 0 rfl) ?_
                  refine mG_X6_lawDays hx hb hF hown hI (hts _ (List.mem_of_getElem? (i := 10) rfl : (Cond.fieldLink RX6 89 "PlateRoomModel" "lawDays" "[I" : Cond) ∈ wsX6_free)) dX6_free_193 ?_
                  refine lv_iload hx hb dX6_free_196 (lv_at hl 4 rfl) ?_
                  have hin := hw.1
                  have hw := hw.2
                  refine mR_X6_lawDays hx hb hI hin dX6_free_198 ?_
                  refine lv_iadd hx hb dX6_free_199 ?_
                  refine lv_iload_n hx hb dX6_free_200 rfl (lv_at hl 2 rfl) ?_
                  refine lv_icmp_gt (tgt := 208) hx hb dX6_free_201 (by decide) (fun hc => ?_) (fun hc => ?_)
                  · have hw := hw.1 hc
                    refine lv_iconst (v := 0) hx hb dX6_free_208 (by decide) ?_
                    exact hret _ _ _ _ _ _ dX6_free_209 hw hI hS
                  have hw := hw.2 hc
                  refine lv_iconst (v := 1) hx hb dX6_free_204 (by decide) ?_
                  refine lv_goto (tgt := 209) hx hb dX6_free_205 (by decide) ?_
                  exact hret _ _ _ _ _ _ dX6_free_209 hw hI hS
                have hw := hw.2 hc
                refine lv_aload_n hx hb dX6_free_121 rfl (lv_at hl 0 rfl) ?_
                refine mG_X6_deathOf hx hb hF hown hI (hts _ (List.mem_of_getElem? (i := 7) rfl : (Cond.fieldLink RX6 92 "PlateRoomModel" "deathOf" "[I" : Cond) ∈ wsX6_free)) dX6_free_122 ?_
                refine lv_iload hx hb dX6_free_125 (lv_at hl 6 rfl) ?_
                have hin := hw.1
                have hw := hw.2
                refine mR_X6_deathOf hx hb hI hin dX6_free_127 ?_
                refine lv_iload_n hx hb dX6_free_128 rfl (lv_at hl 1 rfl) ?_
                refine lv_icmp_ne (tgt := 169) hx hb dX6_free_129 (by decide) (fun hc => ?_) (fun hc => ?_)
                · have hw := hw.1 hc
                  obtain ⟨a1, ea1⟩ : ∃ y : Int32, y = x6 + 1 := ⟨_, rfl⟩
                  have hw := hw a1 ea1
                  refine lv_iinc (v := a1) (lv' := [(6, .int a1), (0, .ref (g.2.1 0)), (1, .int x1), (2, .int x2), (3, .int x3), (4, .int x4), (5, .int x5)]) hx hb dX6_free_169 hl (k := 6) rfl (by rw [ea1]; rfl) (by decide) rfl (fun ls hl => ?_)
                  refine lv_goto (tgt := 112) hx hb dX6_free_172 (by decide) ?_
                  rw [hK112] at hw
                  exact ih112 _ _ _ _ _ _ _ _ _ _ hI hS (lv_sub hl [1, 2, 3, 4, 5, 6, 0] rfl) hw
                have hw := hw.2 hc
                refine lv_aload_n hx hb dX6_free_132 rfl (lv_at hl 0 rfl) ?_
                refine mG_X6_deathTold hx hb hF hown hI (hts _ (List.mem_of_getElem? (i := 8) rfl : (Cond.fieldLink RX6 98 "PlateRoomModel" "deathTold" "[I" : Cond) ∈ wsX6_free)) dX6_free_133 ?_
                refine lv_iload hx hb dX6_free_136 (lv_at hl 6 rfl) ?_
                have hin := hw.1
                have hw := hw.2
                refine mR_X6_deathTold hx hb hI hin dX6_free_138 ?_
                refine lv_iload_n hx hb dX6_free_139 rfl (lv_at hl 3 rfl) ?_
                refine lv_icmp_gt (tgt := 169) hx hb dX6_free_140 (by decide) (fun hc => ?_) (fun hc => ?_)
                · have hw := hw.1 hc
                  obtain ⟨a2, ea2⟩ : ∃ y : Int32, y = x6 + 1 := ⟨_, rfl⟩
                  have hw := hw a2 ea2
                  refine lv_iinc (v := a2) (lv' := [(6, .int a2), (0, .ref (g.2.1 0)), (1, .int x1), (2, .int x2), (3, .int x3), (4, .int x4), (5, .int x5)]) hx hb dX6_free_169 hl (k := 6) rfl (by rw [ea2]; rfl) (by decide) rfl (fun ls hl => ?_)
                  refine lv_goto (tgt := 112) hx hb dX6_free_172 (by decide) ?_
                  rw [hK112] at hw
                  exact ih112 _ _ _ _ _ _ _ _ _ _ hI hS (lv_sub hl [1, 2, 3, 4, 5, 6, 0] rfl) hw
                have hw := hw.2 hc
                refine lv_iload hx hb dX6_free_143 (lv_at hl 5 rfl) ?_
                refine lv_if_lt (tgt := 165) hx hb dX6_free_145 (by decide) (fun hc => ?_) (fun hc => ?_)
                · have hw := hw.1 hc
                  refine lv_iload hx hb dX6_free_165 (lv_at hl 6 rfl) ?_
                  refine lv_istore (lv' := [(5, .int x6), (0, .ref (g.2.1 0)), (1, .int x1), (2, .int x2), (3, .int x3), (4, .int x4), (6, .int x6)]) hx hb dX6_free_167 hl (by decide) rfl (fun ls hl => ?_)
                  obtain ⟨a3, ea3⟩ : ∃ y : Int32, y = x6 + 1 := ⟨_, rfl⟩
                  have hw := hw a3 ea3
                  refine lv_iinc (v := a3) (lv' := [(6, .int a3), (5, .int x6), (0, .ref (g.2.1 0)), (1, .int x1), (2, .int x2), (3, .int x3), (4, .int x4)]) hx hb dX6_free_169 hl (k := 6) rfl (by rw [ea3]; rfl) (by decide) rfl (fun ls hl => ?_)
                  refine lv_goto (tgt := 112) hx hb dX6_free_172 (by decide) ?_
                  rw [hK112] at hw
                  exact ih112 _ _ _ _ _ _ _ _ _ _ hI hS (lv_sub hl [2, 3, 4, 5, 6, 1, 0] rfl) hw
                have hw := hw.2 hc
                refine lv_aload_n hx hb dX6_free_148 rfl (lv_at hl 0 rfl) ?_
                refine mG_X6_deathTold hx hb hF hown hI (hts _ (List.mem_of_getElem? (i := 8) rfl : (Cond.fieldLink RX6 98 "PlateRoomModel" "deathTold" "[I" : Cond) ∈ wsX6_free)) dX6_free_149 ?_
                refine lv_iload hx hb dX6_free_152 (lv_at hl 6 rfl) ?_
                have hin := hw.1
                have hw := hw.2
                refine mR_X6_deathTold hx hb hI hin dX6_free_154 ?_
                refine lv_aload_n hx hb dX6_free_155 rfl (lv_at hl 0 rfl) ?_
                refine mG_X6_deathTold hx hb hF hown hI (hts _ (List.mem_of_getElem? (i := 8) rfl : (Cond.fieldLink RX6 98 "PlateRoomModel" "deathTold" "[I" : Cond) ∈ wsX6_free)) dX6_free_156 ?_
                refine lv_iload hx hb dX6_free_159 (lv_at hl 5 rfl) ?_
                have hin := hw.1
                have hw := hw.2
                refine mR_X6_deathTold hx hb hI hin dX6_free_161 ?_
                refine lv_icmp_lt (tgt := 169) hx hb dX6_free_162 (by decide) (fun hc => ?_) (fun hc => ?_)
                · have hw := hw.1 hc
                  obtain ⟨a4, ea4⟩ : ∃ y : Int32, y = x6 + 1 := ⟨_, rfl⟩
                  have hw := hw a4 ea4
                  refine lv_iinc (v := a4) (lv' := [(6, .int a4), (0, .ref (g.2.1 0)), (1, .int x1), (2, .int x2), (3, .int x3), (4, .int x4), (5, .int x5)]) hx hb dX6_free_169 hl (k := 6) rfl (by rw [ea4]; rfl) (by decide) rfl (fun ls hl => ?_)
                  refine lv_goto (tgt := 112) hx hb dX6_free_172 (by decide) ?_
                  rw [hK112] at hw
                  exact ih112 _ _ _ _ _ _ _ _ _ _ hI hS (lv_sub hl [1, 2, 3, 4, 5, 6, 0] rfl) hw
                have hw := hw.2 hc
                refine lv_iload hx hb dX6_free_165 (lv_at hl 6 rfl) ?_
                refine lv_istore (lv' := [(5, .int x6), (0, .ref (g.2.1 0)), (1, .int x1), (2, .int x2), (3, .int x3), (4, .int x4), (6, .int x6)]) hx hb dX6_free_167 hl (by decide) rfl (fun ls hl => ?_)
                obtain ⟨a5, ea5⟩ : ∃ y : Int32, y = x6 + 1 := ⟨_, rfl⟩
                have hw := hw a5 ea5
                refine lv_iinc (v := a5) (lv' := [(6, .int a5), (5, .int x6), (0, .ref (g.2.1 0)), (1, .int x1), (2, .int x2), (3, .int x3), (4, .int x4)]) hx hb dX6_free_169 hl (k := 6) rfl (by rw [ea5]; rfl) (by decide) rfl (fun ls hl => ?_)
                refine lv_goto (tgt := 112) hx hb dX6_free_172 (by decide) ?_
                rw [hK112] at hw
                exact ih112 _ _ _ _ _ _ _ _ _ _ hI hS (lv_sub hl [2, 3, 4, 5, 6, 1, 0] rfl) hw
            exact key112 n112 _ _ _ _ _ _ _ _ _ _ hI hS (lv_sub hl [2, 3, 4, 5, 6, 1, 0] rfl) hw
          have hw := hw.2 hc
          refine lv_aload_n hx hb dX6_free_63 rfl (lv_at hl 0 rfl) ?_
          refine mG_X6_lawFrom hx hb hF hown hI (hts _ (List.mem_of_getElem? (i := 5) rfl : (Cond.fieldLink RX6 86 "PlateRoomModel" "lawFrom" "[I" : Cond) ∈ wsX6_free)) dX6_free_64 ?_
          refine lv_iload hx hb dX6_free_67 (lv_at hl 5 rfl) ?_
          have hin := hw.1
          have hw := hw.2
          refine mR_X6_lawFrom hx hb hI hin dX6_free_69 ?_
          refine lv_iload_n hx hb dX6_free_70 rfl (lv_at hl 2 rfl) ?_
          refine lv_icmp_gt (tgt := 100) hx hb dX6_free_71 (by decide) (fun hc => ?_) (fun hc => ?_)
          · have hw := hw.1 hc
            obtain ⟨a2, ea2⟩ : ∃ y : Int32, y = x5 + 1 := ⟨_, rfl⟩
            have hw := hw a2 ea2
            refine lv_iinc (v := a2) (lv' := [(5, .int a2), (0, .ref (g.2.1 0)), (1, .int x1), (2, .int x2), (3, .int x3), (4, .int x4)]) hx hb dX6_free_100 hl (k := 5) rfl (by rw [ea2]; rfl) (by decide) rfl (fun ls hl => ?_)
            refine lv_goto (tgt := 54) hx hb dX6_free_103 (by decide) ?_
            rw [hK54] at hw
            exact ih54 _ _ _ _ _ _ _ _ _ hI hS (lv_sub hl [1, 2, 3, 4, 5, 0] rfl) hw
          have hw := hw.2 hc
          refine lv_iload hx hb dX6_free_74 (lv_at hl 4 rfl) ?_
          refine lv_if_lt (tgt := 96) hx hb dX6_free_76 (by decide) (fun hc => ?_) (fun hc => ?_)
          · have hw := hw.1 hc
            refine lv_iload hx hb dX6_free_96 (lv_at hl 5 rfl) ?_
            refine lv_istore (lv' := [(4, .int x5), (0, .ref (g.2.1 0)), (1, .int x1), (2, .int x2), (3, .int x3), (5, .int x5)]) hx hb dX6_free_98 hl (by decide) rfl (fun ls hl => ?_)
            obtain ⟨a3, ea3⟩ : ∃ y : Int32, y = x5 + 1 := ⟨_, rfl⟩
            have hw := hw a3 ea3
            refine lv_iinc (v := a3) (lv' := [(5, .int a3), (4, .int x5), (0, .ref (g.2.1 0)), (1, .int x1), (2, .int x2), (3, .int x3)]) hx hb dX6_free_100 hl (k := 5) rfl (by rw [ea3]; rfl) (by decide) rfl (fun ls hl => ?_)
            refine lv_goto (tgt := 54) hx hb dX6_free_103 (by decide) ?_
            rw [hK54] at hw
            exact ih54 _ _ _ _ _ _ _ _ _ hI hS (lv_sub hl [2, 3, 4, 5, 1, 0] rfl) hw
          have hw := hw.2 hc
          refine lv_aload_n hx hb dX6_free_79 rfl (lv_at hl 0 rfl) ?_
          refine mG_X6_lawFrom hx hb hF hown hI (hts _ (List.mem_of_getElem? (i := 5) rfl : (Cond.fieldLink RX6 86 "PlateRoomModel" "lawFrom" "[I" : Cond) ∈ wsX6_free)) dX6_free_80 ?_
          refine lv_iload hx hb dX6_free_83 (lv_at hl 5 rfl) ?_
          have hin := hw.1
          have hw := hw.2
          refine mR_X6_lawFrom hx hb hI hin dX6_free_85 ?_
          refine lv_aload_n hx hb dX6_free_86 rfl (lv_at hl 0 rfl) ?_
          refine mG_X6_lawFrom hx hb hF hown hI (hts _ (List.mem_of_getElem? (i := 5) rfl : (Cond.fieldLink RX6 86 "PlateRoomModel" "lawFrom" "[I" : Cond) ∈ wsX6_free)) dX6_free_87 ?_
          refine lv_iload hx hb dX6_free_90 (lv_at hl 4 rfl) ?_
          have hin := hw.1
          have hw := hw.2
          refine mR_X6_lawFrom hx hb hI hin dX6_free_92 ?_
          refine lv_icmp_lt (tgt := 100) hx hb dX6_free_93 (by decide) (fun hc => ?_) (fun hc => ?_)
          · have hw := hw.1 hc
            obtain ⟨a4, ea4⟩ : ∃ y : Int32, y = x5 + 1 := ⟨_, rfl⟩
            have hw := hw a4 ea4
            refine lv_iinc (v := a4) (lv' := [(5, .int a4), (0, .ref (g.2.1 0)), (1, .int x1), (2, .int x2), (3, .int x3), (4, .int x4)]) hx hb dX6_free_100 hl (k := 5) rfl (by rw [ea4]; rfl) (by decide) rfl (fun ls hl => ?_)
            refine lv_goto (tgt := 54) hx hb dX6_free_103 (by decide) ?_
            rw [hK54] at hw
            exact ih54 _ _ _ _ _ _ _ _ _ hI hS (lv_sub hl [1, 2, 3, 4, 5, 0] rfl) hw
          have hw := hw.2 hc
          refine lv_iload hx hb dX6_free_96 (lv_at hl 5 rfl) ?_
          refine lv_istore (lv' := [(4, .int x5), (0, .ref (g.2.1 0)), (1, .int x1), (2, .int x2), (3, .int x3), (5, .int x5)]) hx hb dX6_free_98 hl (by decide) rfl (fun ls hl => ?_)
          obtain ⟨a5, ea5⟩ : ∃ y : Int32, y = x5 + 1 := ⟨_, rfl⟩
          have hw := hw a5 ea5
          refine lv_iinc (v := a5) (lv' := [(5, .int a5), (4, .int x5), (0, .ref (g.2.1 0)), (1, .int x1), (2, .int x2), (3, .int x3)]) hx hb dX6_free_100 hl (k := 5) rfl (by rw [ea5]; rfl) (by decide) rfl (fun ls hl => ?_)
          refine lv_goto (tgt := 54) hx hb dX6_free_103 (by decide) ?_
          rw [hK54] at hw
          exact ih54 _ _ _ _ _ _ _ _ _ hI hS (lv_sub hl [2, 3, 4, 5, 1, 0] rfl) hw
      exact key54 n54 _ _ _ _ _ _ _ _ _ hI hS (lv_sub hl [2, 3, 4, 5, 1, 0] rfl) hw
    have hw := hw.2 hc
    refine lv_aload_n hx hb dX6_free_42 rfl (lv_at hl 0 rfl) ?_
    refine lv_iconst (v := 2) hx hb dX6_free_43 (by decide) ?_
    refine gVi (cm_X6_refuse l g (σ := σ2) hw) (mMv g) ⟨hx, hb, hml, hown, hts⟩ (cwV 1 hts gX6_free_X6_refuse rfl rfl rfl (by decide +kernel) ⟨Nat.le_of_ble_eq_true rfl, Nat.le_of_ble_eq_true rfl⟩) (mRecv_X6 hI) hI hS hl.1 rfl rfl (Nat.le_of_ble_eq_true rfl) dX6_free_44 (fun r12 σ13 H locs hw hI hS => ?_)
    exact hret _ _ _ _ _ _ dX6_free_47 hw hI hS
  have hw := hw.2 hc
  refine lv_aload_n hx hb dX6_free_18 rfl (lv_at hl 0 rfl) ?_
  refine lv_iconst (v := 1) hx hb dX6_free_19 (by decide) ?_
  refine gVi (cm_X6_refuse l g (σ := σ2) hw) (mMv g) ⟨hx, hb, hml, hown, hts⟩ (cwV 1 hts gX6_free_X6_refuse rfl rfl rfl (by decide +kernel) ⟨Nat.le_of_ble_eq_true rfl, Nat.le_of_ble_eq_true rfl⟩) (mRecv_X6 hI) hI hS hl.1 rfl rfl (Nat.le_of_ble_eq_true rfl) dX6_free_20 (fun r14 σ15 H locs hw hI hS => ?_)
  exact hret _ _ _ _ _ _ dX6_free_23 hw hI hS
