set_option maxRecDepth 100000 in
set_option maxHeartbeats 4000000 in
theorem cm_X6_status (l : Launch) (g : wG) {σ : wS} {Q : Int32 → wS → Prop} (hw : wm_X6_status Q σ) : Met l yX6_status wsX6_status ({ frames := 0, cells := 0, slots := 0, locals := 0 } : Room) (va_Pc [.ref (g.2.1 0)] (fun U => mIn g σ U.heap U)) (va_Qi Q (fun σ1 t => mIn g σ1 t.heap t) (mA g)) 0 0 (mA g) := by
  refine gOfI (maxL := 1) (mMv g) (by decide) rfl (Nat.le_of_ble_eq_true rfl) ?_
  intro p e s m args below meth c QQ hx hb hml hown hts hret ls hl hI
  have hl : lv_has ls 1 [(0, .ref (g.2.1 0))] := hl
  have hS : va_S (mA g) s.heap s.heap [] := va_S.rf
  have hF : ∀ w ∈ wsX60, w.before args s = true := fun w h => hts w (List.mem_cons_of_mem _ (List.mem_append_right _ h))
  refine lv_aload_n hx hb dX6_status_0 rfl (lv_at hl 0 rfl) ?_
  refine lv_iconst (v := 0) hx hb dX6_status_1 (by decide) ?_
  refine mP_X6_thrown hx hb hF hown hI hS (hts _ (List.mem_of_getElem? (i := 1) rfl : (Cond.fieldLink RX6 101 "PlateRoomModel" "thrown" "I" : Cond) ∈ wsX6_status)) dX6_status_2 (fun σ1 eσ1 H locs hI hS => ?_)
  have hw := hw σ1 eσ1
  refine lv_aload_n hx hb dX6_status_5 rfl (lv_at hl 0 rfl) ?_
  refine mG_X6_status hx hb hF hown hI (hts _ (List.mem_of_getElem? (i := 2) rfl : (Cond.fieldLink RX6 105 "PlateRoomModel" "status" "I" : Cond) ∈ wsX6_status)) dX6_status_6 ?_
  exact hret _ _ _ _ _ _ dX6_status_9 hw hI hS
set_option maxRecDepth 100000 in
set_option maxHeartbeats 4000000 in
theorem cm_X6_refuse (l : Launch) (g : wG) {σ : wS} {x1 : Int32} {Q : Int32 → wS → Prop} (hw : wm_X6_refuse Q x1 σ) : Met l yX6_refuse wsX6_refuse ({ frames := 0, cells := 0, slots := 0, locals := 0 } : Room) (va_Pc [.ref (g.2.1 0), .int x1] (fun U => mIn g σ U.heap U)) (va_Qi Q (fun σ1 t => mIn g σ1 t.heap t) (mA g)) 0 0 (mA g) := by
  refine gOfI (maxL := 2) (mMv g) (by decide) rfl (Nat.le_of_ble_eq_true rfl) ?_
  intro p e s m args below meth c QQ hx hb hml hown hts hret ls hl hI
  have hl : lv_has ls 2 [(0, .ref (g.2.1 0)), (1, .int x1)] := hl
  have hS : va_S (mA g) s.heap s.heap [] := va_S.rf
  have hF : ∀ w ∈ wsX60, w.before args s = true := fun w h => hts w (List.mem_cons_of_mem _ (List.mem_append_right _ h))
  refine lv_aload_n hx hb dX6_refuse_0 rfl (lv_at hl 0 rfl) ?_
  refine lv_iload_n hx hb dX6_refuse_1 rfl (lv_at hl 1 rfl) ?_
  refine mP_X6_status hx hb hF hown hI hS (hts _ (List.mem_of_getElem? (i := 1) rfl : (Cond.fieldLink RX6 105 "PlateRoomModel" "status" "I" : Cond) ∈ wsX6_refuse)) dX6_refuse_2 (fun σ1 eσ1 H locs hI hS => ?_)
  have hw := hw σ1 eσ1
  refine lv_iconst (v := (-1)) hx hb dX6_refuse_5 (by decide) ?_
  exact hret _ _ _ _ _ _ dX6_refuse_6 hw hI hS
set_option maxRecDepth 100000 in
set_option maxHeartbeats 4000000 in
theorem cm_X6_plate (l : Launch) (g : wG) {σ : wS} {Q : Int32 → wS → Prop} (hw : wm_X6_plate Q σ) : Met l yX6_plate wsX6_plate ({ frames := 1, cells := 0, slots := 0, locals := 21 } : Room) (va_Pc [.ref (g.2.1 0)] (fun U => mIn g σ U.heap U)) (va_Qi Q (fun σ1 t => mIn g σ1 t.heap t) (mA g)) 0 0 (mA g) := by
  refine gOfI (maxL := 1) (mMv g) (by decide) rfl (Nat.le_of_ble_eq_true rfl) ?_
  intro p e s m args below meth c QQ hx hb hml hown hts hret ls hl hI
  have hl : lv_has ls 1 [(0, .ref (g.2.1 0))] := hl
  have hS : va_S (mA g) s.heap s.heap [] := va_S.rf
  have hF : ∀ w ∈ wsX60, w.before args s = true := fun w h => hts w (List.mem_cons_of_mem _ (List.mem_append_right _ h))
  refine lv_aload_n hx hb dX6_plate_0 rfl (lv_at hl 0 rfl) ?_
  refine lv_iconst (v := 0) hx hb dX6_plate_1 (by decide) ?_
  refine mP_X6_thrown hx hb hF hown hI hS (hts _ (List.mem_of_getElem? (i := 1) rfl : (Cond.fieldLink RX6 101 "PlateRoomModel" "thrown" "I" : Cond) ∈ wsX6_plate)) dX6_plate_2 (fun σ1 eσ1 H locs hI hS => ?_)
  have hw := hw σ1 eσ1
  refine lv_aload_n hx hb dX6_plate_5 rfl (lv_at hl 0 rfl) ?_
  refine lv_iconst (v := 0) hx hb dX6_plate_6 (by decide) ?_
  refine mP_X6_status hx hb hF hown hI hS (hts _ (List.mem_of_getElem? (i := 2) rfl : (Cond.fieldLink RX6 105 "PlateRoomModel" "status" "I" : Cond) ∈ wsX6_plate)) dX6_plate_7 (fun σ2 eσ2 H locs hI hS => ?_)
  have hw := hw σ2 eσ2
  refine lv_aload_n hx hb dX6_plate_10 rfl (lv_at hl 0 rfl) ?_
  refine mG_X6_plates hx hb hF hown hI (hts _ (List.mem_of_getElem? (i := 3) rfl : (Cond.fieldLink RX6 108 "PlateRoomModel" "plates" "I" : Cond) ∈ wsX6_plate)) dX6_plate_11 ?_
  refine lv_bipush (v := 20) hx hb dX6_plate_14 (by decide) ?_
  refine lv_icmp_ne (tgt := 25) hx hb dX6_plate_16 (by decide) (fun hc => ?_) (fun hc => ?_)
  · have hw := hw.1 hc
    refine lv_aload_n hx hb dX6_plate_25 rfl (lv_at hl 0 rfl) ?_
    refine mG_X6_left hx hb hF hown hI (hts _ (List.mem_of_getElem? (i := 4) rfl : (Cond.fieldLink RX6 47 "PlateRoomModel" "left" "[I" : Cond) ∈ wsX6_plate)) dX6_plate_26 ?_
    refine lv_aload_n hx hb dX6_plate_29 rfl (lv_at hl 0 rfl) ?_
    refine mG_X6_plates hx hb hF hown hI (hts _ (List.mem_of_getElem? (i := 3) rfl : (Cond.fieldLink RX6 108 "PlateRoomModel" "plates" "I" : Cond) ∈ wsX6_plate)) dX6_plate_30 ?_
    refine lv_iconst (v := 0) hx hb dX6_plate_33 (by decide) ?_
    have hin := hw.1
    have hw := hw.2
    refine mS_X6_left hx hb hI hS hin dX6_plate_34 (fun σ3 eσ3 H locs hI hS => ?_)
    have hw := hw σ3 eσ3
    refine lv_aload_n hx hb dX6_plate_35 rfl (lv_at hl 0 rfl) ?_
    refine mG_X6_right hx hb hF hown hI (hts _ (List.mem_of_getElem? (i := 5) rfl : (Cond.fieldLink RX6 50 "PlateRoomModel" "right" "[I" : Cond) ∈ wsX6_plate)) dX6_plate_36 ?_
    refine lv_aload_n hx hb dX6_plate_39 rfl (lv_at hl 0 rfl) ?_
    refine mG_X6_plates hx hb hF hown hI (hts _ (List.mem_of_getElem? (i := 3) rfl : (Cond.fieldLink RX6 108 "PlateRoomModel" "plates" "I" : Cond) ∈ wsX6_plate)) dX6_plate_40 ?_
    refine lv_iconst (v := 0) hx hb dX6_plate_43 (by decide) ?_
    have hin := hw.1
    have hw := hw.2
    refine mS_X6_right hx hb hI hS hin dX6_plate_44 (fun σ4 eσ4 H locs hI hS => ?_)
    have hw := hw σ4 eσ4
    refine lv_aload_n hx hb dX6_plate_45 rfl (lv_at hl 0 rfl) ?_
    refine mG_X6_wanted hx hb hF hown hI (hts _ (List.mem_of_getElem? (i := 6) rfl : (Cond.fieldLink RX6 65 "PlateRoomModel" "wanted" "[I" : Cond) ∈ wsX6_plate)) dX6_plate_46 ?_
    refine lv_aload_n hx hb dX6_plate_49 rfl (lv_at hl 0 rfl) ?_
    refine mG_X6_plates hx hb hF hown hI (hts _ (List.mem_of_getElem? (i := 3) rfl : (Cond.fieldLink RX6 108 "PlateRoomModel" "plates" "I" : Cond) ∈ wsX6_plate)) dX6_plate_50 ?_
    refine lv_iconst (v := 0) hx hb dX6_plate_53 (by decide) ?_
    have hin := hw.1
    have hw := hw.2
    refine mS_X6_wanted hx hb hI hS hin dX6_plate_54 (fun σ5 eσ5 H locs hI hS => ?_)
    have hw := hw σ5 eσ5
    refine lv_aload_n hx hb dX6_plate_55 rfl (lv_at hl 0 rfl) ?_
    refine mG_X6_hours hx hb hF hown hI (hts _ (List.mem_of_getElem? (i := 7) rfl : (Cond.fieldLink RX6 68 "PlateRoomModel" "hours" "[I" : Cond) ∈ wsX6_plate)) dX6_plate_56 ?_
    refine lv_aload_n hx hb dX6_plate_59 rfl (lv_at hl 0 rfl) ?_
    refine mG_X6_plates hx hb hF hown hI (hts _ (List.mem_of_getElem? (i := 3) rfl : (Cond.fieldLink RX6 108 "PlateRoomModel" "plates" "I" : Cond) ∈ wsX6_plate)) dX6_plate_60 ?_
    refine lv_iconst (v := 1) hx hb dX6_plate_63 (by decide) ?_
    have hin := hw.1
    have hw := hw.2
    refine mS_X6_hours hx hb hI hS hin dX6_plate_64 (fun σ6 eσ6 H locs hI hS => ?_)
    have hw := hw σ6 eσ6
    refine lv_aload_n hx hb dX6_plate_65 rfl (lv_at hl 0 rfl) ?_
    refine mG_X6_lost hx hb hF hown hI (hts _ (List.mem_of_getElem? (i := 8) rfl : (Cond.fieldLink RX6 71 "PlateRoomModel" "lost" "[I" : Cond) ∈ wsX6_plate)) dX6_plate_66 ?_
    refine lv_aload_n hx hb dX6_plate_69 rfl (lv_at hl 0 rfl) ?_
    refine mG_X6_plates hx hb hF hown hI (hts _ (List.mem_of_getElem? (i := 3) rfl : (Cond.fieldLink RX6 108 "PlateRoomModel" "plates" "I" : Cond) ∈ wsX6_plate)) dX6_plate_70 ?_
    refine lv_sipush (v := 500) hx hb dX6_plate_73 (by decide) ?_
    have hin := hw.1
    have hw := hw.2
    refine mS_X6_lost hx hb hI hS hin dX6_plate_76 (fun σ7 eσ7 H locs hI hS => ?_)
    have hw := hw σ7 eσ7
    refine lv_aload_n hx hb dX6_plate_77 rfl (lv_at hl 0 rfl) ?_
    refine lv_dup hx hb dX6_plate_78 rfl ?_
    refine mG_X6_plates hx hb hF hown hI (hts _ (List.mem_of_getElem? (i := 3) rfl : (Cond.fieldLink RX6 108 "PlateRoomModel" "plates" "I" : Cond) ∈ wsX6_plate)) dX6_plate_79 ?_
    refine lv_iconst (v := 1) hx hb dX6_plate_82 (by decide) ?_
    refine lv_iadd hx hb dX6_plate_83 ?_
    refine mP_X6_plates hx hb hF hown hI hS (hts _ (List.mem_of_getElem? (i := 3) rfl : (Cond.fieldLink RX6 108 "PlateRoomModel" "plates" "I" : Cond) ∈ wsX6_plate)) dX6_plate_84 (fun σ8 eσ8 H locs hI hS => ?_)
    have hw := hw σ8 eσ8
    refine lv_aload_n hx hb dX6_plate_87 rfl (lv_at hl 0 rfl) ?_
    refine mG_X6_plates hx hb hF hown hI (hts _ (List.mem_of_getElem? (i := 3) rfl : (Cond.fieldLink RX6 108 "PlateRoomModel" "plates" "I" : Cond) ∈ wsX6_plate)) dX6_plate_88 ?_
    refine lv_iconst (v := 1) hx hb dX6_plate_91 (by decide) ?_
    refine lv_isub hx hb dX6_plate_92 ?_
    exact hret _ _ _ _ _ _ dX6_plate_93 hw hI hS
  have hw := hw.2 hc
  refine lv_aload_n hx hb dX6_plate_19 rfl (lv_at hl 0 rfl) ?_
  refine lv_iconst (v := 3) hx hb dX6_plate_20 (by decide) ?_
  refine gVi (cm_X6_refuse l g (σ := σ2) hw) (mMv g) ⟨hx, hb, hml, hown, hts⟩ (cwV 1 hts gX6_plate_X6_refuse rfl rfl rfl (by decide +kernel) ⟨Nat.le_of_ble_eq_true rfl, Nat.le_of_ble_eq_true rfl⟩) (mRecv_X6 hI) hI hS hl.1 rfl rfl (Nat.le_of_ble_eq_true rfl) dX6_plate_21 (fun r9 σ10 H locs hw hI hS => ?_)
  exact hret _ _ _ _ _ _ dX6_plate_24 hw hI hS
set_option maxRecDepth 100000 in
set_option maxHeartbeats 4000000 in
theorem cm_X6_motif (l : Launch) (g : wG) {σ : wS} {Q : Int32 → wS → Prop} (hw : wm_X6_motif Q σ) : Met l yX6_motif wsX6_motif ({ frames := 1, cells := 0, slots := 0, locals := 21 } : Room) (va_Pc [.ref (g.2.1 0)] (fun U => mIn g σ U.heap U)) (va_Qi Q (fun σ1 t => mIn g σ1 t.heap t) (mA g)) 0 0 (mA g) := by
  refine gOfI (maxL := 1) (mMv g) (by decide) rfl (Nat.le_of_ble_eq_true rfl) ?_
  intro p e s m args below meth c QQ hx hb hml hown hts hret ls hl hI
  have hl : lv_has ls 1 [(0, .ref (g.2.1 0))] := hl
  have hS : va_S (mA g) s.heap s.heap [] := va_S.rf
  have hF : ∀ w ∈ wsX60, w.before args s = true := fun w h => hts w (List.mem_cons_of_mem _ (List.mem_append_right _ h))
  refine lv_aload_n hx hb dX6_motif_0 rfl (lv_at hl 0 rfl) ?_
  refine lv_iconst (v := 0) hx hb dX6_motif_1 (by decide) ?_
  refine mP_X6_thrown hx hb hF hown hI hS (hts _ (List.mem_of_getElem? (i := 1) rfl : (Cond.fieldLink RX6 101 "PlateRoomModel" "thrown" "I" : Cond) ∈ wsX6_motif)) dX6_motif_2 (fun σ1 eσ1 H locs hI hS => ?_)
  have hw := hw σ1 eσ1
  refine lv_aload_n hx hb dX6_motif_5 rfl (lv_at hl 0 rfl) ?_
  refine lv_iconst (v := 0) hx hb dX6_motif_6 (by decide) ?_
  refine mP_X6_status hx hb hF hown hI hS (hts _ (List.mem_of_getElem? (i := 2) rfl : (Cond.fieldLink RX6 105 "PlateRoomModel" "status" "I" : Cond) ∈ wsX6_motif)) dX6_motif_7 (fun σ2 eσ2 H locs hI hS => ?_)
  have hw := hw σ2 eσ2
  refine lv_aload_n hx hb dX6_motif_10 rfl (lv_at hl 0 rfl) ?_
  refine mG_X6_motifs hx hb hF hown hI (hts _ (List.mem_of_getElem? (i := 3) rfl : (Cond.fieldLink RX6 111 "PlateRoomModel" "motifs" "I" : Cond) ∈ wsX6_motif)) dX6_motif_11 ?_
  refine lv_bipush (v := 16) hx hb dX6_motif_14 (by decide) ?_
  refine lv_icmp_ne (tgt := 25) hx hb dX6_motif_16 (by decide) (fun hc => ?_) (fun hc => ?_)
  · have hw := hw.1 hc
    refine lv_aload_n hx hb dX6_motif_25 rfl (lv_at hl 0 rfl) ?_
    refine lv_dup hx hb dX6_motif_26 rfl ?_
    refine mG_X6_motifs hx hb hF hown hI (hts _ (List.mem_of_getElem? (i := 3) rfl : (Cond.fieldLink RX6 111 "PlateRoomModel" "motifs" "I" : Cond) ∈ wsX6_motif)) dX6_motif_27 ?_
    refine lv_iconst (v := 1) hx hb dX6_motif_30 (by decide) ?_
    refine lv_iadd hx hb dX6_motif_31 ?_
    refine mP_X6_motifs hx hb hF hown hI hS (hts _ (List.mem_of_getElem? (i := 3) rfl : (Cond.fieldLink RX6 111 "PlateRoomModel" "motifs" "I" : Cond) ∈ wsX6_motif)) dX6_motif_32 (fun σ3 eσ3 H locs hI hS => ?_)
    have hw := hw σ3 eσ3
    refine lv_aload_n hx hb dX6_motif_35 rfl (lv_at hl 0 rfl) ?_
    refine mG_X6_motifs hx hb hF hown hI (hts _ (List.mem_of_getElem? (i := 3) rfl : (Cond.fieldLink RX6 111 "PlateRoomModel" "motifs" "I" : Cond) ∈ wsX6_motif)) dX6_motif_36 ?_
    refine lv_iconst (v := 1) hx hb dX6_motif_39 (by decide) ?_
    refine lv_isub hx hb dX6_motif_40 ?_
    exact hret _ _ _ _ _ _ dX6_motif_41 hw hI hS
  have hw := hw.2 hc
  refine lv_aload_n hx hb dX6_motif_19 rfl (lv_at hl 0 rfl) ?_
  refine lv_iconst (v := 3) hx hb dX6_motif_20 (by decide) ?_
  refine gVi (cm_X6_refuse l g (σ := σ2) hw) (mMv g) ⟨hx, hb, hml, hown, hts⟩ (cwV 1 hts gX6_motif_X6_refuse rfl rfl rfl (by decide +kernel) ⟨Nat.le_of_ble_eq_true rfl, Nat.le_of_ble_eq_true rfl⟩) (mRecv_X6 hI) hI hS hl.1 rfl rfl (Nat.le_of_ble_eq_true rfl) dX6_motif_21 (fun r4 σ5 H locs hw hI hS => ?_)
  exact hret _ _ _ _ _ _ dX6_motif_24 hw hI hS
set_option maxRecDepth 100000 in
set_option maxHeartbeats 4000000 in
theorem cm_X6_isPlate (l : Launch) (g : wG) {σ : wS} {x1 : Int32} {Q : Int32 → Prop} (hw : wm_X6_isPlate Q x1 σ) : Met l yX6_isPlate wsX6_isPlate ({ frames := 0, cells := 0, slots := 0, locals := 0 } : Room) (va_Pc [.ref (g.2.1 0), .int x1] (fun U => mIn g σ U.heap U)) (va_Qi (fun r σ1 => Q r ∧ σ1 = σ) (fun σ1 t => mIn g σ1 t.heap t) (mA g)) 0 0 (mA g) := by
  refine gOfZ (maxL := 2) (mMv g) (by decide) rfl (Nat.le_of_ble_eq_true rfl) ?_
  intro p e s m args below meth c QQ hx hb hml hown hts hret ls hl hI
  have hl : lv_has ls 2 [(0, .ref (g.2.1 0)), (1, .int x1)] := hl
  have hS : va_S (mA g) s.heap s.heap [] := va_S.rf
  have hF : ∀ w ∈ wsX60, w.before args s = true := fun w h => hts w (List.mem_cons_of_mem _ (List.mem_append_right _ h))
  refine lv_iload_n hx hb dX6_isPlate_0 rfl (lv_at hl 1 rfl) ?_
  refine lv_if_lt (tgt := 16) hx hb dX6_isPlate_1 (by decide) (fun hc => ?_) (fun hc => ?_)
  · have hw := hw.1 hc
    refine lv_iconst (v := 0) hx hb dX6_isPlate_16 (by decide) ?_
    exact hret _ _ _ _ _ _ dX6_isPlate_17 isB0 ⟨hw, rfl⟩ hI hS
  have hw := hw.2 hc
  refine lv_iload_n hx hb dX6_isPlate_4 rfl (lv_at hl 1 rfl) ?_
  refine lv_aload_n hx hb dX6_isPlate_5 rfl (lv_at hl 0 rfl) ?_
  refine mG_X6_plates hx hb hF hown hI (hts _ (List.mem_of_getElem? (i := 1) rfl : (Cond.fieldLink RX6 108 "PlateRoomModel" "plates" "I" : Cond) ∈ wsX6_isPlate)) dX6_isPlate_6 ?_
  refine lv_icmp_ge (tgt := 16) hx hb dX6_isPlate_9 (by decide) (fun hc => ?_) (fun hc => ?_)
  · have hw := hw.1 hc
    refine lv_iconst (v := 0) hx hb dX6_isPlate_16 (by decide) ?_
    exact hret _ _ _ _ _ _ dX6_isPlate_17 isB0 ⟨hw, rfl⟩ hI hS
  have hw := hw.2 hc
  refine lv_iconst (v := 1) hx hb dX6_isPlate_12 (by decide) ?_
  refine lv_goto (tgt := 17) hx hb dX6_isPlate_13 (by decide) ?_
  exact hret _ _ _ _ _ _ dX6_isPlate_17 isB1 ⟨hw, rfl⟩ hI hS
set_option maxRecDepth 100000 in
set_option maxHeartbeats 4000000 in
theorem cm_X6_isMotif (l : Launch) (g : wG) {σ : wS} {x1 : Int32} {Q : Int32 → Prop} (hw : wm_X6_isMotif Q x1 σ) : Met l yX6_isMotif wsX6_isMotif ({ frames := 0, cells := 0, slots := 0, locals := 0 } : Room) (va_Pc [.ref (g.2.1 0), .int x1] (fun U => mIn g σ U.heap U)) (va_Qi (fun r σ1 => Q r ∧ σ1 = σ) (fun σ1 t => mIn g σ1 t.heap t) (mA g)) 0 0 (mA g) := by
  refine gOfZ (maxL := 2) (mMv g) (by decide) rfl (Nat.le_of_ble_eq_true rfl) ?_
  intro p e s m args below meth c QQ hx hb hml hown hts hret ls hl hI
  have hl : lv_has ls 2 [(0, .ref (g.2.1 0)), (1, .int x1)] := hl
  have hS : va_S (mA g) s.heap s.heap [] := va_S.rf
  have hF : ∀ w ∈ wsX60, w.before args s = true := fun w h => hts w (List.mem_cons_of_mem _ (List.mem_append_right _ h))
  refine lv_iload_n hx hb dX6_isMotif_0 rfl (lv_at hl 1 rfl) ?_
  refine lv_if_lt (tgt := 16) hx hb dX6_isMotif_1 (by decide) (fun hc => ?_) (fun hc => ?_)
  · have hw := hw.1 hc
    refine lv_iconst (v := 0) hx hb dX6_isMotif_16 (by decide) ?_
    exact hret _ _ _ _ _ _ dX6_isMotif_17 isB0 ⟨hw, rfl⟩ hI hS
  have hw := hw.2 hc
  refine lv_iload_n hx hb dX6_isMotif_4 rfl (lv_at hl 1 rfl) ?_
  refine lv_aload_n hx hb dX6_isMotif_5 rfl (lv_at hl 0 rfl) ?_
  refine mG_X6_motifs hx hb hF hown hI (hts _ (List.mem_of_getElem? (i := 1) rfl : (Cond.fieldLink RX6 111 "PlateRoomModel" "motifs" "I" : Cond) ∈ wsX6_isMotif)) dX6_isMotif_6 ?_
  refine lv_icmp_ge (tgt := 16) hx hb dX6_isMotif_9 (by decide) (fun hc => ?_) (fun hc => ?_)
  · have hw := hw.1 hc
    refine lv_iconst (v := 0) hx hb dX6_isMotif_16 (by decide) ?_
    exact hret _ _ _ _ _ _ dX6_isMotif_17 isB0 ⟨hw, rfl⟩ hI hS
  have hw := hw.2 hc
  refine lv_iconst (v := 1) hx hb dX6_isMotif_12 (by decide) ?_
  refine lv_goto (tgt := 17) hx hb dX6_isMotif_13 (by decide) ?_
  exact hret _ _ _ _ _ _ dX6_isMotif_17 isB1 ⟨hw, rfl⟩ hI hS
set_option maxRecDepth 100000 in
set_option maxHeartbeats 4000000 in
theorem cm_X6_isDay (l : Launch) (g : wG) {σ : wS} {x0 : Int32} {Q : Int32 → Prop} (hw : wm_X6_isDay Q x0) : Met l yX6_isDay wsX6_isDay ({ frames := 0, cells := 0, slots := 0, locals := 0 } : Room) (va_Pc [.int x0] (fun U => mIn g σ U.heap U)) (va_Qi (fun r σ1 => Q r ∧ σ1 = σ) (fun σ1 t => mIn g σ1 t.heap t) (mA g)) 0 0 (mA g) := by
  refine gOfZ (maxL := 1) (mMv g) (by decide) rfl (Nat.le_of_ble_eq_true rfl) ?_
  intro p e s m args below meth c QQ hx hb hml hown hts hret ls hl hI
  have hl : lv_has ls 1 [(0, .int x0)] := hl
  have hS : va_S (mA g) s.heap s.heap [] := va_S.rf
  refine lv_iload_n hx hb dX6_isDay_0 rfl (lv_at hl 0 rfl) ?_
  refine lv_if_lt (tgt := 15) hx hb dX6_isDay_1 (by decide) (fun hc => ?_) (fun hc => ?_)
  · have hw := hw.1 hc
    refine lv_iconst (v := 0) hx hb dX6_isDay_15 (by decide) ?_
    exact hret _ _ _ _ _ _ dX6_isDay_16 isB0 ⟨hw, rfl⟩ hI hS
  have hw := hw.2 hc
  refine lv_iload_n hx hb dX6_isDay_4 rfl (lv_at hl 0 rfl) ?_
  refine lv_sipush (v := 9999) hx hb dX6_isDay_5 (by decide) ?_
  refine lv_icmp_gt (tgt := 15) hx hb dX6_isDay_8 (by decide) (fun hc => ?_) (fun hc => ?_)
  · have hw := hw.1 hc
    refine lv_iconst (v := 0) hx hb dX6_isDay_15 (by decide) ?_
    exact hret _ _ _ _ _ _ dX6_isDay_16 isB0 ⟨hw, rfl⟩ hI hS
  have hw := hw.2 hc
  refine lv_iconst (v := 1) hx hb dX6_isDay_11 (by decide) ?_
  refine lv_goto (tgt := 16) hx hb dX6_isDay_12 (by decide) ?_
  exact hret _ _ _ _ _ _ dX6_isDay_16 isB1 ⟨hw, rfl⟩ hI hS
set_option maxRecDepth 100000 in
set_option maxHeartbeats 4000000 in
theorem cm_X6_adds (l : Launch) (g : wG) {σ : wS} {x1 : Int32} {x2 : Int32} {x3 : Int32} {x4 : Int32} {x5 : Int32} {Q : Int32 → wS → Prop} (hw : wm_X6_adds Q x1 x2 x3 x4 x5 σ) : Met l yX6_adds wsX6_adds ({ frames := 1, cells := 0, slots := 0, locals := 21 } : Room) (va_Pc [.ref (g.2.1 0), .int x1, .int x2, .int x3, .int x4, .int x5] (fun U => mIn g σ U.heap U)) (va_Qi Q (fun σ1 t => mIn g σ1 t.heap t) (mA g)) 0 0 (mA g) := by
  refine gOfI (maxL := 6) (mMv g) (by decide) rfl (Nat.le_of_ble_eq_true rfl) ?_
  intro p e s m args below meth c QQ hx hb hml hown hts hret ls hl hI
  have hl : lv_has ls 6 [(0, .ref (g.2.1 0)), (1, .int x1), (2, .int x2), (3, .int x3), (4, .int x4), (5, .int x5)] := hl
  have hS : va_S (mA g) s.heap s.heap [] := va_S.rf
  have hF : ∀ w ∈ wsX60, w.before args s = true := fun w h => hts w (List.mem_cons_of_mem _ (List.mem_append_right _ h))
  refine lv_aload_n hx hb dX6_adds_0 rfl (lv_at hl 0 rfl) ?_
  refine mG_X6_facts hx hb hF hown hI (hts _ (List.mem_of_getElem? (i := 1) rfl : (Cond.fieldLink RX6 119 "PlateRoomModel" "facts" "I" : Cond) ∈ wsX6_adds)) dX6_adds_1 ?_
  refine lv_bipush (v := 100) hx hb dX6_adds_4 (by decide) ?_
  refine lv_icmp_ne (tgt := 15) hx hb dX6_adds_6 (by decide) (fun hc => ?_) (fun hc => ?_)
  · have hw := hw.1 hc
    refine lv_aload_n hx hb dX6_adds_15 rfl (lv_at hl 0 rfl) ?_
    refine mG_X6_kind hx hb hF hown hI (hts _ (List.mem_of_getElem? (i := 2) rfl : (Cond.fieldLink RX6 7 "PlateRoomModel" "kind" "[I" : Cond) ∈ wsX6_adds)) dX6_adds_16 ?_
    refine lv_aload_n hx hb dX6_adds_19 rfl (lv_at hl 0 rfl) ?_
    refine mG_X6_facts hx hb hF hown hI (hts _ (List.mem_of_getElem? (i := 1) rfl : (Cond.fieldLink RX6 119 "PlateRoomModel" "facts" "I" : Cond) ∈ wsX6_adds)) dX6_adds_20 ?_
    refine lv_iload_n hx hb dX6_adds_23 rfl (lv_at hl 1 rfl) ?_
    have hin := hw.1
    have hw := hw.2
    refine mS_X6_kind hx hb hI hS hin dX6_adds_24 (fun σ1 eσ1 H locs hI hS => ?_)
    have hw := hw σ1 eσ1
    refine lv_aload_n hx hb dX6_adds_25 rfl (lv_at hl 0 rfl) ?_
    refine mG_X6_first hx hb hF hown hI (hts _ (List.mem_of_getElem? (i := 3) rfl : (Cond.fieldLink RX6 13 "PlateRoomModel" "first" "[I" : Cond) ∈ wsX6_adds)) dX6_adds_26 ?_
    refine lv_aload_n hx hb dX6_adds_29 rfl (lv_at hl 0 rfl) ?_
    refine mG_X6_facts hx hb hF hown hI (hts _ (List.mem_of_getElem? (i := 1) rfl : (Cond.fieldLink RX6 119 "PlateRoomModel" "facts" "I" : Cond) ∈ wsX6_adds)) dX6_adds_30 ?_
    refine lv_iload_n hx hb dX6_adds_33 rfl (lv_at hl 2 rfl) ?_
    have hin := hw.1
    have hw := hw.2
    refine mS_X6_first hx hb hI hS hin dX6_adds_34 (fun σ2 eσ2 H locs hI hS => ?_)
    have hw := hw σ2 eσ2
    refine lv_aload_n hx hb dX6_adds_35 rfl (lv_at hl 0 rfl) ?_
    refine mG_X6_second hx hb hF hown hI (hts _ (List.mem_of_getElem? (i := 4) rfl : (Cond.fieldLink RX6 16 "PlateRoomModel" "second" "[I" : Cond) ∈ wsX6_adds)) dX6_adds_36 ?_
    refine lv_aload_n hx hb dX6_adds_39 rfl (lv_at hl 0 rfl) ?_
    refine mG_X6_facts hx hb hF hown hI (hts _ (List.mem_of_getElem? (i := 1) rfl : (Cond.fieldLink RX6 119 "PlateRoomModel" "facts" "I" : Cond) ∈ wsX6_adds)) dX6_adds_40 ?_
    refine lv_iload_n hx hb dX6_adds_43 rfl (lv_at hl 3 rfl) ?_
    have hin := hw.1
    have hw := hw.2
    refine mS_X6_second hx hb hI hS hin dX6_adds_44 (fun σ3 eσ3 H locs hI hS => ?_)
    have hw := hw σ3 eσ3
    refine lv_aload_n hx hb dX6_adds_45 rfl (lv_at hl 0 rfl) ?_
    refine mG_X6_third hx hb hF hown hI (hts _ (List.mem_of_getElem? (i := 5) rfl : (Cond.fieldLink RX6 19 "PlateRoomModel" "third" "[I" : Cond) ∈ wsX6_adds)) dX6_adds_46 ?_
    refine lv_aload_n hx hb dX6_adds_49 rfl (lv_at hl 0 rfl) ?_
    refine mG_X6_facts hx hb hF hown hI (hts _ (List.mem_of_getElem? (i := 1) rfl : (Cond.fieldLink RX6 119 "PlateRoomModel" "facts" "I" : Cond) ∈ wsX6_adds)) dX6_adds_50 ?_
    refine lv_iload hx hb dX6_adds_53 (lv_at hl 4 rfl) ?_
    have hin := hw.1
    have hw := hw.2
    refine mS_X6_third hx hb hI hS hin dX6_adds_55 (fun σ4 eσ4 H locs hI hS => ?_)
    have hw := hw σ4 eσ4
    refine lv_aload_n hx hb dX6_adds_56 rfl (lv_at hl 0 rfl) ?_
    refine mG_X6_told hx hb hF hown hI (hts _ (List.mem_of_getElem? (i := 6) rfl : (Cond.fieldLink RX6 22 "PlateRoomModel" "told" "[I" : Cond) ∈ wsX6_adds)) dX6_adds_57 ?_
    refine lv_aload_n hx hb dX6_adds_60 rfl (lv_at hl 0 rfl) ?_
    refine mG_X6_facts hx hb hF hown hI (hts _ (List.mem_of_getElem? (i := 1) rfl : (Cond.fieldLink RX6 119 "PlateRoomModel" "facts" "I" : Cond) ∈ wsX6_adds)) dX6_adds_61 ?_
    refine lv_iload hx hb dX6_adds_64 (lv_at hl 5 rfl) ?_
    have hin := hw.1
    have hw := hw.2
    refine mS_X6_told hx hb hI hS hin dX6_adds_66 (fun σ5 eσ5 H locs hI hS => ?_)
    have hw := hw σ5 eσ5
    refine lv_aload_n hx hb dX6_adds_67 rfl (lv_at hl 0 rfl) ?_
    refine mG_X6_crossed hx hb hF hown hI (hts _ (List.mem_of_getElem? (i := 7) rfl : (Cond.fieldLink RX6 25 "PlateRoomModel" "crossed" "[I" : Cond) ∈ wsX6_adds)) dX6_adds_68 ?_
    refine lv_aload_n hx hb dX6_adds_71 rfl (lv_at hl 0 rfl) ?_
    refine mG_X6_facts hx hb hF hown hI (hts _ (List.mem_of_getElem? (i := 1) rfl : (Cond.fieldLink RX6 119 "PlateRoomModel" "facts" "I" : Cond) ∈ wsX6_adds)) dX6_adds_72 ?_
    refine lv_iconst (v := (-1)) hx hb dX6_adds_75 (by decide) ?_
    have hin := hw.1
    have hw := hw.2
    refine mS_X6_crossed hx hb hI hS hin dX6_adds_76 (fun σ6 eσ6 H locs hI hS => ?_)
    have hw := hw σ6 eσ6
    refine lv_aload_n hx hb dX6_adds_77 rfl (lv_at hl 0 rfl) ?_
    refine lv_dup hx hb dX6_adds_78 rfl ?_
    refine mG_X6_facts hx hb hF hown hI (hts _ (List.mem_of_getElem? (i := 1) rfl : (Cond.fieldLink RX6 119 "PlateRoomModel" "facts" "I" : Cond) ∈ wsX6_adds)) dX6_adds_79 ?_
    refine lv_iconst (v := 1) hx hb dX6_adds_82 (by decide) ?_
    refine lv_iadd hx hb dX6_adds_83 ?_
    refine mP_X6_facts hx hb hF hown hI hS (hts _ (List.mem_of_getElem? (i := 1) rfl : (Cond.fieldLink RX6 119 "PlateRoomModel" "facts" "I" : Cond) ∈ wsX6_adds)) dX6_adds_84 (fun σ7 eσ7 H locs hI hS => ?_)
    have hw := hw σ7 eσ7
    refine lv_aload_n hx hb dX6_adds_87 rfl (lv_at hl 0 rfl) ?_
    refine mG_X6_facts hx hb hF hown hI (hts _ (List.mem_of_getElem? (i := 1) rfl : (Cond.fieldLink RX6 119 "PlateRoomModel" "facts" "I" : Cond) ∈ wsX6_adds)) dX6_adds_88 ?_
    refine lv_iconst (v := 1) hx hb dX6_adds_91 (by decide) ?_
    refine lv_isub hx hb dX6_adds_92 ?_
    exact hret _ _ _ _ _ _ dX6_adds_93 hw hI hS
  have hw := hw.2 hc
  refine lv_aload_n hx hb dX6_adds_9 rfl (lv_at hl 0 rfl) ?_
  refine lv_iconst (v := 3) hx hb dX6_adds_10 (by decide) ?_
  refine gVi (cm_X6_refuse l g (σ := σ) hw) (mMv g) ⟨hx, hb, hml, hown, hts⟩ (cwV 1 hts gX6_adds_X6_refuse rfl rfl rfl (by decide +kernel) ⟨Nat.le_of_ble_eq_true rfl, Nat.le_of_ble_eq_true rfl⟩) (mRecv_X6 hI) hI hS hl.1 rfl rfl (Nat.le_of_ble_eq_true rfl) dX6_adds_11 (fun r8 σ9 H locs hw hI hS => ?_)
  exact hret _ _ _ _ _ _ dX6_adds_14 hw hI hS
set_option maxRecDepth 100000 in
set_option maxHeartbeats 4000000 in
theorem cm_X6_shows (l : Launch) (g : wG) {σ : wS} {x1 : Int32} {x2 : Int32} {x3 : Int32} {Q : Int32 → wS → Prop} (hw : wm_X6_shows Q x1 x2 x3 σ) : Met l yX6_shows wsX6_shows ({ frames := 2, cells := 0, slots := 0, locals := 46 } : Room) (va_Pc [.ref (g.2.1 0), .int x1, .int x2, .int x3] (fun U => mIn g σ U.heap U)) (va_Qi Q (fun σ1 t => mIn g σ1 t.heap t) (mA g)) 0 0 (mA g) := by
  refine gOfI (maxL := 4) (mMv g) (by decide) rfl (Nat.le_of_ble_eq_true rfl) ?_
  intro p e s m args below meth c QQ hx hb hml hown hts hret ls hl hI
  have hl : lv_has ls 4 [(0, .ref (g.2.1 0)), (1, .int x1), (2, .int x2), (3, .int x3)] := hl
  have hS : va_S (mA g) s.heap s.heap [] := va_S.rf
  have hF : ∀ w ∈ wsX60, w.before args s = true := fun w h => hts w (List.mem_cons_of_mem _ (List.mem_append_right _ h))
  refine lv_aload_n hx hb dX6_shows_0 rfl (lv_at hl 0 rfl) ?_
  refine lv_iconst (v := 0) hx hb dX6_shows_1 (by decide) ?_
  refine mP_X6_thrown hx hb hF hown hI hS (hts _ (List.mem_of_getElem? (i := 1) rfl : (Cond.fieldLink RX6 101 "PlateRoomModel" "thrown" "I" : Cond) ∈ wsX6_shows)) dX6_shows_2 (fun σ1 eσ1 H locs hI hS => ?_)
  have hw := hw σ1 eσ1
  refine lv_aload_n hx hb dX6_shows_5 rfl (lv_at hl 0 rfl) ?_
  refine lv_iconst (v := 0) hx hb dX6_shows_6 (by decide) ?_
  refine mP_X6_status hx hb hF hown hI hS (hts _ (List.mem_of_getElem? (i := 2) rfl : (Cond.fieldLink RX6 105 "PlateRoomModel" "status" "I" : Cond) ∈ wsX6_shows)) dX6_shows_7 (fun σ2 eσ2 H locs hI hS => ?_)
  have hw := hw σ2 eσ2
  refine lv_aload_n hx hb dX6_shows_10 rfl (lv_at hl 0 rfl) ?_
  refine lv_iload_n hx hb dX6_shows_11 rfl (lv_at hl 1 rfl) ?_
  refine gVi (cm_X6_isPlate l g (σ := σ2) hw) (mMv g) ⟨hx, hb, hml, hown, hts⟩ (cwV 1 hts gX6_shows_X6_isPlate rfl rfl rfl (by decide +kernel) ⟨Nat.le_of_ble_eq_true rfl, Nat.le_of_ble_eq_true rfl⟩) (mRecv_X6 hI) hI hS hl.1 rfl rfl (Nat.le_of_ble_eq_true rfl) dX6_shows_12 (fun r3 σ4 H locs hw hI hS => ?_)
  obtain ⟨hw, hq⟩ := hw
  rw [hq] at hI
  refine lv_if_eq (tgt := 26) hx hb dX6_shows_15 (by decide) (fun hc => ?_) (fun hc => ?_)
  · have hw := hw.1 hc
    refine lv_aload_n hx hb dX6_shows_26 rfl (lv_at hl 0 rfl) ?_
    refine lv_iconst (v := 1) hx hb dX6_shows_27 (by decide) ?_
    refine gVi (cm_X6_refuse l g (σ := σ2) hw) (mMv g) ⟨hx, hb, hml, hown, hts⟩ (cwV 1 hts gX6_shows_X6_refuse rfl rfl rfl (by decide +kernel) ⟨Nat.le_of_ble_eq_true rfl, Nat.le_of_ble_eq_true rfl⟩) (mRecv_X6 hI) hI hS hl.1 rfl rfl (Nat.le_of_ble_eq_true rfl) dX6_shows_28 (fun r5 σ6 H locs hw hI hS => ?_)
    exact hret _ _ _ _ _ _ dX6_shows_31 hw hI hS
  have hw := hw.2 hc
  refine lv_aload_n hx hb dX6_shows_18 rfl (lv_at hl 0 rfl) ?_
  refine lv_iload_n hx hb dX6_shows_19 rfl (lv_at hl 2 rfl) ?_
  refine gVi (cm_X6_isMotif l g (σ := σ2) hw) (mMv g) ⟨hx, hb, hml, hown, hts⟩ (cwV 1 hts gX6_shows_X6_isMotif rfl rfl rfl (by decide +kernel) ⟨Nat.le_of_ble_eq_true rfl, Nat.le_of_ble_eq_true rfl⟩) (mRecv_X6 hI) hI hS hl.1 rfl rfl (Nat.le_of_ble_eq_true rfl) dX6_shows_20 (fun r7 σ8 H locs hw hI hS => ?_)
  obtain ⟨hw, hq⟩ := hw
  rw [hq] at hI
  refine lv_if_ne (tgt := 32) hx hb dX6_shows_23 (by decide) (fun hc => ?_) (fun hc => ?_)
  · have hw := hw.1 hc
    refine lv_iload_n hx hb dX6_shows_32 rfl (lv_at hl 3 rfl) ?_
    refine gSi (cm_X6_isDay l g (σ := σ2) hw) (mMv g) ⟨hx, hb, hml, hown, hts⟩ (va_cwS 1 hts gX6_shows_X6_isDay rfl rfl rfl (by decide +kernel) ⟨Nat.le_of_ble_eq_true rfl, Nat.le_of_ble_eq_true rfl⟩) hI hS hl.1 rfl rfl (Nat.le_of_ble_eq_true rfl) dX6_shows_33 (fun r9 σ10 H locs hw hI hS => ?_)
    obtain ⟨hw, hq⟩ := hw
    rw [hq] at hI
    refine lv_if_eq (tgt := 51) hx hb dX6_shows_36 (by decide) (fun hc => ?_) (fun hc => ?_)
    · have hw := hw.1 hc
      refine lv_aload_n hx hb dX6_shows_51 rfl (lv_at hl 0 rfl) ?_
      refine lv_iconst (v := 2) hx hb dX6_shows_52 (by decide) ?_
      refine gVi (cm_X6_refuse l g (σ := σ2) hw) (mMv g) ⟨hx, hb, hml, hown, hts⟩ (cwV 1 hts gX6_shows_X6_refuse rfl rfl rfl (by decide +kernel) ⟨Nat.le_of_ble_eq_true rfl, Nat.le_of_ble_eq_true rfl⟩) (mRecv_X6 hI) hI hS hl.1 rfl rfl (Nat.le_of_ble_eq_true rfl) dX6_shows_53 (fun r11 σ12 H locs hw hI hS => ?_)
      exact hret _ _ _ _ _ _ dX6_shows_56 hw hI hS
    have hw := hw.2 hc
    refine lv_aload_n hx hb dX6_shows_39 rfl (lv_at hl 0 rfl) ?_
    refine lv_iconst (v := 0) hx hb dX6_shows_40 (by decide) ?_
    refine lv_iload_n hx hb dX6_shows_41 rfl (lv_at hl 1 rfl) ?_
    refine lv_iload_n hx hb dX6_shows_42 rfl (lv_at hl 2 rfl) ?_
    refine lv_iconst (v := 0) hx hb dX6_shows_43 (by decide) ?_
    refine lv_iload_n hx hb dX6_shows_44 rfl (lv_at hl 3 rfl) ?_
    refine gVi (cm_X6_adds l g (σ := σ2) hw) (mMv g) ⟨hx, hb, hml, hown, hts⟩ (cwV 5 hts gX6_shows_X6_adds rfl rfl rfl (by decide +kernel) ⟨Nat.le_of_ble_eq_true rfl, Nat.le_of_ble_eq_true rfl⟩) (mRecv_X6 hI) hI hS hl.1 rfl rfl (Nat.le_of_ble_eq_true rfl) dX6_shows_45 (fun r13 σ14 H locs hw hI hS => ?_)
    refine lv_goto (tgt := 56) hx hb dX6_shows_48 (by decide) ?_
    exact hret _ _ _ _ _ _ dX6_shows_56 hw hI hS
  have hw := hw.2 hc
  refine lv_aload_n hx hb dX6_shows_26 rfl (lv_at hl 0 rfl) ?_
  refine lv_iconst (v := 1) hx hb dX6_shows_27 (by decide) ?_
  refine gVi (cm_X6_refuse l g (σ := σ2) hw) (mMv g) ⟨hx, hb, hml, hown, hts⟩ (cwV 1 hts gX6_shows_X6_refuse rfl rfl rfl (by decide +kernel) ⟨Nat.le_of_ble_eq_true rfl, Nat.le_of_ble_eq_true rfl⟩) (mRecv_X6 hI) hI hS hl.1 rfl rfl (Nat.le_of_ble_eq_true rfl) dX6_shows_28 (fun r15 σ16 H locs hw hI hS => ?_)
  exact hret _ _ _ _ _ _ dX6_shows_31 hw hI hS
set_option maxRecDepth 100000 in
set_option maxHeartbeats 4000000 in
theorem cm_X6_ahead (l : Launch) (g : wG) {σ : wS} {x1 : Int32} {x2 : Int32} {x3 : Int32} {x4 : Int32} {Q : Int32 → wS → Prop} (hw : wm_X6_ahead Q x1 x2 x3 x4 σ) : Met l yX6_ahead wsX6_ahead ({ frames := 2, cells := 0, slots := 0, locals := 46 } : Room) (va_Pc [.ref (g.2.1 0), .int x1, .int x2, .int x3, .int x4] (fun U => mIn g σ U.heap U)) (va_Qi Q (fun σ1 t => mIn g σ1 t.heap t) (mA g)) 0 0 (mA g) := by
  refine gOfI (maxL := 5) (mMv g) (by decide) rfl (Nat.le_of_ble_eq_true rfl) ?_
  intro p e s m args below meth c QQ hx hb hml hown hts hret ls hl hI
  have hl : lv_has ls 5 [(0, .ref (g.2.1 0)), (1, .int x1), (2, .int x2), (3, .int x3), (4, .int x4)] := hl
  have hS : va_S (mA g) s.heap s.heap [] := va_S.rf
  have hF : ∀ w ∈ wsX60, w.before args s = true := fun w h => hts w (List.mem_cons_of_mem _ (List.mem_append_right _ h))
  refine lv_aload_n hx hb dX6_ahead_0 rfl (lv_at hl 0 rfl) ?_
  refine lv_iconst (v := 0) hx hb dX6_ahead_1 (by decide) ?_
  refine mP_X6_thrown hx hb hF hown hI hS (hts _ (List.mem_of_getElem? (i := 1) rfl : (Cond.fieldLink RX6 101 "PlateRoomModel" "thrown" "I" : Cond) ∈ wsX6_ahead)) dX6_ahead_2 (fun σ1 eσ1 H locs hI hS => ?_)
  have hw := hw σ1 eσ1
  refine lv_aload_n hx hb dX6_ahead_5 rfl (lv_at hl 0 rfl) ?_
  refine lv_iconst (v := 0) hx hb dX6_ahead_6 (by decide) ?_
  refine mP_X6_status hx hb hF hown hI hS (hts _ (List.mem_of_getElem? (i := 2) rfl : (Cond.fieldLink RX6 105 "PlateRoomModel" "status" "I" : Cond) ∈ wsX6_ahead)) dX6_ahead_7 (fun σ2 eσ2 H locs hI hS => ?_)
  have hw := hw σ2 eσ2
  refine lv_aload_n hx hb dX6_ahead_10 rfl (lv_at hl 0 rfl) ?_
  refine lv_iload_n hx hb dX6_ahead_11 rfl (lv_at hl 1 rfl) ?_
  refine gVi (cm_X6_isPlate l g (σ := σ2) hw) (mMv g) ⟨hx, hb, hml, hown, hts⟩ (cwV 1 hts gX6_ahead_X6_isPlate rfl rfl rfl (by decide +kernel) ⟨Nat.le_of_ble_eq_true rfl, Nat.le_of_ble_eq_true rfl⟩) (mRecv_X6 hI) hI hS hl.1 rfl rfl (Nat.le_of_ble_eq_true rfl) dX6_ahead_12 (fun r3 σ4 H locs hw hI hS => ?_)
  obtain ⟨hw, hq⟩ := hw
  rw [hq] at hI
  refine lv_if_eq (tgt := 31) hx hb dX6_ahead_15 (by decide) (fun hc => ?_) (fun hc => ?_)
  · have hw := hw.1 hc
    refine lv_aload_n hx hb dX6_ahead_31 rfl (lv_at hl 0 rfl) ?_
    refine lv_iconst (v := 1) hx hb dX6_ahead_32 (by decide) ?_
    refine gVi (cm_X6_refuse l g (σ := σ2) hw) (mMv g) ⟨hx, hb, hml, hown, hts⟩ (cwV 1 hts gX6_ahead_X6_refuse rfl rfl rfl (by decide +kernel) ⟨Nat.le_of_ble_eq_true rfl, Nat.le_of_ble_eq_true rfl⟩) (mRecv_X6 hI) hI hS hl.1 rfl rfl (Nat.le_of_ble_eq_true rfl) dX6_ahead_33 (fun r5 σ6 H locs hw hI hS => ?_)
    exact hret _ _ _ _ _ _ dX6_ahead_36 hw hI hS
  have hw := hw.2 hc
  refine lv_aload_n hx hb dX6_ahead_18 rfl (lv_at hl 0 rfl) ?_
  refine lv_iload_n hx hb dX6_ahead_19 rfl (lv_at hl 2 rfl) ?_
  refine gVi (cm_X6_isPlate l g (σ := σ2) hw) (mMv g) ⟨hx, hb, hml, hown, hts⟩ (cwV 1 hts gX6_ahead_X6_isPlate rfl rfl rfl (by decide +kernel) ⟨Nat.le_of_ble_eq_true rfl, Nat.le_of_ble_eq_true rfl⟩) (mRecv_X6 hI) hI hS hl.1 rfl rfl (Nat.le_of_ble_eq_true rfl) dX6_ahead_20 (fun r7 σ8 H locs hw hI hS => ?_)
  obtain ⟨hw, hq⟩ := hw
  rw [hq] at hI
  refine lv_if_eq (tgt := 31) hx hb dX6_ahead_23 (by decide) (fun hc => ?_) (fun hc => ?_)
  · have hw := hw.1 hc
    refine lv_aload_n hx hb dX6_ahead_31 rfl (lv_at hl 0 rfl) ?_
    refine lv_iconst (v := 1) hx hb dX6_ahead_32 (by decide) ?_
    refine gVi (cm_X6_refuse l g (σ := σ2) hw) (mMv g) ⟨hx, hb, hml, hown, hts⟩ (cwV 1 hts gX6_ahead_X6_refuse rfl rfl rfl (by decide +kernel) ⟨Nat.le_of_ble_eq_true rfl, Nat.le_of_ble_eq_true rfl⟩) (mRecv_X6 hI) hI hS hl.1 rfl rfl (Nat.le_of_ble_eq_true rfl) dX6_ahead_33 (fun r9 σ10 H locs hw hI hS => ?_)
    exact hret _ _ _ _ _ _ dX6_ahead_36 hw hI hS
  have hw := hw.2 hc
  refine lv_iload_n hx hb dX6_ahead_26 rfl (lv_at hl 1 rfl) ?_
  refine lv_iload_n hx hb dX6_ahead_27 rfl (lv_at hl 2 rfl) ?_
  refine lv_icmp_ne (tgt := 37) hx hb dX6_ahead_28 (by decide) (fun hc => ?_) (fun hc => ?_)
  · have hw := hw.1 hc
    refine lv_iload hx hb dX6_ahead_37 (lv_at hl 4 rfl) ?_
    refine gSi (cm_X6_isDay l g (σ := σ2) hw) (mMv g) ⟨hx, hb, hml, hown, hts⟩ (va_cwS 1 hts gX6_ahead_X6_isDay rfl rfl rfl (by decide +kernel) ⟨Nat.le_of_ble_eq_true rfl, Nat.le_of_ble_eq_true rfl⟩) hI hS hl.1 rfl rfl (Nat.le_of_ble_eq_true rfl) dX6_ahead_39 (fun r11 σ12 H locs hw hI hS => ?_)
    obtain ⟨hw, hq⟩ := hw
    rw [hq] at hI
    refine lv_if_eq (tgt := 70) hx hb dX6_ahead_42 (by decide) (fun hc => ?_) (fun hc => ?_)
    · have hw := hw.1 hc
      refine lv_aload_n hx hb dX6_ahead_70 rfl (lv_at hl 0 rfl) ?_
      refine lv_iconst (v := 2) hx hb dX6_ahead_71 (by decide) ?_
      refine gVi (cm_X6_refuse l g (σ := σ2) hw) (mMv g) ⟨hx, hb, hml, hown, hts⟩ (cwV 1 hts gX6_ahead_X6_refuse rfl rfl rfl (by decide +kernel) ⟨Nat.le_of_ble_eq_true rfl, Nat.le_of_ble_eq_true rfl⟩) (mRecv_X6 hI) hI hS hl.1 rfl rfl (Nat.le_of_ble_eq_true rfl) dX6_ahead_72 (fun r13 σ14 H locs hw hI hS => ?_)
      exact hret _ _ _ _ _ _ dX6_ahead_75 hw hI hS
    have hw := hw.2 hc
    refine lv_iload_n hx hb dX6_ahead_45 rfl (lv_at hl 3 rfl) ?_
    refine lv_ldc (own := RX6) hx hb hown (hts _ (List.mem_of_getElem? (i := 3) rfl : (Cond.constant RX6 136 (-100000) : Cond) ∈ wsX6_ahead)) dX6_ahead_46 ?_
    refine lv_icmp_lt (tgt := 70) hx hb dX6_ahead_48 (by decide) (fun hc => ?_) (fun hc => ?_)
    · have hw := hw.1 hc
      refine lv_aload_n hx hb dX6_ahead_70 rfl (lv_at hl 0 rfl) ?_
      refine lv_iconst (v := 2) hx hb dX6_ahead_71 (by decide) ?_
      refine gVi (cm_X6_refuse l g (σ := σ2) hw) (mMv g) ⟨hx, hb, hml, hown, hts⟩ (cwV 1 hts gX6_ahead_X6_refuse rfl rfl rfl (by decide +kernel) ⟨Nat.le_of_ble_eq_true rfl, Nat.le_of_ble_eq_true rfl⟩) (mRecv_X6 hI) hI hS hl.1 rfl rfl (Nat.le_of_ble_eq_true rfl) dX6_ahead_72 (fun r15 σ16 H locs hw hI hS => ?_)
      exact hret _ _ _ _ _ _ dX6_ahead_75 hw hI hS
    have hw := hw.2 hc
    refine lv_iload_n hx hb dX6_ahead_51 rfl (lv_at hl 3 rfl) ?_
    refine lv_ldc (own := RX6) hx hb hown (hts _ (List.mem_of_getElem? (i := 4) rfl : (Cond.constant RX6 114 (100000) : Cond) ∈ wsX6_ahead)) dX6_ahead_52 ?_
    refine lv_icmp_gt (tgt := 70) hx hb dX6_ahead_54 (by decide) (fun hc => ?_) (fun hc => ?_)
    · have hw := hw.1 hc
      refine lv_aload_n hx hb dX6_ahead_70 rfl (lv_at hl 0 rfl) ?_
      refine lv_iconst (v := 2) hx hb dX6_ahead_71 (by decide) ?_
      refine gVi (cm_X6_refuse l g (σ := σ2) hw) (mMv g) ⟨hx, hb, hml, hown, hts⟩ (cwV 1 hts gX6_ahead_X6_refuse rfl rfl rfl (by decide +kernel) ⟨Nat.le_of_ble_eq_true rfl, Nat.le_of_ble_eq_true rfl⟩) (mRecv_X6 hI) hI hS hl.1 rfl rfl (Nat.le_of_ble_eq_true rfl) dX6_ahead_72 (fun r17 σ18 H locs hw hI hS => ?_)
      exact hret _ _ _ _ _ _ dX6_ahead_75 hw hI hS
    have hw := hw.2 hc
    refine lv_aload_n hx hb dX6_ahead_57 rfl (lv_at hl 0 rfl) ?_
    refine lv_iconst (v := 1) hx hb dX6_ahead_58 (by decide) ?_
    refine lv_iload_n hx hb dX6_ahead_59 rfl (lv_at hl 1 rfl) ?_
    refine lv_iload_n hx hb dX6_ahead_60 rfl (lv_at hl 2 rfl) ?_
    refine lv_iload_n hx hb dX6_ahead_61 rfl (lv_at hl 3 rfl) ?_
    refine lv_iload hx hb dX6_ahead_62 (lv_at hl 4 rfl) ?_
    refine gVi (cm_X6_adds l g (σ := σ2) hw) (mMv g) ⟨hx, hb, hml, hown, hts⟩ (cwV 5 hts gX6_ahead_X6_adds rfl rfl rfl (by decide +kernel) ⟨Nat.le_of_ble_eq_true rfl, Nat.le_of_ble_eq_true rfl⟩) (mRecv_X6 hI) hI hS hl.1 rfl rfl (Nat.le_of_ble_eq_true rfl) dX6_ahead_64 (fun r19 σ20 H locs hw hI hS => ?_)
    refine lv_goto (tgt := 75) hx hb dX6_ahead_67 (by decide) ?_
    exact hret _ _ _ _ _ _ dX6_ahead_75 hw hI hS
  have hw := hw.2 hc
  refine lv_aload_n hx hb dX6_ahead_31 rfl (lv_at hl 0 rfl) ?_
  refine lv_iconst (v := 1) hx hb dX6_ahead_32 (by decide) ?_
  refine gVi (cm_X6_refuse l g (σ := σ2) hw) (mMv g) ⟨hx, hb, hml, hown, hts⟩ (cwV 1 hts gX6_ahead_X6_refuse rfl rfl rfl (by decide +kernel) ⟨Nat.le_of_ble_eq_true rfl, Nat.le_of_ble_eq_true rfl⟩) (mRecv_X6 hI) hI hS hl.1 rfl rfl (Nat.le_of_ble_eq_true rfl) dX6_ahead_33 (fun r21 σ22 H locs hw hI hS => ?_)
  exact hret _ _ _ _ _ _ dX6_ahead_36 hw hI hS
set_option maxRecDepth 100000 in
set_option maxHeartbeats 4000000 in
theorem cm_X6_same (l : Launch) (g : wG) {σ : wS} {x1 : Int32} {x2 : Int32} {x3 : Int32} {Q : Int32 → wS → Prop} (hw : wm_X6_same Q x1 x2 x3 σ) : Met l yX6_same wsX6_same ({ frames := 2, cells := 0, slots := 0, locals := 46 } : Room) (va_Pc [.ref (g.2.1 0), .int x1, .int x2, .int x3] (fun U => mIn g σ U.heap U)) (va_Qi Q (fun σ1 t => mIn g σ1 t.heap t) (mA g)) 0 0 (mA g) := by
  refine gOfI (maxL := 4) (mMv g) (by decide) rfl (Nat.le_of_ble_eq_true rfl) ?_
  intro p e s m args below meth c QQ hx hb hml hown hts hret ls hl hI
  have hl : lv_has ls 4 [(0, .ref (g.2.1 0)), (1, .int x1), (2, .int x2), (3, .int x3)] := hl
  have hS : va_S (mA g) s.heap s.heap [] := va_S.rf
  have hF : ∀ w ∈ wsX60, w.before args s = true := fun w h => hts w (List.mem_cons_of_mem _ (List.mem_append_right _ h))
  refine lv_aload_n hx hb dX6_same_0 rfl (lv_at hl 0 rfl) ?_
  refine lv_iconst (v := 0) hx hb dX6_same_1 (by decide) ?_
  refine mP_X6_thrown hx hb hF hown hI hS (hts _ (List.mem_of_getElem? (i := 1) rfl : (Cond.fieldLink RX6 101 "PlateRoomModel" "thrown" "I" : Cond) ∈ wsX6_same)) dX6_same_2 (fun σ1 eσ1 H locs hI hS => ?_)
  have hw := hw σ1 eσ1
  refine lv_aload_n hx hb dX6_same_5 rfl (lv_at hl 0 rfl) ?_
  refine lv_iconst (v := 0) hx hb dX6_same_6 (by decide) ?_
  refine mP_X6_status hx hb hF hown hI hS (hts _ (List.mem_of_getElem? (i := 2) rfl : (Cond.fieldLink RX6 105 "PlateRoomModel" "status" "I" : Cond) ∈ wsX6_same)) dX6_same_7 (fun σ2 eσ2 H locs hI hS => ?_)
  have hw := hw σ2 eσ2
  refine lv_aload_n hx hb dX6_same_10 rfl (lv_at hl 0 rfl) ?_
  refine lv_iload_n hx hb dX6_same_11 rfl (lv_at hl 1 rfl) ?_
  refine gVi (cm_X6_isPlate l g (σ := σ2) hw) (mMv g) ⟨hx, hb, hml, hown, hts⟩ (cwV 1 hts gX6_same_X6_isPlate rfl rfl rfl (by decide +kernel) ⟨Nat.le_of_ble_eq_true rfl, Nat.le_of_ble_eq_true rfl⟩) (mRecv_X6 hI) hI hS hl.1 rfl rfl (Nat.le_of_ble_eq_true rfl) dX6_same_12 (fun r3 σ4 H locs hw hI hS => ?_)
  obtain ⟨hw, hq⟩ := hw
  rw [hq] at hI
  refine lv_if_eq (tgt := 31) hx hb dX6_same_15 (by decide) (fun hc => ?_) (fun hc => ?_)
  · have hw := hw.1 hc
    refine lv_aload_n hx hb dX6_same_31 rfl (lv_at hl 0 rfl) ?_
    refine lv_iconst (v := 1) hx hb dX6_same_32 (by decide) ?_
    refine gVi (cm_X6_refuse l g (σ := σ2) hw) (mMv g) ⟨hx, hb, hml, hown, hts⟩ (cwV 1 hts gX6_same_X6_refuse rfl rfl rfl (by decide +kernel) ⟨Nat.le_of_ble_eq_true rfl, Nat.le_of_ble_eq_true rfl⟩) (mRecv_X6 hI) hI hS hl.1 rfl rfl (Nat.le_of_ble_eq_true rfl) dX6_same_33 (fun r5 σ6 H locs hw hI hS => ?_)
    exact hret _ _ _ _ _ _ dX6_same_36 hw hI hS
  have hw := hw.2 hc
  refine lv_aload_n hx hb dX6_same_18 rfl (lv_at hl 0 rfl) ?_
  refine lv_iload_n hx hb dX6_same_19 rfl (lv_at hl 2 rfl) ?_
  refine gVi (cm_X6_isPlate l g (σ := σ2) hw) (mMv g) ⟨hx, hb, hml, hown, hts⟩ (cwV 1 hts gX6_same_X6_isPlate rfl rfl rfl (by decide +kernel) ⟨Nat.le_of_ble_eq_true rfl, Nat.le_of_ble_eq_true rfl⟩) (mRecv_X6 hI) hI hS hl.1 rfl rfl (Nat.le_of_ble_eq_true rfl) dX6_same_20 (fun r7 σ8 H locs hw hI hS => ?_)
  obtain ⟨hw, hq⟩ := hw
  rw [hq] at hI
  refine lv_if_eq (tgt := 31) hx hb dX6_same_23 (by decide) (fun hc => ?_) (fun hc => ?_)
  · have hw := hw.1 hc
    refine lv_aload_n hx hb dX6_same_31 rfl (lv_at hl 0 rfl) ?_
    refine lv_iconst (v := 1) hx hb dX6_same_32 (by decide) ?_
    refine gVi (cm_X6_refuse l g (σ := σ2) hw) (mMv g) ⟨hx, hb, hml, hown, hts⟩ (cwV 1 hts gX6_same_X6_refuse rfl rfl rfl (by decide +kernel) ⟨Nat.le_of_ble_eq_true rfl, Nat.le_of_ble_eq_true rfl⟩) (mRecv_X6 hI) hI hS hl.1 rfl rfl (Nat.le_of_ble_eq_true rfl) dX6_same_33 (fun r9 σ10 H locs hw hI hS => ?_)
    exact hret _ _ _ _ _ _ dX6_same_36 hw hI hS
  have hw := hw.2 hc
  refine lv_iload_n hx hb dX6_same_26 rfl (lv_at hl 1 rfl) ?_
  refine lv_iload_n hx hb dX6_same_27 rfl (lv_at hl 2 rfl) ?_
  refine lv_icmp_ne (tgt := 37) hx hb dX6_same_28 (by decide) (fun hc => ?_) (fun hc => ?_)
  · have hw := hw.1 hc
    refine lv_iload_n hx hb dX6_same_37 rfl (lv_at hl 3 rfl) ?_
    refine gSi (cm_X6_isDay l g (σ := σ2) hw) (mMv g) ⟨hx, hb, hml, hown, hts⟩ (va_cwS 1 hts gX6_same_X6_isDay rfl rfl rfl (by decide +kernel) ⟨Nat.le_of_ble_eq_true rfl, Nat.le_of_ble_eq_true rfl⟩) hI hS hl.1 rfl rfl (Nat.le_of_ble_eq_true rfl) dX6_same_38 (fun r11 σ12 H locs hw hI hS => ?_)
    obtain ⟨hw, hq⟩ := hw
    rw [hq] at hI
    refine lv_if_eq (tgt := 56) hx hb dX6_same_41 (by decide) (fun hc => ?_) (fun hc => ?_)
    · have hw := hw.1 hc
      refine lv_aload_n hx hb dX6_same_56 rfl (lv_at hl 0 rfl) ?_
      refine lv_iconst (v := 2) hx hb dX6_same_57 (by decide) ?_
      refine gVi (cm_X6_refuse l g (σ := σ2) hw) (mMv g) ⟨hx, hb, hml, hown, hts⟩ (cwV 1 hts gX6_same_X6_refuse rfl rfl rfl (by decide +kernel) ⟨Nat.le_of_ble_eq_true rfl, Nat.le_of_ble_eq_true rfl⟩) (mRecv_X6 hI) hI hS hl.1 rfl rfl (Nat.le_of_ble_eq_true rfl) dX6_same_58 (fun r13 σ14 H locs hw hI hS => ?_)
      exact hret _ _ _ _ _ _ dX6_same_61 hw hI hS
    have hw := hw.2 hc
    refine lv_aload_n hx hb dX6_same_44 rfl (lv_at hl 0 rfl) ?_
    refine lv_iconst (v := 5) hx hb dX6_same_45 (by decide) ?_
    refine lv_iload_n hx hb dX6_same_46 rfl (lv_at hl 1 rfl) ?_
    refine lv_iload_n hx hb dX6_same_47 rfl (lv_at hl 2 rfl) ?_
    refine lv_iconst (v := 0) hx hb dX6_same_48 (by decide) ?_
    refine lv_iload_n hx hb dX6_same_49 rfl (lv_at hl 3 rfl) ?_
    refine gVi (cm_X6_adds l g (σ := σ2) hw) (mMv g) ⟨hx, hb, hml, hown, hts⟩ (cwV 5 hts gX6_same_X6_adds rfl rfl rfl (by decide +kernel) ⟨Nat.le_of_ble_eq_true rfl, Nat.le_of_ble_eq_true rfl⟩) (mRecv_X6 hI) hI hS hl.1 rfl rfl (Nat.le_of_ble_eq_true rfl) dX6_same_50 (fun r15 σ16 H locs hw hI hS => ?_)
    refine lv_goto (tgt := 61) hx hb dX6_same_53 (by decide) ?_
    exact hret _ _ _ _ _ _ dX6_same_61 hw hI hS
  have hw := hw.2 hc
  refine lv_aload_n hx hb dX6_same_31 rfl (lv_at hl 0 rfl) ?_
  refine lv_iconst (v := 1) hx hb dX6_same_32 (by decide) ?_
  refine gVi (cm_X6_refuse l g (σ := σ2) hw) (mMv g) ⟨hx, hb, hml, hown, hts⟩ (cwV 1 hts gX6_same_X6_refuse rfl rfl rfl (by decide +kernel) ⟨Nat.le_of_ble_eq_true rfl, Nat.le_of_ble_eq_true rfl⟩) (mRecv_X6 hI) hI hS hl.1 rfl rfl (Nat.le_of_ble_eq_true rfl) dX6_same_33 (fun r17 σ18 H locs hw hI hS => ?_)
  exact hret _ _ _ _ _ _ dX6_same_36 hw hI hS
set_option maxRecDepth 100000 in
set_option maxHeartbeats 4000000 in
theorem cm_X6_isTime (l : Launch) (g : wG) {σ : wS} {x0 : Int32} {Q : Int32 → Prop} (hw : wm_X6_isTime Q x0) : Met l yX6_isTime wsX6_isTime ({ frames := 0, cells := 0, slots := 0, locals := 0 } : Room) (va_Pc [.int x0] (fun U => mIn g σ U.heap U)) (va_Qi (fun r σ1 => Q r ∧ σ1 = σ) (fun σ1 t => mIn g σ1 t.heap t) (mA g)) 0 0 (mA g) := by
  refine gOfZ (maxL := 1) (mMv g) (by decide) rfl (Nat.le_of_ble_eq_true rfl) ?_
  intro p e s m args below meth c QQ hx hb hml hown hts hret ls hl hI
  have hl : lv_has ls 1 [(0, .int x0)] := hl
  have hS : va_S (mA g) s.heap s.heap [] := va_S.rf
  refine lv_iload_n hx hb dX6_isTime_0 rfl (lv_at hl 0 rfl) ?_
  refine lv_if_lt (tgt := 14) hx hb dX6_isTime_1 (by decide) (fun hc => ?_) (fun hc => ?_)
  · have hw := hw.1 hc
    refine lv_iconst (v := 0) hx hb dX6_isTime_14 (by decide) ?_
    exact hret _ _ _ _ _ _ dX6_isTime_15 isB0 ⟨hw, rfl⟩ hI hS
  have hw := hw.2 hc
  refine lv_iload_n hx hb dX6_isTime_4 rfl (lv_at hl 0 rfl) ?_
  refine lv_ldc (own := RX6) hx hb hown (hts _ (List.mem_of_getElem? (i := 1) rfl : (Cond.constant RX6 114 (100000) : Cond) ∈ wsX6_isTime)) dX6_isTime_5 ?_
  refine lv_icmp_gt (tgt := 14) hx hb dX6_isTime_7 (by decide) (fun hc => ?_) (fun hc => ?_)
  · have hw := hw.1 hc
    refine lv_iconst (v := 0) hx hb dX6_isTime_14 (by decide) ?_
    exact hret _ _ _ _ _ _ dX6_isTime_15 isB0 ⟨hw, rfl⟩ hI hS
  have hw := hw.2 hc
  refine lv_iconst (v := 1) hx hb dX6_isTime_10 (by decide) ?_
  refine lv_goto (tgt := 15) hx hb dX6_isTime_11 (by decide) ?_
  exact hret _ _ _ _ _ _ dX6_isTime_15 isB1 ⟨hw, rfl⟩ hI hS
set_option maxRecDepth 100000 in
set_option maxHeartbeats 4000000 in
theorem cm_X6_taken (l : Launch) (g : wG) {σ : wS} {x1 : Int32} {x2 : Int32} {x3 : Int32} {x4 : Int32} {Q : Int32 → wS → Prop} (hw : wm_X6_taken Q x1 x2 x3 x4 σ) : Met l yX6_taken wsX6_taken ({ frames := 2, cells := 0, slots := 0, locals := 46 } : Room) (va_Pc [.ref (g.2.1 0), .int x1, .int x2, .int x3, .int x4] (fun U => mIn g σ U.heap U)) (va_Qi Q (fun σ1 t => mIn g σ1 t.heap t) (mA g)) 0 0 (mA g) := by
  refine gOfI (maxL := 5) (mMv g) (by decide) rfl (Nat.le_of_ble_eq_true rfl) ?_
  intro p e s m args below meth c QQ hx hb hml hown hts hret ls hl hI
  have hl : lv_has ls 5 [(0, .ref (g.2.1 0)), (1, .int x1), (2, .int x2), (3, .int x3), (4, .int x4)] := hl
  have hS : va_S (mA g) s.heap s.heap [] := va_S.rf
  have hF : ∀ w ∈ wsX60, w.before args s = true := fun w h => hts w (List.mem_cons_of_mem _ (List.mem_append_right _ h))
  refine lv_aload_n hx hb dX6_taken_0 rfl (lv_at hl 0 rfl) ?_
  refine lv_iconst (v := 0) hx hb dX6_taken_1 (by decide) ?_
  refine mP_X6_thrown hx hb hF hown hI hS (hts _ (List.mem_of_getElem? (i := 1) rfl : (Cond.fieldLink RX6 101 "PlateRoomModel" "thrown" "I" : Cond) ∈ wsX6_taken)) dX6_taken_2 (fun σ1 eσ1 H locs hI hS => ?_)
  have hw := hw σ1 eσ1
  refine lv_aload_n hx hb dX6_taken_5 rfl (lv_at hl 0 rfl) ?_
  refine lv_iconst (v := 0) hx hb dX6_taken_6 (by decide) ?_
  refine mP_X6_status hx hb hF hown hI hS (hts _ (List.mem_of_getElem? (i := 2) rfl : (Cond.fieldLink RX6 105 "PlateRoomModel" "status" "I" : Cond) ∈ wsX6_taken)) dX6_taken_7 (fun σ2 eσ2 H locs hI hS => ?_)
  have hw := hw σ2 eσ2
  refine lv_aload_n hx hb dX6_taken_10 rfl (lv_at hl 0 rfl) ?_
  refine lv_iload_n hx hb dX6_taken_11 rfl (lv_at hl 1 rfl) ?_
  refine gVi (cm_X6_isPlate l g (σ := σ2) hw) (mMv g) ⟨hx, hb, hml, hown, hts⟩ (cwV 1 hts gX6_taken_X6_isPlate rfl rfl rfl (by decide +kernel) ⟨Nat.le_of_ble_eq_true rfl, Nat.le_of_ble_eq_true rfl⟩) (mRecv_X6 hI) hI hS hl.1 rfl rfl (Nat.le_of_ble_eq_true rfl) dX6_taken_12 (fun r3 σ4 H locs hw hI hS => ?_)
  obtain ⟨hw, hq⟩ := hw
  rw [hq] at hI
  refine lv_if_ne (tgt := 24) hx hb dX6_taken_15 (by decide) (fun hc => ?_) (fun hc => ?_)
  · have hw := hw.1 hc
    refine lv_iload_n hx hb dX6_taken_24 rfl (lv_at hl 2 rfl) ?_
    refine gSi (cm_X6_isTime l g (σ := σ2) hw) (mMv g) ⟨hx, hb, hml, hown, hts⟩ (va_cwS 1 hts gX6_taken_X6_isTime rfl rfl rfl (by decide +kernel) ⟨Nat.le_of_ble_eq_true rfl, Nat.le_of_ble_eq_true rfl⟩) hI hS hl.1 rfl rfl (Nat.le_of_ble_eq_true rfl) dX6_taken_25 (fun r5 σ6 H locs hw hI hS => ?_)
    obtain ⟨hw, hq⟩ := hw
    rw [hq] at hI
    refine lv_if_eq (tgt := 64) hx hb dX6_taken_28 (by decide) (fun hc => ?_) (fun hc => ?_)
    · have hw := hw.1 hc
      refine lv_aload_n hx hb dX6_taken_64 rfl (lv_at hl 0 rfl) ?_
      refine lv_iconst (v := 2) hx hb dX6_taken_65 (by decide) ?_
      refine gVi (cm_X6_refuse l g (σ := σ2) hw) (mMv g) ⟨hx, hb, hml, hown, hts⟩ (cwV 1 hts gX6_taken_X6_refuse rfl rfl rfl (by decide +kernel) ⟨Nat.le_of_ble_eq_true rfl, Nat.le_of_ble_eq_true rfl⟩) (mRecv_X6 hI) hI hS hl.1 rfl rfl (Nat.le_of_ble_eq_true rfl) dX6_taken_66 (fun r7 σ8 H locs hw hI hS => ?_)
      exact hret _ _ _ _ _ _ dX6_taken_69 hw hI hS
    have hw := hw.2 hc
    refine lv_iload_n hx hb dX6_taken_31 rfl (lv_at hl 3 rfl) ?_
    refine gSi (cm_X6_isTime l g (σ := σ2) hw) (mMv g) ⟨hx, hb, hml, hown, hts⟩ (va_cwS 1 hts gX6_taken_X6_isTime rfl rfl rfl (by decide +kernel) ⟨Nat.le_of_ble_eq_true rfl, Nat.le_of_ble_eq_true rfl⟩) hI hS hl.1 rfl rfl (Nat.le_of_ble_eq_true rfl) dX6_taken_32 (fun r9 σ10 H locs hw hI hS => ?_)
    obtain ⟨hw, hq⟩ := hw
    rw [hq] at hI
    refine lv_if_eq (tgt := 64) hx hb dX6_taken_35 (by decide) (fun hc => ?_) (fun hc => ?_)
    · have hw := hw.1 hc
      refine lv_aload_n hx hb dX6_taken_64 rfl (lv_at hl 0 rfl) ?_
      refine lv_iconst (v := 2) hx hb dX6_taken_65 (by decide) ?_
      refine gVi (cm_X6_refuse l g (σ := σ2) hw) (mMv g) ⟨hx, hb, hml, hown, hts⟩ (cwV 1 hts gX6_taken_X6_refuse rfl rfl rfl (by decide +kernel) ⟨Nat.le_of_ble_eq_true rfl, Nat.le_of_ble_eq_true rfl⟩) (mRecv_X6 hI) hI hS hl.1 rfl rfl (Nat.le_of_ble_eq_true rfl) dX6_taken_66 (fun r11 σ12 H locs hw hI hS => ?_)
      exact hret _ _ _ _ _ _ dX6_taken_69 hw hI hS
    have hw := hw.2 hc
    refine lv_iload_n hx hb dX6_taken_38 rfl (lv_at hl 2 rfl) ?_
    refine lv_iload_n hx hb dX6_taken_39 rfl (lv_at hl 3 rfl) ?_
    refine lv_icmp_gt (tgt := 64) hx hb dX6_taken_40 (by decide) (fun hc => ?_) (fun hc => ?_)
    · have hw := hw.1 hc
      refine lv_aload_n hx hb dX6_taken_64 rfl (lv_at hl 0 rfl) ?_
      refine lv_iconst (v := 2) hx hb dX6_taken_65 (by decide) ?_
      refine gVi (cm_X6_refuse l g (σ := σ2) hw) (mMv g) ⟨hx, hb, hml, hown, hts⟩ (cwV 1 hts gX6_taken_X6_refuse rfl rfl rfl (by decide +kernel) ⟨Nat.le_of_ble_eq_true rfl, Nat.le_of_ble_eq_true rfl⟩) (mRecv_X6 hI) hI hS hl.1 rfl rfl (Nat.le_of_ble_eq_true rfl) dX6_taken_66 (fun r13 σ14 H locs hw hI hS => ?_)
      exact hret _ _ _ _ _ _ dX6_taken_69 hw hI hS
    have hw := hw.2 hc
    refine lv_iload hx hb dX6_taken_43 (lv_at hl 4 rfl) ?_
    refine gSi (cm_X6_isDay l g (σ := σ2) hw) (mMv g) ⟨hx, hb, hml, hown, hts⟩ (va_cwS 1 hts gX6_taken_X6_isDay rfl rfl rfl (by decide +kernel) ⟨Nat.le_of_ble_eq_true rfl, Nat.le_of_ble_eq_true rfl⟩) hI hS hl.1 rfl rfl (Nat.le_of_ble_eq_true rfl) dX6_taken_45 (fun r15 σ16 H locs hw hI hS => ?_)
    obtain ⟨hw, hq⟩ := hw
    rw [hq] at hI
    refine lv_if_eq (tgt := 64) hx hb dX6_taken_48 (by decide) (fun hc => ?_) (fun hc => ?_)
    · have hw := hw.1 hc
      refine lv_aload_n hx hb dX6_taken_64 rfl (lv_at hl 0 rfl) ?_
      refine lv_iconst (v := 2) hx hb dX6_taken_65 (by decide) ?_
      refine gVi (cm_X6_refuse l g (σ := σ2) hw) (mMv g) ⟨hx, hb, hml, hown, hts⟩ (cwV 1 hts gX6_taken_X6_refuse rfl rfl rfl (by decide +kernel) ⟨Nat.le_of_ble_eq_true rfl, Nat.le_of_ble_eq_true rfl⟩) (mRecv_X6 hI) hI hS hl.1 rfl rfl (Nat.le_of_ble_eq_true rfl) dX6_taken_66 (fun r17 σ18 H locs hw hI hS => ?_)
      exact hret _ _ _ _ _ _ dX6_taken_69 hw hI hS
    have hw := hw.2 hc
    refine lv_aload_n hx hb dX6_taken_51 rfl (lv_at hl 0 rfl) ?_
    refine lv_iconst (v := 2) hx hb dX6_taken_52 (by decide) ?_
    refine lv_iload_n hx hb dX6_taken_53 rfl (lv_at hl 1 rfl) ?_
    refine lv_iload_n hx hb dX6_taken_54 rfl (lv_at hl 2 rfl) ?_
    refine lv_iload_n hx hb dX6_taken_55 rfl (lv_at hl 3 rfl) ?_
    refine lv_iload hx hb dX6_taken_56 (lv_at hl 4 rfl) ?_
    refine gVi (cm_X6_adds l g (σ := σ2) hw) (mMv g) ⟨hx, hb, hml, hown, hts⟩ (cwV 5 hts gX6_taken_X6_adds rfl rfl rfl (by decide +kernel) ⟨Nat.le_of_ble_eq_true rfl, Nat.le_of_ble_eq_true rfl⟩) (mRecv_X6 hI) hI hS hl.1 rfl rfl (Nat.le_of_ble_eq_true rfl) dX6_taken_58 (fun r19 σ20 H locs hw hI hS => ?_)
    refine lv_goto (tgt := 69) hx hb dX6_taken_61 (by decide) ?_
    exact hret _ _ _ _ _ _ dX6_taken_69 hw hI hS
  have hw := hw.2 hc
  refine lv_aload_n hx hb dX6_taken_18 rfl (lv_at hl 0 rfl) ?_
  refine lv_iconst (v := 1) hx hb dX6_taken_19 (by decide) ?_
  refine gVi (cm_X6_refuse l g (σ := σ2) hw) (mMv g) ⟨hx, hb, hml, hown, hts⟩ (cwV 1 hts gX6_taken_X6_refuse rfl rfl rfl (by decide +kernel) ⟨Nat.le_of_ble_eq_true rfl, Nat.le_of_ble_eq_true rfl⟩) (mRecv_X6 hI) hI hS hl.1 rfl rfl (Nat.le_of_ble_eq_true rfl) dX6_taken_20 (fun r21 σ22 H locs hw hI hS => ?_)
  exact hret _ _ _ _ _ _ dX6_taken_23 hw hI hS
