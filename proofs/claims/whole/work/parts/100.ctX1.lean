set_option maxRecDepth 100000 in
set_option maxHeartbeats 4000000 in
theorem cx_X5_status (l : Launch) (g : wG) {σ : wS} {Q : Int32 → Prop} (hw : wx_X5_status Q σ) : Met l yX5_status wsX5_status ({ frames := 0, cells := 0, slots := 0, locals := 0 } : Room) (va_Pc [.ref (g.2.1 0)] (fun U => xIn g σ U.heap U)) (va_Qi (fun r σ1 => Q r ∧ σ1 = σ) (fun σ1 t => xIn g σ1 t.heap t) (xA g)) 0 0 (xA g) := by
  refine gOfI (maxL := 1) (xMv g) (by decide) rfl (Nat.le_of_ble_eq_true rfl) ?_
  intro p e s m args below meth c QQ hx hb hml hown hts hret ls hl hI
  have hl : lv_has ls 1 [(0, .ref (g.2.1 0))] := hl
  have hS : va_S (xA g) s.heap s.heap [] := va_S.rf
  have hF : ∀ w ∈ wsX50, w.before args s = true := fun w h => hts w (List.mem_cons_of_mem _ (List.mem_append_right _ h))
  refine lv_aload_n hx hb dX5_status_0 rfl (lv_at hl 0 rfl) ?_
  refine xG_X5_lastStatus hx hb hF hown hI (hts _ (List.mem_of_getElem? (i := 1) rfl : (Cond.fieldLink RX5 48 "PlateRoom" "lastStatus" "I" : Cond) ∈ wsX5_status)) dX5_status_1 ?_
  exact hret _ _ _ _ _ _ dX5_status_4 ⟨hw, rfl⟩ hI hS
set_option maxRecDepth 100000 in
set_option maxHeartbeats 4000000 in
theorem cx_X5_refuse (l : Launch) (g : wG) {σ : wS} {x1 : Int32} {Q : Int32 → wS → Prop} (hw : wx_X5_refuse Q x1 σ) : Met l yX5_refuse wsX5_refuse ({ frames := 0, cells := 0, slots := 0, locals := 0 } : Room) (va_Pc [.ref (g.2.1 0), .int x1] (fun U => xIn g σ U.heap U)) (va_Qi Q (fun σ1 t => xIn g σ1 t.heap t) (xA g)) 0 0 (xA g) := by
  refine gOfI (maxL := 2) (xMv g) (by decide) rfl (Nat.le_of_ble_eq_true rfl) ?_
  intro p e s m args below meth c QQ hx hb hml hown hts hret ls hl hI
  have hl : lv_has ls 2 [(0, .ref (g.2.1 0)), (1, .int x1)] := hl
  have hS : va_S (xA g) s.heap s.heap [] := va_S.rf
  have hF : ∀ w ∈ wsX50, w.before args s = true := fun w h => hts w (List.mem_cons_of_mem _ (List.mem_append_right _ h))
  refine lv_aload_n hx hb dX5_refuse_0 rfl (lv_at hl 0 rfl) ?_
  refine lv_iload_n hx hb dX5_refuse_1 rfl (lv_at hl 1 rfl) ?_
  refine xP_X5_lastStatus hx hb hF hown hI hS (hts _ (List.mem_of_getElem? (i := 1) rfl : (Cond.fieldLink RX5 48 "PlateRoom" "lastStatus" "I" : Cond) ∈ wsX5_refuse)) dX5_refuse_2 (fun σ1 eσ1 H locs hI hS => ?_)
  have hw := hw σ1 eσ1
  refine lv_iconst (v := (-1)) hx hb dX5_refuse_5 (by decide) ?_
  exact hret _ _ _ _ _ _ dX5_refuse_6 hw hI hS
set_option maxRecDepth 100000 in
set_option maxHeartbeats 4000000 in
theorem cx_X5_answer (l : Launch) (g : wG) {σ : wS} {x1 : Int32} {Q : Int32 → wS → Prop} (hw : wx_X5_answer Q x1 σ) : Met l yX5_answer wsX5_answer ({ frames := 0, cells := 0, slots := 0, locals := 0 } : Room) (va_Pc [.ref (g.2.1 0), .int x1] (fun U => xIn g σ U.heap U)) (va_Qi Q (fun σ1 t => xIn g σ1 t.heap t) (xA g)) 0 0 (xA g) := by
  refine gOfI (maxL := 2) (xMv g) (by decide) rfl (Nat.le_of_ble_eq_true rfl) ?_
  intro p e s m args below meth c QQ hx hb hml hown hts hret ls hl hI
  have hl : lv_has ls 2 [(0, .ref (g.2.1 0)), (1, .int x1)] := hl
  have hS : va_S (xA g) s.heap s.heap [] := va_S.rf
  have hF : ∀ w ∈ wsX50, w.before args s = true := fun w h => hts w (List.mem_cons_of_mem _ (List.mem_append_right _ h))
  refine lv_aload_n hx hb dX5_answer_0 rfl (lv_at hl 0 rfl) ?_
  refine lv_iconst (v := 0) hx hb dX5_answer_1 (by decide) ?_
  refine xP_X5_lastStatus hx hb hF hown hI hS (hts _ (List.mem_of_getElem? (i := 1) rfl : (Cond.fieldLink RX5 48 "PlateRoom" "lastStatus" "I" : Cond) ∈ wsX5_answer)) dX5_answer_2 (fun σ1 eσ1 H locs hI hS => ?_)
  have hw := hw σ1 eσ1
  refine lv_iload_n hx hb dX5_answer_5 rfl (lv_at hl 1 rfl) ?_
  exact hret _ _ _ _ _ _ dX5_answer_6 hw hI hS
set_option maxRecDepth 100000 in
set_option maxHeartbeats 4000000 in
theorem cx_X5_plate (l : Launch) (g : wG) {σ : wS} {Q : Int32 → wS → Prop} (hw : wx_X5_plate Q σ) : Met l yX5_plate wsX5_plate ({ frames := 1, cells := 0, slots := 0, locals := 21 } : Room) (va_Pc [.ref (g.2.1 0)] (fun U => xIn g σ U.heap U)) (va_Qi Q (fun σ1 t => xIn g σ1 t.heap t) (xA g)) 0 0 (xA g) := by
  refine gOfI (maxL := 1) (xMv g) (by decide) rfl (Nat.le_of_ble_eq_true rfl) ?_
  intro p e s m args below meth c QQ hx hb hml hown hts hret ls hl hI
  have hl : lv_has ls 1 [(0, .ref (g.2.1 0))] := hl
  have hS : va_S (xA g) s.heap s.heap [] := va_S.rf
  have hF : ∀ w ∈ wsX50, w.before args s = true := fun w h => hts w (List.mem_cons_of_mem _ (List.mem_append_right _ h))
  refine lv_aload_n hx hb dX5_plate_0 rfl (lv_at hl 0 rfl) ?_
  refine xG_X5_plateCount hx hb hF hown hI (hts _ (List.mem_of_getElem? (i := 1) rfl : (Cond.fieldLink RX5 52 "PlateRoom" "plateCount" "I" : Cond) ∈ wsX5_plate)) dX5_plate_1 ?_
  refine lv_bipush (v := 20) hx hb dX5_plate_4 (by decide) ?_
  refine lv_icmp_lt (tgt := 15) hx hb dX5_plate_6 (by decide) (fun hc => ?_) (fun hc => ?_)
  · have hw := hw.1 hc
    refine lv_aload_n hx hb dX5_plate_15 rfl (lv_at hl 0 rfl) ?_
    refine lv_dup hx hb dX5_plate_16 rfl ?_
    refine xG_X5_plateCount hx hb hF hown hI (hts _ (List.mem_of_getElem? (i := 1) rfl : (Cond.fieldLink RX5 52 "PlateRoom" "plateCount" "I" : Cond) ∈ wsX5_plate)) dX5_plate_17 ?_
    refine lv_iconst (v := 1) hx hb dX5_plate_20 (by decide) ?_
    refine lv_iadd hx hb dX5_plate_21 ?_
    refine xP_X5_plateCount hx hb hF hown hI hS (hts _ (List.mem_of_getElem? (i := 1) rfl : (Cond.fieldLink RX5 52 "PlateRoom" "plateCount" "I" : Cond) ∈ wsX5_plate)) dX5_plate_22 (fun σ1 eσ1 H locs hI hS => ?_)
    have hw := hw σ1 eσ1
    refine lv_aload_n hx hb dX5_plate_25 rfl (lv_at hl 0 rfl) ?_
    refine lv_aload_n hx hb dX5_plate_26 rfl (lv_at hl 0 rfl) ?_
    refine xG_X5_plateCount hx hb hF hown hI (hts _ (List.mem_of_getElem? (i := 1) rfl : (Cond.fieldLink RX5 52 "PlateRoom" "plateCount" "I" : Cond) ∈ wsX5_plate)) dX5_plate_27 ?_
    refine lv_iconst (v := 1) hx hb dX5_plate_30 (by decide) ?_
    refine lv_isub hx hb dX5_plate_31 ?_
    refine gVi (cx_X5_answer l g (σ := σ1) hw) (xMv g) ⟨hx, hb, hml, hown, hts⟩ (cwV 1 hts gX5_plate_X5_answer rfl rfl rfl (by decide +kernel) ⟨Nat.le_of_ble_eq_true rfl, Nat.le_of_ble_eq_true rfl⟩) (xRecv_X5 hI) hI hS hl.1 rfl rfl (Nat.le_of_ble_eq_true rfl) dX5_plate_32 (fun r2 σ3 H locs hw hI hS => ?_)
    exact hret _ _ _ _ _ _ dX5_plate_35 hw hI hS
  have hw := hw.2 hc
  refine lv_aload_n hx hb dX5_plate_9 rfl (lv_at hl 0 rfl) ?_
  refine lv_iconst (v := 3) hx hb dX5_plate_10 (by decide) ?_
  refine gVi (cx_X5_refuse l g (σ := σ) hw) (xMv g) ⟨hx, hb, hml, hown, hts⟩ (cwV 1 hts gX5_plate_X5_refuse rfl rfl rfl (by decide +kernel) ⟨Nat.le_of_ble_eq_true rfl, Nat.le_of_ble_eq_true rfl⟩) (xRecv_X5 hI) hI hS hl.1 rfl rfl (Nat.le_of_ble_eq_true rfl) dX5_plate_11 (fun r4 σ5 H locs hw hI hS => ?_)
  exact hret _ _ _ _ _ _ dX5_plate_14 hw hI hS
set_option maxRecDepth 100000 in
set_option maxHeartbeats 4000000 in
theorem cx_X5_motif (l : Launch) (g : wG) {σ : wS} {Q : Int32 → wS → Prop} (hw : wx_X5_motif Q σ) : Met l yX5_motif wsX5_motif ({ frames := 1, cells := 0, slots := 0, locals := 21 } : Room) (va_Pc [.ref (g.2.1 0)] (fun U => xIn g σ U.heap U)) (va_Qi Q (fun σ1 t => xIn g σ1 t.heap t) (xA g)) 0 0 (xA g) := by
  refine gOfI (maxL := 1) (xMv g) (by decide) rfl (Nat.le_of_ble_eq_true rfl) ?_
  intro p e s m args below meth c QQ hx hb hml hown hts hret ls hl hI
  have hl : lv_has ls 1 [(0, .ref (g.2.1 0))] := hl
  have hS : va_S (xA g) s.heap s.heap [] := va_S.rf
  have hF : ∀ w ∈ wsX50, w.before args s = true := fun w h => hts w (List.mem_cons_of_mem _ (List.mem_append_right _ h))
  refine lv_aload_n hx hb dX5_motif_0 rfl (lv_at hl 0 rfl) ?_
  refine xG_X5_motifCount hx hb hF hown hI (hts _ (List.mem_of_getElem? (i := 1) rfl : (Cond.fieldLink RX5 62 "PlateRoom" "motifCount" "I" : Cond) ∈ wsX5_motif)) dX5_motif_1 ?_
  refine lv_bipush (v := 16) hx hb dX5_motif_4 (by decide) ?_
  refine lv_icmp_lt (tgt := 15) hx hb dX5_motif_6 (by decide) (fun hc => ?_) (fun hc => ?_)
  · have hw := hw.1 hc
    refine lv_aload_n hx hb dX5_motif_15 rfl (lv_at hl 0 rfl) ?_
    refine lv_dup hx hb dX5_motif_16 rfl ?_
    refine xG_X5_motifCount hx hb hF hown hI (hts _ (List.mem_of_getElem? (i := 1) rfl : (Cond.fieldLink RX5 62 "PlateRoom" "motifCount" "I" : Cond) ∈ wsX5_motif)) dX5_motif_17 ?_
    refine lv_iconst (v := 1) hx hb dX5_motif_20 (by decide) ?_
    refine lv_iadd hx hb dX5_motif_21 ?_
    refine xP_X5_motifCount hx hb hF hown hI hS (hts _ (List.mem_of_getElem? (i := 1) rfl : (Cond.fieldLink RX5 62 "PlateRoom" "motifCount" "I" : Cond) ∈ wsX5_motif)) dX5_motif_22 (fun σ1 eσ1 H locs hI hS => ?_)
    have hw := hw σ1 eσ1
    refine lv_aload_n hx hb dX5_motif_25 rfl (lv_at hl 0 rfl) ?_
    refine lv_aload_n hx hb dX5_motif_26 rfl (lv_at hl 0 rfl) ?_
    refine xG_X5_motifCount hx hb hF hown hI (hts _ (List.mem_of_getElem? (i := 1) rfl : (Cond.fieldLink RX5 62 "PlateRoom" "motifCount" "I" : Cond) ∈ wsX5_motif)) dX5_motif_27 ?_
    refine lv_iconst (v := 1) hx hb dX5_motif_30 (by decide) ?_
    refine lv_isub hx hb dX5_motif_31 ?_
    refine gVi (cx_X5_answer l g (σ := σ1) hw) (xMv g) ⟨hx, hb, hml, hown, hts⟩ (cwV 1 hts gX5_motif_X5_answer rfl rfl rfl (by decide +kernel) ⟨Nat.le_of_ble_eq_true rfl, Nat.le_of_ble_eq_true rfl⟩) (xRecv_X5 hI) hI hS hl.1 rfl rfl (Nat.le_of_ble_eq_true rfl) dX5_motif_32 (fun r2 σ3 H locs hw hI hS => ?_)
    exact hret _ _ _ _ _ _ dX5_motif_35 hw hI hS
  have hw := hw.2 hc
  refine lv_aload_n hx hb dX5_motif_9 rfl (lv_at hl 0 rfl) ?_
  refine lv_iconst (v := 3) hx hb dX5_motif_10 (by decide) ?_
  refine gVi (cx_X5_refuse l g (σ := σ) hw) (xMv g) ⟨hx, hb, hml, hown, hts⟩ (cwV 1 hts gX5_motif_X5_refuse rfl rfl rfl (by decide +kernel) ⟨Nat.le_of_ble_eq_true rfl, Nat.le_of_ble_eq_true rfl⟩) (xRecv_X5 hI) hI hS hl.1 rfl rfl (Nat.le_of_ble_eq_true rfl) dX5_motif_11 (fun r4 σ5 H locs hw hI hS => ?_)
  exact hret _ _ _ _ _ _ dX5_motif_14 hw hI hS
set_option maxRecDepth 100000 in
set_option maxHeartbeats 4000000 in
theorem cx_X5_isPlate (l : Launch) (g : wG) {σ : wS} {x1 : Int32} {Q : Int32 → Prop} (hw : wx_X5_isPlate Q x1 σ) : Met l yX5_isPlate wsX5_isPlate ({ frames := 0, cells := 0, slots := 0, locals := 0 } : Room) (va_Pc [.ref (g.2.1 0), .int x1] (fun U => xIn g σ U.heap U)) (va_Qi (fun r σ1 => Q r ∧ σ1 = σ) (fun σ1 t => xIn g σ1 t.heap t) (xA g)) 0 0 (xA g) := by
  refine gOfZ (maxL := 2) (xMv g) (by decide) rfl (Nat.le_of_ble_eq_true rfl) ?_
  intro p e s m args below meth c QQ hx hb hml hown hts hret ls hl hI
  have hl : lv_has ls 2 [(0, .ref (g.2.1 0)), (1, .int x1)] := hl
  have hS : va_S (xA g) s.heap s.heap [] := va_S.rf
  have hF : ∀ w ∈ wsX50, w.before args s = true := fun w h => hts w (List.mem_cons_of_mem _ (List.mem_append_right _ h))
  refine lv_iload_n hx hb dX5_isPlate_0 rfl (lv_at hl 1 rfl) ?_
  refine lv_if_lt (tgt := 16) hx hb dX5_isPlate_1 (by decide) (fun hc => ?_) (fun hc => ?_)
  · have hw := hw.1 hc
    refine lv_iconst (v := 0) hx hb dX5_isPlate_16 (by decide) ?_
    exact hret _ _ _ _ _ _ dX5_isPlate_17 isB0 ⟨hw, rfl⟩ hI hS
  have hw := hw.2 hc
  refine lv_iload_n hx hb dX5_isPlate_4 rfl (lv_at hl 1 rfl) ?_
  refine lv_aload_n hx hb dX5_isPlate_5 rfl (lv_at hl 0 rfl) ?_
  refine xG_X5_plateCount hx hb hF hown hI (hts _ (List.mem_of_getElem? (i := 1) rfl : (Cond.fieldLink RX5 52 "PlateRoom" "plateCount" "I" : Cond) ∈ wsX5_isPlate)) dX5_isPlate_6 ?_
  refine lv_icmp_ge (tgt := 16) hx hb dX5_isPlate_9 (by decide) (fun hc => ?_) (fun hc => ?_)
  · have hw := hw.1 hc
    refine lv_iconst (v := 0) hx hb dX5_isPlate_16 (by decide) ?_
    exact hret _ _ _ _ _ _ dX5_isPlate_17 isB0 ⟨hw, rfl⟩ hI hS
  have hw := hw.2 hc
  refine lv_iconst (v := 1) hx hb dX5_isPlate_12 (by decide) ?_
  refine lv_goto (tgt := 17) hx hb dX5_isPlate_13 (by decide) ?_
  exact hret _ _ _ _ _ _ dX5_isPlate_17 isB1 ⟨hw, rfl⟩ hI hS
set_option maxRecDepth 100000 in
set_option maxHeartbeats 4000000 in
theorem cx_X5_isMotif (l : Launch) (g : wG) {σ : wS} {x1 : Int32} {Q : Int32 → Prop} (hw : wx_X5_isMotif Q x1 σ) : Met l yX5_isMotif wsX5_isMotif ({ frames := 0, cells := 0, slots := 0, locals := 0 } : Room) (va_Pc [.ref (g.2.1 0), .int x1] (fun U => xIn g σ U.heap U)) (va_Qi (fun r σ1 => Q r ∧ σ1 = σ) (fun σ1 t => xIn g σ1 t.heap t) (xA g)) 0 0 (xA g) := by
  refine gOfZ (maxL := 2) (xMv g) (by decide) rfl (Nat.le_of_ble_eq_true rfl) ?_
  intro p e s m args below meth c QQ hx hb hml hown hts hret ls hl hI
  have hl : lv_has ls 2 [(0, .ref (g.2.1 0)), (1, .int x1)] := hl
  have hS : va_S (xA g) s.heap s.heap [] := va_S.rf
  have hF : ∀ w ∈ wsX50, w.before args s = true := fun w h => hts w (List.mem_cons_of_mem _ (List.mem_append_right _ h))
  refine lv_iload_n hx hb dX5_isMotif_0 rfl (lv_at hl 1 rfl) ?_
  refine lv_if_lt (tgt := 16) hx hb dX5_isMotif_1 (by decide) (fun hc => ?_) (fun hc => ?_)
  · have hw := hw.1 hc
    refine lv_iconst (v := 0) hx hb dX5_isMotif_16 (by decide) ?_
    exact hret _ _ _ _ _ _ dX5_isMotif_17 isB0 ⟨hw, rfl⟩ hI hS
  have hw := hw.2 hc
  refine lv_iload_n hx hb dX5_isMotif_4 rfl (lv_at hl 1 rfl) ?_
  refine lv_aload_n hx hb dX5_isMotif_5 rfl (lv_at hl 0 rfl) ?_
  refine xG_X5_motifCount hx hb hF hown hI (hts _ (List.mem_of_getElem? (i := 1) rfl : (Cond.fieldLink RX5 62 "PlateRoom" "motifCount" "I" : Cond) ∈ wsX5_isMotif)) dX5_isMotif_6 ?_
  refine lv_icmp_ge (tgt := 16) hx hb dX5_isMotif_9 (by decide) (fun hc => ?_) (fun hc => ?_)
  · have hw := hw.1 hc
    refine lv_iconst (v := 0) hx hb dX5_isMotif_16 (by decide) ?_
    exact hret _ _ _ _ _ _ dX5_isMotif_17 isB0 ⟨hw, rfl⟩ hI hS
  have hw := hw.2 hc
  refine lv_iconst (v := 1) hx hb dX5_isMotif_12 (by decide) ?_
  refine lv_goto (tgt := 17) hx hb dX5_isMotif_13 (by decide) ?_
  exact hret _ _ _ _ _ _ dX5_isMotif_17 isB1 ⟨hw, rfl⟩ hI hS
set_option maxRecDepth 100000 in
set_option maxHeartbeats 4000000 in
theorem cx_X5_isWithin (l : Launch) (g : wG) {σ : wS} {x0 : Int32} {x1 : Int32} {x2 : Int32} {Q : Int32 → Prop} (hw : wx_X5_isWithin Q x0 x1 x2) : Met l yX5_isWithin wsX5_isWithin ({ frames := 0, cells := 0, slots := 0, locals := 0 } : Room) (va_Pc [.int x0, .int x1, .int x2] (fun U => xIn g σ U.heap U)) (va_Qi (fun r σ1 => Q r ∧ σ1 = σ) (fun σ1 t => xIn g σ1 t.heap t) (xA g)) 0 0 (xA g) := by
  refine gOfZ (maxL := 3) (xMv g) (by decide) rfl (Nat.le_of_ble_eq_true rfl) ?_
  intro p e s m args below meth c QQ hx hb hml hown hts hret ls hl hI
  have hl : lv_has ls 3 [(0, .int x0), (1, .int x1), (2, .int x2)] := hl
  have hS : va_S (xA g) s.heap s.heap [] := va_S.rf
  refine lv_iload_n hx hb dX5_isWithin_0 rfl (lv_at hl 0 rfl) ?_
  refine lv_iload_n hx hb dX5_isWithin_1 rfl (lv_at hl 1 rfl) ?_
  refine lv_icmp_lt (tgt := 14) hx hb dX5_isWithin_2 (by decide) (fun hc => ?_) (fun hc => ?_)
  · have hw := hw.1 hc
    refine lv_iconst (v := 0) hx hb dX5_isWithin_14 (by decide) ?_
    exact hret _ _ _ _ _ _ dX5_isWithin_15 isB0 ⟨hw, rfl⟩ hI hS
  have hw := hw.2 hc
  refine lv_iload_n hx hb dX5_isWithin_5 rfl (lv_at hl 0 rfl) ?_
  refine lv_iload_n hx hb dX5_isWithin_6 rfl (lv_at hl 2 rfl) ?_
  refine lv_icmp_gt (tgt := 14) hx hb dX5_isWithin_7 (by decide) (fun hc => ?_) (fun hc => ?_)
  · have hw := hw.1 hc
    refine lv_iconst (v := 0) hx hb dX5_isWithin_14 (by decide) ?_
    exact hret _ _ _ _ _ _ dX5_isWithin_15 isB0 ⟨hw, rfl⟩ hI hS
  have hw := hw.2 hc
  refine lv_iconst (v := 1) hx hb dX5_isWithin_10 (by decide) ?_
  refine lv_goto (tgt := 15) hx hb dX5_isWithin_11 (by decide) ?_
  exact hret _ _ _ _ _ _ dX5_isWithin_15 isB1 ⟨hw, rfl⟩ hI hS
set_option maxRecDepth 100000 in
set_option maxHeartbeats 4000000 in
theorem cx_X5_isDay (l : Launch) (g : wG) {σ : wS} {x0 : Int32} {Q : Int32 → Prop} (hw : wx_X5_isDay Q x0) : Met l yX5_isDay wsX5_isDay ({ frames := 1, cells := 0, slots := 0, locals := 22 } : Room) (va_Pc [.int x0] (fun U => xIn g σ U.heap U)) (va_Qi (fun r σ1 => Q r ∧ σ1 = σ) (fun σ1 t => xIn g σ1 t.heap t) (xA g)) 0 0 (xA g) := by
  refine gOfZ (maxL := 1) (xMv g) (by decide) rfl (Nat.le_of_ble_eq_true rfl) ?_
  intro p e s m args below meth c QQ hx hb hml hown hts hret ls hl hI
  have hl : lv_has ls 1 [(0, .int x0)] := hl
  have hS : va_S (xA g) s.heap s.heap [] := va_S.rf
  refine lv_iload_n hx hb dX5_isDay_0 rfl (lv_at hl 0 rfl) ?_
  refine lv_iconst (v := 0) hx hb dX5_isDay_1 (by decide) ?_
  refine lv_sipush (v := 9999) hx hb dX5_isDay_2 (by decide) ?_
  refine gSi (cx_X5_isWithin l g (σ := σ) hw) (xMv g) ⟨hx, hb, hml, hown, hts⟩ (va_cwS 3 hts gX5_isDay_X5_isWithin rfl rfl rfl (by decide +kernel) ⟨Nat.le_of_ble_eq_true rfl, Nat.le_of_ble_eq_true rfl⟩) hI hS hl.1 rfl rfl (Nat.le_of_ble_eq_true rfl) dX5_isDay_5 (fun r1 σ2 H locs hw hI hS => ?_)
  obtain ⟨hw, hq⟩ := hw
  rw [hq] at hI
  exact hret _ _ _ _ _ _ dX5_isDay_8 hw.1 ⟨hw.2, rfl⟩ hI hS
set_option maxRecDepth 100000 in
set_option maxHeartbeats 4000000 in
theorem cx_X5_whyNot (l : Launch) (g : wG) {σ : wS} {x0 : Int32} {x1 : Int32} {Q : Int32 → Prop} (hw : wx_X5_whyNot Q x0 x1) : Met l yX5_whyNot wsX5_whyNot ({ frames := 0, cells := 0, slots := 0, locals := 0 } : Room) (va_Pc [.int x0, .int x1] (fun U => xIn g σ U.heap U)) (va_Qi (fun r σ1 => Q r ∧ σ1 = σ) (fun σ1 t => xIn g σ1 t.heap t) (xA g)) 0 0 (xA g) := by
  refine gOfI (maxL := 2) (xMv g) (by decide) rfl (Nat.le_of_ble_eq_true rfl) ?_
  intro p e s m args below meth c QQ hx hb hml hown hts hret ls hl hI
  have hl : lv_has ls 2 [(0, .int x0), (1, .int x1)] := hl
  have hS : va_S (xA g) s.heap s.heap [] := va_S.rf
  refine lv_iload_n hx hb dX5_whyNot_0 rfl (lv_at hl 0 rfl) ?_
  refine lv_if_ne (tgt := 6) hx hb dX5_whyNot_1 (by decide) (fun hc => ?_) (fun hc => ?_)
  · have hw := hw.1 hc
    refine lv_iload_n hx hb dX5_whyNot_6 rfl (lv_at hl 1 rfl) ?_
    refine lv_if_eq (tgt := 14) hx hb dX5_whyNot_7 (by decide) (fun hc => ?_) (fun hc => ?_)
    · have hw := hw.1 hc
      refine lv_iconst (v := 2) hx hb dX5_whyNot_14 (by decide) ?_
      exact hret _ _ _ _ _ _ dX5_whyNot_15 ⟨hw, rfl⟩ hI hS
    have hw := hw.2 hc
    refine lv_iconst (v := 0) hx hb dX5_whyNot_10 (by decide) ?_
    refine lv_goto (tgt := 15) hx hb dX5_whyNot_11 (by decide) ?_
    exact hret _ _ _ _ _ _ dX5_whyNot_15 ⟨hw, rfl⟩ hI hS
  have hw := hw.2 hc
  refine lv_iconst (v := 1) hx hb dX5_whyNot_4 (by decide) ?_
  exact hret _ _ _ _ _ _ dX5_whyNot_5 ⟨hw, rfl⟩ hI hS
set_option maxRecDepth 100000 in
set_option maxHeartbeats 4000000 in
theorem cx_X2_isFull (l : Launch) (g : wG) {σ : wS} {Q : Int32 → Prop} (hw : wx_X2_isFull Q σ) : Met l yX2_isFull wsX2_isFull ({ frames := 0, cells := 0, slots := 0, locals := 0 } : Room) (va_Pc [.ref (g.2.1 3)] (fun U => xIn g σ U.heap U)) (va_Qi (fun r σ1 => Q r ∧ σ1 = σ) (fun σ1 t => xIn g σ1 t.heap t) (xA g)) 0 0 (xA g) := by
  refine gOfZ (maxL := 1) (xMv g) (by decide) rfl (Nat.le_of_ble_eq_true rfl) ?_
  intro p e s m args below meth c QQ hx hb hml hown hts hret ls hl hI
  have hl : lv_has ls 1 [(0, .ref (g.2.1 3))] := hl
  have hS : va_S (xA g) s.heap s.heap [] := va_S.rf
  have hF : ∀ w ∈ wsX20, w.before args s = true := fun w h => hts w (List.mem_cons_of_mem _ (List.mem_append_right _ h))
  refine lv_aload_n hx hb dX2_isFull_0 rfl (lv_at hl 0 rfl) ?_
  refine xG_X2_count hx hb hF hown hI (hts _ (List.mem_of_getElem? (i := 1) rfl : (Cond.fieldLink RX2 33 "PlateRoom$FactBook" "count" "I" : Cond) ∈ wsX2_isFull)) dX2_isFull_1 ?_
  refine lv_bipush (v := 100) hx hb dX2_isFull_4 (by decide) ?_
  refine lv_icmp_lt (tgt := 13) hx hb dX2_isFull_6 (by decide) (fun hc => ?_) (fun hc => ?_)
  · have hw := hw.1 hc
    refine lv_iconst (v := 0) hx hb dX2_isFull_13 (by decide) ?_
    exact hret _ _ _ _ _ _ dX2_isFull_14 isB0 ⟨hw, rfl⟩ hI hS
  have hw := hw.2 hc
  refine lv_iconst (v := 1) hx hb dX2_isFull_9 (by decide) ?_
  refine lv_goto (tgt := 14) hx hb dX2_isFull_10 (by decide) ?_
  exact hret _ _ _ _ _ _ dX2_isFull_14 isB1 ⟨hw, rfl⟩ hI hS
set_option maxRecDepth 100000 in
set_option maxHeartbeats 4000000 in
theorem cx_X5_whyNoFact (l : Launch) (g : wG) {σ : wS} {x1 : Int32} {x2 : Int32} {Q : Int32 → Prop} (hw : wx_X5_whyNoFact Q x1 x2 σ) : Met l yX5_whyNoFact wsX5_whyNoFact ({ frames := 1, cells := 0, slots := 0, locals := 21 } : Room) (va_Pc [.ref (g.2.1 0), .int x1, .int x2] (fun U => xIn g σ U.heap U)) (va_Qi (fun r σ1 => Q r ∧ σ1 = σ) (fun σ1 t => xIn g σ1 t.heap t) (xA g)) 0 0 (xA g) := by
  refine gOfI (maxL := 4) (xMv g) (by decide) rfl (Nat.le_of_ble_eq_true rfl) ?_
  intro p e s m args below meth c QQ hx hb hml hown hts hret ls hl hI
  have hl : lv_has ls 4 [(0, .ref (g.2.1 0)), (1, .int x1), (2, .int x2)] := hl
  have hS : va_S (xA g) s.heap s.heap [] := va_S.rf
  have hF : ∀ w ∈ wsX50, w.before args s = true := fun w h => hts w (List.mem_cons_of_mem _ (List.mem_append_left _ (List.mem_append_right _ h)))
  refine lv_iload_n hx hb dX5_whyNoFact_0 rfl (lv_at hl 1 rfl) ?_
  refine lv_iload_n hx hb dX5_whyNoFact_1 rfl (lv_at hl 2 rfl) ?_
  refine gSi (cx_X5_whyNot l g (σ := σ) hw) (xMv g) ⟨hx, hb, hml, hown, hts⟩ (va_cwS 2 hts gX5_whyNoFact_X5_whyNot rfl rfl rfl (by decide +kernel) ⟨Nat.le_of_ble_eq_true rfl, Nat.le_of_ble_eq_true rfl⟩) hI hS hl.1 rfl rfl (Nat.le_of_ble_eq_true rfl) dX5_whyNoFact_2 (fun r1 σ2 H locs hw hI hS => ?_)
  obtain ⟨hw, hq⟩ := hw
  rw [hq] at hI
  refine lv_istore_n (lv' := [(3, .int r1), (0, .ref (g.2.1 0)), (1, .int x1), (2, .int x2)]) hx hb dX5_whyNoFact_5 rfl hl (by decide) rfl (fun ls hl => ?_)
  refine lv_iload_n hx hb dX5_whyNoFact_6 rfl (lv_at hl 0 rfl) ?_
  refine lv_if_ne (tgt := 24) hx hb dX5_whyNoFact_7 (by decide) (fun hc => ?_) (fun hc => ?_)
  · have hw := hw.1 hc
    refine lv_iload_n hx hb dX5_whyNoFact_24 rfl (lv_at hl 0 rfl) ?_
    exact hret _ _ _ _ _ _ dX5_whyNoFact_25 ⟨hw, rfl⟩ hI hS
  have hw := hw.2 hc
  refine lv_aload_n hx hb dX5_whyNoFact_10 rfl (lv_at hl 1 rfl) ?_
  refine xG_X5_facts hx hb hF hown hI (hts _ (List.mem_of_getElem? (i := 1) rfl : (Cond.fieldLink RX5 12 "PlateRoom" "facts" "LPlateRoom$FactBook;" : Cond) ∈ wsX5_whyNoFact)) dX5_whyNoFact_11 ?_
  refine gVi (cx_X2_isFull l g (σ := σ) hw) (xMv g) ⟨hx, hb, hml, hown, hts⟩ (cwV 0 hts gX5_whyNoFact_X2_isFull rfl rfl rfl (by decide +kernel) ⟨Nat.le_of_ble_eq_true rfl, Nat.le_of_ble_eq_true rfl⟩) (xRecv_X2 hI) hI hS hl.1 rfl rfl (Nat.le_of_ble_eq_true rfl) dX5_whyNoFact_14 (fun r3 σ4 H locs hw hI hS => ?_)
  obtain ⟨hw, hq⟩ := hw
  rw [hq] at hI
  refine lv_if_eq (tgt := 24) hx hb dX5_whyNoFact_17 (by decide) (fun hc => ?_) (fun hc => ?_)
  · have hw := hw.1 hc
    refine lv_iload_n hx hb dX5_whyNoFact_24 rfl (lv_at hl 0 rfl) ?_
    exact hret _ _ _ _ _ _ dX5_whyNoFact_25 ⟨hw, rfl⟩ hI hS
  have hw := hw.2 hc
  refine lv_iconst (v := 3) hx hb dX5_whyNoFact_20 (by decide) ?_
  refine lv_goto (tgt := 25) hx hb dX5_whyNoFact_21 (by decide) ?_
  exact hret _ _ _ _ _ _ dX5_whyNoFact_25 ⟨hw, rfl⟩ hI hS
set_option maxRecDepth 100000 in
set_option maxHeartbeats 4000000 in
theorem cx_X2_tell (l : Launch) (g : wG) {σ : wS} {x1 : Int32} {x2 : Int32} {Q : Int32 → wS → Prop} (hw : wx_X2_tell Q x1 x2 σ) : Met l yX2_tell wsX2_tell ({ frames := 1, cells := 0, slots := 0, locals := 20 } : Room) (va_Pc [.ref (g.2.1 3), .int x1, .int x2] (fun U => xIn g σ U.heap U)) (va_Qi Q (fun σ1 t => xIn g σ1 t.heap t) (xA g)) 0 0 (xA g) := by
  refine gOfI (maxL := 3) (xMv g) (by decide) rfl (Nat.le_of_ble_eq_true rfl) ?_
  intro p e s m args below meth c QQ hx hb hml hown hts hret ls hl hI
  have hl : lv_has ls 3 [(0, .ref (g.2.1 3)), (1, .int x1), (2, .int x2)] := hl
  have hS : va_S (xA g) s.heap s.heap [] := va_S.rf
  have hF : ∀ w ∈ wsX20, w.before args s = true := fun w h => hts w (List.mem_cons_of_mem _ (List.mem_append_right _ h))
  refine lv_aload_n hx hb dX2_tell_0 rfl (lv_at hl 0 rfl) ?_
  refine gVi (cx_X2_isFull l g (σ := σ) hw) (xMv g) ⟨hx, hb, hml, hown, hts⟩ (cwV 0 hts gX2_tell_X2_isFull rfl rfl rfl (by decide +kernel) ⟨Nat.le_of_ble_eq_true rfl, Nat.le_of_ble_eq_true rfl⟩) (xRecv_X2 hI) hI hS hl.1 rfl rfl (Nat.le_of_ble_eq_true rfl) dX2_tell_1 (fun r1 σ2 H locs hw hI hS => ?_)
  obtain ⟨hw, hq⟩ := hw
  rw [hq] at hI
  refine lv_if_eq (tgt := 9) hx hb dX2_tell_4 (by decide) (fun hc => ?_) (fun hc => ?_)
  · have hw := hw.1 hc
    refine lv_aload_n hx hb dX2_tell_9 rfl (lv_at hl 0 rfl) ?_
    refine xG_X2_kinds hx hb hF hown hI (hts _ (List.mem_of_getElem? (i := 1) rfl : (Cond.fieldLink RX2 9 "PlateRoom$FactBook" "kinds" "[I" : Cond) ∈ wsX2_tell)) dX2_tell_10 ?_
    refine lv_aload_n hx hb dX2_tell_13 rfl (lv_at hl 0 rfl) ?_
    refine xG_X2_count hx hb hF hown hI (hts _ (List.mem_of_getElem? (i := 2) rfl : (Cond.fieldLink RX2 33 "PlateRoom$FactBook" "count" "I" : Cond) ∈ wsX2_tell)) dX2_tell_14 ?_
    refine lv_iload_n hx hb dX2_tell_17 rfl (lv_at hl 1 rfl) ?_
    have hin := hw.1
    have hw := hw.2
    refine xS_X2_kinds hx hb hI hS hin dX2_tell_18 (fun σ3 eσ3 H locs hI hS => ?_)
    have hw := hw σ3 eσ3
    refine lv_aload_n hx hb dX2_tell_19 rfl (lv_at hl 0 rfl) ?_
    refine xG_X2_toldOn hx hb hF hown hI (hts _ (List.mem_of_getElem? (i := 3) rfl : (Cond.fieldLink RX2 15 "PlateRoom$FactBook" "toldOn" "[I" : Cond) ∈ wsX2_tell)) dX2_tell_20 ?_
    refine lv_aload_n hx hb dX2_tell_23 rfl (lv_at hl 0 rfl) ?_
    refine xG_X2_count hx hb hF hown hI (hts _ (List.mem_of_getElem? (i := 2) rfl : (Cond.fieldLink RX2 33 "PlateRoom$FactBook" "count" "I" : Cond) ∈ wsX2_tell)) dX2_tell_24 ?_
    refine lv_iload_n hx hb dX2_tell_27 rfl (lv_at hl 2 rfl) ?_
    have hin := hw.1
    have hw := hw.2
    refine xS_X2_toldOn hx hb hI hS hin dX2_tell_28 (fun σ4 eσ4 H locs hI hS => ?_)
    have hw := hw σ4 eσ4
    refine lv_aload_n hx hb dX2_tell_29 rfl (lv_at hl 0 rfl) ?_
    refine xG_X2_crossedOn hx hb hF hown hI (hts _ (List.mem_of_getElem? (i := 4) rfl : (Cond.fieldLink RX2 18 "PlateRoom$FactBook" "crossedOn" "[I" : Cond) ∈ wsX2_tell)) dX2_tell_30 ?_
    refine lv_aload_n hx hb dX2_tell_33 rfl (lv_at hl 0 rfl) ?_
    refine xG_X2_count hx hb hF hown hI (hts _ (List.mem_of_getElem? (i := 2) rfl : (Cond.fieldLink RX2 33 "PlateRoom$FactBook" "count" "I" : Cond) ∈ wsX2_tell)) dX2_tell_34 ?_
    refine lv_iconst (v := (-1)) hx hb dX2_tell_37 (by decide) ?_
    have hin := hw.1
    have hw := hw.2
    refine xS_X2_crossedOn hx hb hI hS hin dX2_tell_38 (fun σ5 eσ5 H locs hI hS => ?_)
    have hw := hw σ5 eσ5
    refine lv_aload_n hx hb dX2_tell_39 rfl (lv_at hl 0 rfl) ?_
    refine lv_dup hx hb dX2_tell_40 rfl ?_
    refine xG_X2_count hx hb hF hown hI (hts _ (List.mem_of_getElem? (i := 2) rfl : (Cond.fieldLink RX2 33 "PlateRoom$FactBook" "count" "I" : Cond) ∈ wsX2_tell)) dX2_tell_41 ?_
    refine lv_iconst (v := 1) hx hb dX2_tell_44 (by decide) ?_
    refine lv_iadd hx hb dX2_tell_45 ?_
    refine xP_X2_count hx hb hF hown hI hS (hts _ (List.mem_of_getElem? (i := 2) rfl : (Cond.fieldLink RX2 33 "PlateRoom$FactBook" "count" "I" : Cond) ∈ wsX2_tell)) dX2_tell_46 (fun σ6 eσ6 H locs hI hS => ?_)
    have hw := hw σ6 eσ6
    refine lv_aload_n hx hb dX2_tell_49 rfl (lv_at hl 0 rfl) ?_
    refine xG_X2_count hx hb hF hown hI (hts _ (List.mem_of_getElem? (i := 2) rfl : (Cond.fieldLink RX2 33 "PlateRoom$FactBook" "count" "I" : Cond) ∈ wsX2_tell)) dX2_tell_50 ?_
    refine lv_iconst (v := 1) hx hb dX2_tell_53 (by decide) ?_
    refine lv_isub hx hb dX2_tell_54 ?_
    exact hret _ _ _ _ _ _ dX2_tell_55 hw hI hS
  have hw := hw.2 hc
  refine lv_iconst (v := (-1)) hx hb dX2_tell_7 (by decide) ?_
  exact hret _ _ _ _ _ _ dX2_tell_8 hw hI hS
set_option maxRecDepth 100000 in
set_option maxHeartbeats 4000000 in
theorem cx_X5_platePoint (l : Launch) (g : wG) {σ : wS} {x0 : Int32} {Q : Int32 → Prop} (hw : wx_X5_platePoint Q x0) : Met l yX5_platePoint wsX5_platePoint ({ frames := 0, cells := 0, slots := 0, locals := 0 } : Room) (va_Pc [.int x0] (fun U => xIn g σ U.heap U)) (va_Qi (fun r σ1 => Q r ∧ σ1 = σ) (fun σ1 t => xIn g σ1 t.heap t) (xA g)) 0 0 (xA g) := by
  refine gOfI (maxL := 1) (xMv g) (by decide) rfl (Nat.le_of_ble_eq_true rfl) ?_
  intro p e s m args below meth c QQ hx hb hml hown hts hret ls hl hI
  have hl : lv_has ls 1 [(0, .int x0)] := hl
  have hS : va_S (xA g) s.heap s.heap [] := va_S.rf
  refine lv_iconst (v := 1) hx hb dX5_platePoint_0 (by decide) ?_
  refine lv_iload_n hx hb dX5_platePoint_1 rfl (lv_at hl 0 rfl) ?_
  refine lv_iadd hx hb dX5_platePoint_2 ?_
  exact hret _ _ _ _ _ _ dX5_platePoint_3 ⟨hw, rfl⟩ hI hS
set_option maxRecDepth 100000 in
set_option maxHeartbeats 4000000 in
theorem cx_X5_motifPoint (l : Launch) (g : wG) {σ : wS} {x0 : Int32} {x1 : Int32} {Q : Int32 → Prop} (hw : wx_X5_motifPoint Q x0 x1) : Met l yX5_motifPoint wsX5_motifPoint ({ frames := 0, cells := 0, slots := 0, locals := 0 } : Room) (va_Pc [.int x0, .int x1] (fun U => xIn g σ U.heap U)) (va_Qi (fun r σ1 => Q r ∧ σ1 = σ) (fun σ1 t => xIn g σ1 t.heap t) (xA g)) 0 0 (xA g) := by
  refine gOfI (maxL := 2) (xMv g) (by decide) rfl (Nat.le_of_ble_eq_true rfl) ?_
  intro p e s m args below meth c QQ hx hb hml hown hts hret ls hl hI
  have hl : lv_has ls 2 [(0, .int x0), (1, .int x1)] := hl
  have hS : va_S (xA g) s.heap s.heap [] := va_S.rf
  refine lv_bipush (v := 21) hx hb dX5_motifPoint_0 (by decide) ?_
  refine lv_iconst (v := 2) hx hb dX5_motifPoint_2 (by decide) ?_
  refine lv_iload_n hx hb dX5_motifPoint_3 rfl (lv_at hl 0 rfl) ?_
  refine lv_imul hx hb dX5_motifPoint_4 ?_
  refine lv_iadd hx hb dX5_motifPoint_5 ?_
  refine lv_iload_n hx hb dX5_motifPoint_6 rfl (lv_at hl 1 rfl) ?_
  refine lv_if_eq (tgt := 14) hx hb dX5_motifPoint_7 (by decide) (fun hc => ?_) (fun hc => ?_)
  · have hw := hw.1 hc
    refine lv_iconst (v := 0) hx hb dX5_motifPoint_14 (by decide) ?_
    refine lv_iadd hx hb dX5_motifPoint_15 ?_
    exact hret _ _ _ _ _ _ dX5_motifPoint_16 ⟨hw, rfl⟩ hI hS
  have hw := hw.2 hc
  refine lv_iconst (v := 1) hx hb dX5_motifPoint_10 (by decide) ?_
  refine lv_goto (tgt := 15) hx hb dX5_motifPoint_11 (by decide) ?_
  refine lv_iadd hx hb dX5_motifPoint_15 ?_
  exact hret _ _ _ _ _ _ dX5_motifPoint_16 ⟨hw, rfl⟩ hI hS
set_option maxRecDepth 100000 in
set_option maxHeartbeats 4000000 in
theorem cx_X2_addLimit (l : Launch) (g : wG) {σ : wS} {x1 : Int32} {x2 : Int32} {x3 : Int32} {Q : wS → Prop} (hw : wx_X2_addLimit Q x1 x2 x3 σ) : Met l yX2_addLimit wsX2_addLimit ({ frames := 0, cells := 0, slots := 0, locals := 0 } : Room) (va_Pc [.ref (g.2.1 3), .int x1, .int x2, .int x3] (fun U => xIn g σ U.heap U)) (va_Qv Q (fun σ1 t => xIn g σ1 t.heap t) (xA g)) 0 0 (xA g) := by
  refine gOfV (maxL := 6) (xMv g) (by decide) rfl (Nat.le_of_ble_eq_true rfl) ?_
  intro p e s m args below meth c QQ hx hb hml hown hts hret ls hl hI
  have hl : lv_has ls 6 [(0, .ref (g.2.1 3)), (1, .int x1), (2, .int x2), (3, .int x3)] := hl
  have hS : va_S (xA g) s.heap s.heap [] := va_S.rf
  have hF : ∀ w ∈ wsX20, w.before args s = true := fun w h => hts w (List.mem_cons_of_mem _ (List.mem_append_right _ h))
  refine lv_aload_n hx hb dX2_addLimit_0 rfl (lv_at hl 0 rfl) ?_
  refine xG_X2_count hx hb hF hown hI (hts _ (List.mem_of_getElem? (i := 1) rfl : (Cond.fieldLink RX2 33 "PlateRoom$FactBook" "count" "I" : Cond) ∈ wsX2_addLimit)) dX2_addLimit_1 ?_
  refine lv_iconst (v := 1) hx hb dX2_addLimit_4 (by decide) ?_
  refine lv_isub hx hb dX2_addLimit_5 ?_
  refine lv_topi (fun a1 ea1 => ?_)
  have hw := hw a1 ea1
  refine lv_istore (lv' := [(4, .int a1), (0, .ref (g.2.1 3)), (1, .int x1), (2, .int x2), (3, .int x3)]) hx hb dX2_addLimit_6 hl (by decide) rfl (fun ls hl => ?_)
  refine lv_iload hx hb dX2_addLimit_8 (lv_at hl 0 rfl) ?_
  refine lv_if_lt (tgt := 24) hx hb dX2_addLimit_10 (by decide) (fun hc => ?_) (fun hc => ?_)
  · have hw := hw.1 hc
    exact hret _ _ _ _ _ dX2_addLimit_24 hw hI hS
  have hw := hw.2 hc
  refine lv_aload_n hx hb dX2_addLimit_13 rfl (lv_at hl 1 rfl) ?_
  refine xG_X2_limitCounts hx hb hF hown hI (hts _ (List.mem_of_getElem? (i := 2) rfl : (Cond.fieldLink RX2 21 "PlateRoom$FactBook" "limitCounts" "[I" : Cond) ∈ wsX2_addLimit)) dX2_addLimit_14 ?_
  refine lv_iload hx hb dX2_addLimit_17 (lv_at hl 0 rfl) ?_
  have hin := hw.1
  have hw := hw.2
  refine xR_X2_limitCounts hx hb hI hin dX2_addLimit_19 ?_
  refine lv_iconst (v := 2) hx hb dX2_addLimit_20 (by decide) ?_
  refine lv_icmp_lt (tgt := 25) hx hb dX2_addLimit_21 (by decide) (fun hc => ?_) (fun hc => ?_)
  · have hw := hw.1 hc
    refine lv_iconst (v := 2) hx hb dX2_addLimit_25 (by decide) ?_
    refine lv_iload hx hb dX2_addLimit_26 (lv_at hl 0 rfl) ?_
    refine lv_imul hx hb dX2_addLimit_28 ?_
    refine lv_aload_n hx hb dX2_addLimit_29 rfl (lv_at hl 1 rfl) ?_
    refine xG_X2_limitCounts hx hb hF hown hI (hts _ (List.mem_of_getElem? (i := 2) rfl : (Cond.fieldLink RX2 21 "PlateRoom$FactBook" "limitCounts" "[I" : Cond) ∈ wsX2_addLimit)) dX2_addLimit_30 ?_
    refine lv_iload hx hb dX2_addLimit_33 (lv_at hl 0 rfl) ?_
    have hin := hw.1
    have hw := hw.2
    refine xR_X2_limitCounts hx hb hI hin dX2_addLimit_35 ?_
    refine lv_iadd hx hb dX2_addLimit_36 ?_
    refine lv_topi (fun a2 ea2 => ?_)
    have hw := hw a2 ea2
    refine lv_istore (lv' := [(5, .int a2), (4, .int a1), (0, .ref (g.2.1 3)), (1, .int x1), (2, .int x2), (3, .int x3)]) hx hb dX2_addLimit_37 hl (by decide) rfl (fun ls hl => ?_)
    refine lv_aload_n hx hb dX2_addLimit_39 rfl (lv_at hl 2 rfl) ?_
    refine xG_X2_tails hx hb hF hown hI (hts _ (List.mem_of_getElem? (i := 3) rfl : (Cond.fieldLink RX2 24 "PlateRoom$FactBook" "tails" "[I" : Cond) ∈ wsX2_addLimit)) dX2_addLimit_40 ?_
    refine lv_iload hx hb dX2_addLimit_43 (lv_at hl 0 rfl) ?_
    refine lv_iload_n hx hb dX2_addLimit_45 rfl (lv_at hl 3 rfl) ?_
    have hin := hw.1
    have hw := hw.2
    refine xS_X2_tails hx hb hI hS hin dX2_addLimit_46 (fun σ3 eσ3 H locs hI hS => ?_)
    have hw := hw σ3 eσ3
    refine lv_aload_n hx hb dX2_addLimit_47 rfl (lv_at hl 2 rfl) ?_
    refine xG_X2_heads hx hb hF hown hI (hts _ (List.mem_of_getElem? (i := 4) rfl : (Cond.fieldLink RX2 27 "PlateRoom$FactBook" "heads" "[I" : Cond) ∈ wsX2_addLimit)) dX2_addLimit_48 ?_
    refine lv_iload hx hb dX2_addLimit_51 (lv_at hl 0 rfl) ?_
    refine lv_iload_n hx hb dX2_addLimit_53 rfl (lv_at hl 4 rfl) ?_
    have hin := hw.1
    have hw := hw.2
    refine xS_X2_heads hx hb hI hS hin dX2_addLimit_54 (fun σ4 eσ4 H locs hI hS => ?_)
    have hw := hw σ4 eσ4
    refine lv_aload_n hx hb dX2_addLimit_55 rfl (lv_at hl 2 rfl) ?_
    refine xG_X2_lengths hx hb hF hown hI (hts _ (List.mem_of_getElem? (i := 5) rfl : (Cond.fieldLink RX2 30 "PlateRoom$FactBook" "lengths" "[I" : Cond) ∈ wsX2_addLimit)) dX2_addLimit_56 ?_
    refine lv_iload hx hb dX2_addLimit_59 (lv_at hl 0 rfl) ?_
    refine lv_iload_n hx hb dX2_addLimit_61 rfl (lv_at hl 5 rfl) ?_
    have hin := hw.1
    have hw := hw.2
    refine xS_X2_lengths hx hb hI hS hin dX2_addLimit_62 (fun σ5 eσ5 H locs hI hS => ?_)
    have hw := hw σ5 eσ5
    refine lv_aload_n hx hb dX2_addLimit_63 rfl (lv_at hl 2 rfl) ?_
    refine xG_X2_limitCounts hx hb hF hown hI (hts _ (List.mem_of_getElem? (i := 2) rfl : (Cond.fieldLink RX2 21 "PlateRoom$FactBook" "limitCounts" "[I" : Cond) ∈ wsX2_addLimit)) dX2_addLimit_64 ?_
    refine lv_iload hx hb dX2_addLimit_67 (lv_at hl 1 rfl) ?_
    refine lv_dup2_11 hx hb dX2_addLimit_69 rfl rfl ?_
    have hin := hw.1
    have hw := hw.2
    refine xR_X2_limitCounts hx hb hI hin dX2_addLimit_70 ?_
    refine lv_iconst (v := 1) hx hb dX2_addLimit_71 (by decide) ?_
    refine lv_iadd hx hb dX2_addLimit_72 ?_
    have hin := hw.1
    have hw := hw.2
    refine xS_X2_limitCounts hx hb hI hS hin dX2_addLimit_73 (fun σ6 eσ6 H locs hI hS => ?_)
    have hw := hw σ6 eσ6
    exact hret _ _ _ _ _ dX2_addLimit_74 hw hI hS
  have hw := hw.2 hc
  exact hret _ _ _ _ _ dX2_addLimit_24 hw hI hS
set_option maxRecDepth 100000 in
set_option maxHeartbeats 4000000 in
theorem cx_X5_shows (l : Launch) (g : wG) {σ : wS} {x1 : Int32} {x2 : Int32} {x3 : Int32} {Q : Int32 → wS → Prop} (hw : wx_X5_shows Q x1 x2 x3 σ) : Met l yX5_shows wsX5_shows ({ frames := 2, cells := 0, slots := 0, locals := 44 } : Room) (va_Pc [.ref (g.2.1 0), .int x1, .int x2, .int x3] (fun U => xIn g σ U.heap U)) (va_Qi Q (fun σ1 t => xIn g σ1 t.heap t) (xA g)) 0 0 (xA g) := by
  refine gOfI (maxL := 6) (xMv g) (by decide) rfl (Nat.le_of_ble_eq_true rfl) ?_
  intro p e s m args below meth c QQ hx hb hml hown hts hret ls hl hI
  have hl : lv_has ls 6 [(0, .ref (g.2.1 0)), (1, .int x1), (2, .int x2), (3, .int x3)] := hl
  have hS : va_S (xA g) s.heap s.heap [] := va_S.rf
  have hF : ∀ w ∈ wsX50, w.before args s = true := fun w h => hts w (List.mem_cons_of_mem _ (List.mem_append_left _ (List.mem_append_right _ h)))
  have j22 : ∀ (x1 : Int32) (x2 : Int32) (x3 : Int32) (s1 : Int32) (σ : wS) (H : Heap) (locs : List Loc) (ls : Array Slot), xIn g σ H s → va_S (xA g) s.heap H locs → lv_has ls 6 [(0, .ref (g.2.1 0)), (1, .int x1), (2, .int x2), (3, .int x3)] → wx_X5_shows_J22 Q x1 x2 x3 s1 σ → W p l e ({ frames := 2, cells := 0, slots := 0, locals := 44 } : Room) s m args below meth c H locs 0 0 QQ (F0 m 22 ls [.int s1, .ref (g.2.1 0)]) := by
    intro x1 x2 x3 s1 σ H locs ls hI hS hl hw
    refine lv_iload_n hx hb dX5_shows_22 rfl (lv_at hl 3 rfl) ?_
    refine gSi (cx_X5_isDay l g (σ := σ) hw) (xMv g) ⟨hx, hb, hml, hown, hts⟩ (va_cwS 1 hts gX5_shows_X5_isDay rfl rfl rfl (by decide +kernel) ⟨Nat.le_of_ble_eq_true rfl, Nat.le_of_ble_eq_true rfl⟩) hI hS hl.1 rfl rfl (Nat.le_of_ble_eq_true rfl) dX5_shows_23 (fun r1 σ2 H locs hw hI hS => ?_)
    obtain ⟨hw, hq⟩ := hw
    rw [hq] at hI
    refine gVi (cx_X5_whyNoFact l g (σ := σ) hw) (xMv g) ⟨hx, hb, hml, hown, hts⟩ (cwV 2 hts gX5_shows_X5_whyNoFact rfl rfl rfl (by decide +kernel) ⟨Nat.le_of_ble_eq_true rfl, Nat.le_of_ble_eq_true rfl⟩) (xRecv_X5 hI) hI hS hl.1 rfl rfl (Nat.le_of_ble_eq_true rfl) dX5_shows_26 (fun r3 σ4 H locs hw hI hS => ?_)
    obtain ⟨hw, hq⟩ := hw
    rw [hq] at hI
    refine lv_istore (lv' := [(4, .int r3), (0, .ref (g.2.1 0)), (1, .int x1), (2, .int x2), (3, .int x3)]) hx hb dX5_shows_29 hl (by decide) rfl (fun ls hl => ?_)
    refine lv_iload hx hb dX5_shows_31 (lv_at hl 0 rfl) ?_
    refine lv_if_eq (tgt := 43) hx hb dX5_shows_33 (by decide) (fun hc => ?_) (fun hc => ?_)
    · have hw := hw.1 hc
      refine lv_aload_n hx hb dX5_shows_43 rfl (lv_at hl 1 rfl) ?_
      refine xG_X5_facts hx hb hF hown hI (hts _ (List.mem_of_getElem? (i := 1) rfl : (Cond.fieldLink RX5 12 "PlateRoom" "facts" "LPlateRoom$FactBook;" : Cond) ∈ wsX5_shows)) dX5_shows_44 ?_
      refine lv_iconst (v := 0) hx hb dX5_shows_47 (by decide) ?_
      refine lv_iload_n hx hb dX5_shows_48 rfl (lv_at hl 4 rfl) ?_
      refine gVi (cx_X2_tell l g (σ := σ) hw) (xMv g) ⟨hx, hb, hml, hown, hts⟩ (cwV 2 hts gX5_shows_X2_tell rfl rfl rfl (by decide +kernel) ⟨Nat.le_of_ble_eq_true rfl, Nat.le_of_ble_eq_true rfl⟩) (xRecv_X2 hI) hI hS hl.1 rfl rfl (Nat.le_of_ble_eq_true rfl) dX5_shows_49 (fun r5 σ6 H locs hw hI hS => ?_)
      refine lv_istore (lv' := [(5, .int r5), (4, .int r3), (0, .ref (g.2.1 0)), (1, .int x1), (2, .int x2), (3, .int x3)]) hx hb dX5_shows_52 hl (by decide) rfl (fun ls hl => ?_)
      refine lv_aload_n hx hb dX5_shows_54 rfl (lv_at hl 2 rfl) ?_
      refine xG_X5_facts hx hb hF hown hI (hts _ (List.mem_of_getElem? (i := 1) rfl : (Cond.fieldLink RX5 12 "PlateRoom" "facts" "LPlateRoom$FactBook;" : Cond) ∈ wsX5_shows)) dX5_shows_55 ?_
      refine lv_iload_n hx hb dX5_shows_58 rfl (lv_at hl 3 rfl) ?_
      refine gSi (cx_X5_platePoint l g (σ := σ6) hw) (xMv g) ⟨hx, hb, hml, hown, hts⟩ (va_cwS 1 hts gX5_shows_X5_platePoint rfl rfl rfl (by decide +kernel) ⟨Nat.le_of_ble_eq_true rfl, Nat.le_of_ble_eq_true rfl⟩) hI hS hl.1 rfl rfl (Nat.le_of_ble_eq_true rfl) dX5_shows_59 (fun r7 σ8 H locs hw hI hS => ?_)
      obtain ⟨hw, hq⟩ := hw
      rw [hq] at hI
      refine lv_iload_n hx hb dX5_shows_62 rfl (lv_at hl 4 rfl) ?_
      refine lv_iconst (v := 0) hx hb dX5_shows_63 (by decide) ?_
      refine gSi (cx_X5_motifPoint l g (σ := σ6) hw) (xMv g) ⟨hx, hb, hml, hown, hts⟩ (va_cwS 2 hts gX5_shows_X5_motifPoint rfl rfl rfl (by decide +kernel) ⟨Nat.le_of_ble_eq_true rfl, Nat.le_of_ble_eq_true rfl⟩) hI hS hl.1 rfl rfl (Nat.le_of_ble_eq_true rfl) dX5_shows_64 (fun r9 σ10 H locs hw hI hS => ?_)
      obtain ⟨hw, hq⟩ := hw
      rw [hq] at hI
      refine lv_iconst (v := 0) hx hb dX5_shows_67 (by decide) ?_
      refine gVv (cx_X2_addLimit l g (σ := σ6) hw) (xMv g) ⟨hx, hb, hml, hown, hts⟩ (cwV 3 hts gX5_shows_X2_addLimit rfl rfl rfl (by decide +kernel) ⟨Nat.le_of_ble_eq_true rfl, Nat.le_of_ble_eq_true rfl⟩) (xRecv_X2 hI) hI hS hl.1 rfl rfl (Nat.le_of_ble_eq_true rfl) dX5_shows_68 (fun σ11 H locs hw hI hS => ?_)
      refine lv_aload_n hx hb dX5_shows_71 rfl (lv_at hl 2 rfl) ?_
      refine xG_X5_facts hx hb hF hown hI (hts _ (List.mem_of_getElem? (i := 1) rfl : (Cond.fieldLink RX5 12 "PlateRoom" "facts" "LPlateRoom$FactBook;" : Cond) ∈ wsX5_shows)) dX5_shows_72 ?_
      refine lv_iload_n hx hb dX5_shows_75 rfl (lv_at hl 4 rfl) ?_
      refine lv_iconst (v := 1) hx hb dX5_shows_76 (by decide) ?_
      refine gSi (cx_X5_motifPoint l g (σ := σ11) hw) (xMv g) ⟨hx, hb, hml, hown, hts⟩ (va_cwS 2 hts gX5_shows_X5_motifPoint rfl rfl rfl (by decide +kernel) ⟨Nat.le_of_ble_eq_true rfl, Nat.le_of_ble_eq_true rfl⟩) hI hS hl.1 rfl rfl (Nat.le_of_ble_eq_true rfl) dX5_shows_77 (fun r12 σ13 H locs hw hI hS => ?_)
      obtain ⟨hw, hq⟩ := hw
      rw [hq] at hI
      refine lv_iload_n hx hb dX5_shows_80 rfl (lv_at hl 3 rfl) ?_
      refine gSi (cx_X5_platePoint l g (σ := σ11) hw) (xMv g) ⟨hx, hb, hml, hown, hts⟩ (va_cwS 1 hts gX5_shows_X5_platePoint rfl rfl rfl (by decide +kernel) ⟨Nat.le_of_ble_eq_true rfl, Nat.le_of_ble_eq_true rfl⟩) hI hS hl.1 rfl rfl (Nat.le_of_ble_eq_true rfl) dX5_shows_81 (fun r14 σ15 H locs hw hI hS => ?_)
      obtain ⟨hw, hq⟩ := hw
      rw [hq] at hI
      refine lv_iconst (v := 0) hx hb dX5_shows_84 (by decide) ?_
      refine gVv (cx_X2_addLimit l g (σ := σ11) hw) (xMv g) ⟨hx, hb, hml, hown, hts⟩ (cwV 3 hts gX5_shows_X2_addLimit rfl rfl rfl (by decide +kernel) ⟨Nat.le_of_ble_eq_true rfl, Nat.le_of_ble_eq_true rfl⟩) (xRecv_X2 hI) hI hS hl.1 rfl rfl (Nat.le_of_ble_eq_true rfl) dX5_shows_85 (fun σ16 H locs hw hI hS => ?_)
      refine lv_aload_n hx hb dX5_shows_88 rfl (lv_at hl 2 rfl) ?_
      refine lv_iload hx hb dX5_shows_89 (lv_at hl 0 rfl) ?_
      refine gVi (cx_X5_answer l g (σ := σ16) hw) (xMv g) ⟨hx, hb, hml, hown, hts⟩ (cwV 1 hts gX5_shows_X5_answer rfl rfl rfl (by decide +kernel) ⟨Nat.le_of_ble_eq_true rfl, Nat.le_of_ble_eq_true rfl⟩) (xRecv_X5 hI) hI hS hl.1 rfl rfl (Nat.le_of_ble_eq_true rfl) dX5_shows_91 (fun r17 σ18 H locs hw hI hS => ?_)
      exact hret _ _ _ _ _ _ dX5_shows_94 hw hI hS
    have hw := hw.2 hc
    refine lv_aload_n hx hb dX5_shows_36 rfl (lv_at hl 1 rfl) ?_
    refine lv_iload hx hb dX5_shows_37 (lv_at hl 0 rfl) ?_
    refine gVi (cx_X5_refuse l g (σ := σ) hw) (xMv g) ⟨hx, hb, hml, hown, hts⟩ (cwV 1 hts gX5_shows_X5_refuse rfl rfl rfl (by decide +kernel) ⟨Nat.le_of_ble_eq_true rfl, Nat.le_of_ble_eq_true rfl⟩) (xRecv_X5 hI) hI hS hl.1 rfl rfl (Nat.le_of_ble_eq_true rfl) dX5_shows_39 (fun r19 σ20 H locs hw hI hS => ?_)
    exact hret _ _ _ _ _ _ dX5_shows_42 hw hI hS
  have j21 : ∀ (x1 : Int32) (x2 : Int32) (x3 : Int32) (σ : wS) (H : Heap) (locs : List Loc) (ls : Array Slot), xIn g σ H s → va_S (xA g) s.heap H locs → lv_has ls 6 [(0, .ref (g.2.1 0)), (1, .int x1), (2, .int x2), (3, .int x3)] → wx_X5_shows_J21 Q x1 x2 x3 σ → W p l e ({ frames := 2, cells := 0, slots := 0, locals := 44 } : Room) s m args below meth c H locs 0 0 QQ (F0 m 21 ls [.ref (g.2.1 0)]) := by
    intro x1 x2 x3 σ H locs ls hI hS hl hw
    refine lv_iconst (v := 0) hx hb dX5_shows_21 (by decide) ?_
    exact j22 _ _ _ _ _ _ _ _ hI hS (lv_sub hl [0, 1, 2, 3] rfl) hw
  refine lv_aload_n hx hb dX5_shows_0 rfl (lv_at hl 0 rfl) ?_
  refine lv_aload_n hx hb dX5_shows_1 rfl (lv_at hl 0 rfl) ?_
  refine lv_iload_n hx hb dX5_shows_2 rfl (lv_at hl 1 rfl) ?_
  refine gVi (cx_X5_isPlate l g (σ := σ) hw) (xMv g) ⟨hx, hb, hml, hown, hts⟩ (cwV 1 hts gX5_shows_X5_isPlate rfl rfl rfl (by decide +kernel) ⟨Nat.le_of_ble_eq_true rfl, Nat.le_of_ble_eq_true rfl⟩) (xRecv_X5 hI) hI hS hl.1 rfl rfl (Nat.le_of_ble_eq_true rfl) dX5_shows_3 (fun r1 σ2 H locs hw hI hS => ?_)
  obtain ⟨hw, hq⟩ := hw
  rw [hq] at hI
  refine lv_if_eq (tgt := 21) hx hb dX5_shows_6 (by decide) (fun hc => ?_) (fun hc => ?_)
  · have hw := hw.1 hc
    exact j21 _ _ _ _ _ _ _ hI hS (lv_sub hl [0, 1, 2, 3] rfl) hw
  have hw := hw.2 hc
  refine lv_aload_n hx hb dX5_shows_9 rfl (lv_at hl 0 rfl) ?_
  refine lv_iload_n hx hb dX5_shows_10 rfl (lv_at hl 2 rfl) ?_
  refine gVi (cx_X5_isMotif l g (σ := σ) hw) (xMv g) ⟨hx, hb, hml, hown, hts⟩ (cwV 1 hts gX5_shows_X5_isMotif rfl rfl rfl (by decide +kernel) ⟨Nat.le_of_ble_eq_true rfl, Nat.le_of_ble_eq_true rfl⟩) (xRecv_X5 hI) hI hS hl.1 rfl rfl (Nat.le_of_ble_eq_true rfl) dX5_shows_11 (fun r3 σ4 H locs hw hI hS => ?_)
  obtain ⟨hw, hq⟩ := hw
  rw [hq] at hI
  refine lv_if_eq (tgt := 21) hx hb dX5_shows_14 (by decide) (fun hc => ?_) (fun hc => ?_)
  · have hw := hw.1 hc
    exact j21 _ _ _ _ _ _ _ hI hS (lv_sub hl [0, 1, 2, 3] rfl) hw
  have hw := hw.2 hc
  refine lv_iconst (v := 1) hx hb dX5_shows_17 (by decide) ?_
  refine lv_goto (tgt := 22) hx hb dX5_shows_18 (by decide) ?_
  exact j22 _ _ _ _ _ _ _ _ hI hS (lv_sub hl [0, 1, 2, 3] rfl) hw
set_option maxRecDepth 100000 in
set_option maxHeartbeats 4000000 in
theorem cx_X5_areTwoPlates (l : Launch) (g : wG) {σ : wS} {x1 : Int32} {x2 : Int32} {Q : Int32 → Prop} (hw : wx_X5_areTwoPlates Q x1 x2 σ) : Met l yX5_areTwoPlates wsX5_areTwoPlates ({ frames := 1, cells := 0, slots := 0, locals := 21 } : Room) (va_Pc [.ref (g.2.1 0), .int x1, .int x2] (fun U => xIn g σ U.heap U)) (va_Qi (fun r σ1 => Q r ∧ σ1 = σ) (fun σ1 t => xIn g σ1 t.heap t) (xA g)) 0 0 (xA g) := by
  refine gOfZ (maxL := 3) (xMv g) (by decide) rfl (Nat.le_of_ble_eq_true rfl) ?_
  intro p e s m args below meth c QQ hx hb hml hown hts hret ls hl hI
  have hl : lv_has ls 3 [(0, .ref (g.2.1 0)), (1, .int x1), (2, .int x2)] := hl
  have hS : va_S (xA g) s.heap s.heap [] := va_S.rf
  refine lv_aload_n hx hb dX5_areTwoPlates_0 rfl (lv_at hl 0 rfl) ?_
  refine lv_iload_n hx hb dX5_areTwoPlates_1 rfl (lv_at hl 1 rfl) ?_
  refine gVi (cx_X5_isPlate l g (σ := σ) hw) (xMv g) ⟨hx, hb, hml, hown, hts⟩ (cwV 1 hts gX5_areTwoPlates_X5_isPlate rfl rfl rfl (by decide +kernel) ⟨Nat.le_of_ble_eq_true rfl, Nat.le_of_ble_eq_true rfl⟩) (xRecv_X5 hI) hI hS hl.1 rfl rfl (Nat.le_of_ble_eq_true rfl) dX5_areTwoPlates_2 (fun r1 σ2 H locs hw hI hS => ?_)
  obtain ⟨hw, hq⟩ := hw
  rw [hq] at hI
  refine lv_if_eq (tgt := 25) hx hb dX5_areTwoPlates_5 (by decide) (fun hc => ?_) (fun hc => ?_)
  · have hw := hw.1 hc
    refine lv_iconst (v := 0) hx hb dX5_areTwoPlates_25 (by decide) ?_
    exact hret _ _ _ _ _ _ dX5_areTwoPlates_26 isB0 ⟨hw, rfl⟩ hI hS
  have hw := hw.2 hc
  refine lv_aload_n hx hb dX5_areTwoPlates_8 rfl (lv_at hl 0 rfl) ?_
  refine lv_iload_n hx hb dX5_areTwoPlates_9 rfl (lv_at hl 2 rfl) ?_
  refine gVi (cx_X5_isPlate l g (σ := σ) hw) (xMv g) ⟨hx, hb, hml, hown, hts⟩ (cwV 1 hts gX5_areTwoPlates_X5_isPlate rfl rfl rfl (by decide +kernel) ⟨Nat.le_of_ble_eq_true rfl, Nat.le_of_ble_eq_true rfl⟩) (xRecv_X5 hI) hI hS hl.1 rfl rfl (Nat.le_of_ble_eq_true rfl) dX5_areTwoPlates_10 (fun r3 σ4 H locs hw hI hS => ?_)
  obtain ⟨hw, hq⟩ := hw
  rw [hq] at hI
  refine lv_if_eq (tgt := 25) hx hb dX5_areTwoPlates_13 (by decide) (fun hc => ?_) (fun hc => ?_)
  · have hw := hw.1 hc
    refine lv_iconst (v := 0) hx hb dX5_areTwoPlates_25 (by decide) ?_
    exact hret _ _ _ _ _ _ dX5_areTwoPlates_26 isB0 ⟨hw, rfl⟩ hI hS
  have hw := hw.2 hc
  refine lv_iload_n hx hb dX5_areTwoPlates_16 rfl (lv_at hl 1 rfl) ?_
  refine lv_iload_n hx hb dX5_areTwoPlates_17 rfl (lv_at hl 2 rfl) ?_
  refine lv_icmp_eq (tgt := 25) hx hb dX5_areTwoPlates_18 (by decide) (fun hc => ?_) (fun hc => ?_)
  · have hw := hw.1 hc
    refine lv_iconst (v := 0) hx hb dX5_areTwoPlates_25 (by decide) ?_
    exact hret _ _ _ _ _ _ dX5_areTwoPlates_26 isB0 ⟨hw, rfl⟩ hI hS
  have hw := hw.2 hc
  refine lv_iconst (v := 1) hx hb dX5_areTwoPlates_21 (by decide) ?_
  refine lv_goto (tgt := 26) hx hb dX5_areTwoPlates_22 (by decide) ?_
  exact hret _ _ _ _ _ _ dX5_areTwoPlates_26 isB1 ⟨hw, rfl⟩ hI hS
set_option maxRecDepth 100000 in
set_option maxHeartbeats 4000000 in
theorem cx_X5_ahead (l : Launch) (g : wG) {σ : wS} {x1 : Int32} {x2 : Int32} {x3 : Int32} {x4 : Int32} {Q : Int32 → wS → Prop} (hw : wx_X5_ahead Q x1 x2 x3 x4 σ) : Met l yX5_ahead wsX5_ahead ({ frames := 2, cells := 0, slots := 0, locals := 44 } : Room) (va_Pc [.ref (g.2.1 0), .int x1, .int x2, .int x3, .int x4] (fun U => xIn g σ U.heap U)) (va_Qi Q (fun σ1 t => xIn g σ1 t.heap t) (xA g)) 0 0 (xA g) := by
  refine gOfI (maxL := 7) (xMv g) (by decide) rfl (Nat.le_of_ble_eq_true rfl) ?_
  intro p e s m args below meth c QQ hx hb hml hown hts hret ls hl hI
  have hl : lv_has ls 7 [(0, .ref (g.2.1 0)), (1, .int x1), (2, .int x2), (3, .int x3), (4, .int x4)] := hl
  have hS : va_S (xA g) s.heap s.heap [] := va_S.rf
  have hF : ∀ w ∈ wsX50, w.before args s = true := fun w h => hts w (List.mem_cons_of_mem _ (List.mem_append_left _ (List.mem_append_right _ h)))
  have j31 : ∀ (x1 : Int32) (x2 : Int32) (x3 : Int32) (x4 : Int32) (s1 : Int32) (s2 : Int32) (σ : wS) (H : Heap) (locs : List Loc) (ls : Array Slot), xIn g σ H s → va_S (xA g) s.heap H locs → lv_has ls 7 [(0, .ref (g.2.1 0)), (1, .int x1), (2, .int x2), (3, .int x3), (4, .int x4)] → wx_X5_ahead_J31 Q x1 x2 x3 x4 s1 s2 σ → W p l e ({ frames := 2, cells := 0, slots := 0, locals := 44 } : Room) s m args below meth c H locs 0 0 QQ (F0 m 31 ls [.int s2, .int s1, .ref (g.2.1 0)]) := by
    intro x1 x2 x3 x4 s1 s2 σ H locs ls hI hS hl hw
    refine gVi (cx_X5_whyNoFact l g (σ := σ) hw) (xMv g) ⟨hx, hb, hml, hown, hts⟩ (cwV 2 hts gX5_ahead_X5_whyNoFact rfl rfl rfl (by decide +kernel) ⟨Nat.le_of_ble_eq_true rfl, Nat.le_of_ble_eq_true rfl⟩) (xRecv_X5 hI) hI hS hl.1 rfl rfl (Nat.le_of_ble_eq_true rfl) dX5_ahead_31 (fun r1 σ2 H locs hw hI hS => ?_)
    obtain ⟨hw, hq⟩ := hw
    rw [hq] at hI
    refine lv_istore (lv' := [(5, .int r1), (0, .ref (g.2.1 0)), (1, .int x1), (2, .int x2), (3, .int x3), (4, .int x4)]) hx hb dX5_ahead_34 hl (by decide) rfl (fun ls hl => ?_)
    refine lv_iload hx hb dX5_ahead_36 (lv_at hl 0 rfl) ?_
    refine lv_if_eq (tgt := 48) hx hb dX5_ahead_38 (by decide) (fun hc => ?_) (fun hc => ?_)
    · have hw := hw.1 hc
      refine lv_aload_n hx hb dX5_ahead_48 rfl (lv_at hl 1 rfl) ?_
      refine xG_X5_facts hx hb hF hown hI (hts _ (List.mem_of_getElem? (i := 3) rfl : (Cond.fieldLink RX5 12 "PlateRoom" "facts" "LPlateRoom$FactBook;" : Cond) ∈ wsX5_ahead)) dX5_ahead_49 ?_
      refine lv_iconst (v := 1) hx hb dX5_ahead_52 (by decide) ?_
      refine lv_iload hx hb dX5_ahead_53 (lv_at hl 5 rfl) ?_
      refine gVi (cx_X2_tell l g (σ := σ) hw) (xMv g) ⟨hx, hb, hml, hown, hts⟩ (cwV 2 hts gX5_ahead_X2_tell rfl rfl rfl (by decide +kernel) ⟨Nat.le_of_ble_eq_true rfl, Nat.le_of_ble_eq_true rfl⟩) (xRecv_X2 hI) hI hS hl.1 rfl rfl (Nat.le_of_ble_eq_true rfl) dX5_ahead_55 (fun r3 σ4 H locs hw hI hS => ?_)
      refine lv_istore (lv' := [(6, .int r3), (5, .int r1), (0, .ref (g.2.1 0)), (1, .int x1), (2, .int x2), (3, .int x3), (4, .int x4)]) hx hb dX5_ahead_58 hl (by decide) rfl (fun ls hl => ?_)
      refine lv_aload_n hx hb dX5_ahead_60 rfl (lv_at hl 2 rfl) ?_
      refine xG_X5_facts hx hb hF hown hI (hts _ (List.mem_of_getElem? (i := 3) rfl : (Cond.fieldLink RX5 12 "PlateRoom" "facts" "LPlateRoom$FactBook;" : Cond) ∈ wsX5_ahead)) dX5_ahead_61 ?_
      refine lv_iload_n hx hb dX5_ahead_64 rfl (lv_at hl 4 rfl) ?_
      refine gSi (cx_X5_platePoint l g (σ := σ4) hw) (xMv g) ⟨hx, hb, hml, hown, hts⟩ (va_cwS 1 hts gX5_ahead_X5_platePoint rfl rfl rfl (by decide +kernel) ⟨Nat.le_of_ble_eq_true rfl, Nat.le_of_ble_eq_true rfl⟩) hI hS hl.1 rfl rfl (Nat.le_of_ble_eq_true rfl) dX5_ahead_65 (fun r5 σ6 H locs hw hI hS => ?_)
      obtain ⟨hw, hq⟩ := hw
      rw [hq] at hI
      refine lv_iload_n hx hb dX5_ahead_68 rfl (lv_at hl 3 rfl) ?_
      refine gSi (cx_X5_platePoint l g (σ := σ4) hw) (xMv g) ⟨hx, hb, hml, hown, hts⟩ (va_cwS 1 hts gX5_ahead_X5_platePoint rfl rfl rfl (by decide +kernel) ⟨Nat.le_of_ble_eq_true rfl, Nat.le_of_ble_eq_true rfl⟩) hI hS hl.1 rfl rfl (Nat.le_of_ble_eq_true rfl) dX5_ahead_69 (fun r7 σ8 H locs hw hI hS => ?_)
      obtain ⟨hw, hq⟩ := hw
      rw [hq] at hI
      refine lv_iload_n hx hb dX5_ahead_72 rfl (lv_at hl 5 rfl) ?_
      refine lv_ineg hx hb dX5_ahead_73 ?_
      refine gVv (cx_X2_addLimit l g (σ := σ4) hw) (xMv g) ⟨hx, hb, hml, hown, hts⟩ (cwV 3 hts gX5_ahead_X2_addLimit rfl rfl rfl (by decide +kernel) ⟨Nat.le_of_ble_eq_true rfl, Nat.le_of_ble_eq_true rfl⟩) (xRecv_X2 hI) hI hS hl.1 rfl rfl (Nat.le_of_ble_eq_true rfl) dX5_ahead_74 (fun σ9 H locs hw hI hS => ?_)
      refine lv_aload_n hx hb dX5_ahead_77 rfl (lv_at hl 2 rfl) ?_
      refine lv_iload hx hb dX5_ahead_78 (lv_at hl 0 rfl) ?_
      refine gVi (cx_X5_answer l g (σ := σ9) hw) (xMv g) ⟨hx, hb, hml, hown, hts⟩ (cwV 1 hts gX5_ahead_X5_answer rfl rfl rfl (by decide +kernel) ⟨Nat.le_of_ble_eq_true rfl, Nat.le_of_ble_eq_true rfl⟩) (xRecv_X5 hI) hI hS hl.1 rfl rfl (Nat.le_of_ble_eq_true rfl) dX5_ahead_80 (fun r10 σ11 H locs hw hI hS => ?_)
      exact hret _ _ _ _ _ _ dX5_ahead_83 hw hI hS
    have hw := hw.2 hc
    refine lv_aload_n hx hb dX5_ahead_41 rfl (lv_at hl 1 rfl) ?_
    refine lv_iload hx hb dX5_ahead_42 (lv_at hl 0 rfl) ?_
    refine gVi (cx_X5_refuse l g (σ := σ) hw) (xMv g) ⟨hx, hb, hml, hown, hts⟩ (cwV 1 hts gX5_ahead_X5_refuse rfl rfl rfl (by decide +kernel) ⟨Nat.le_of_ble_eq_true rfl, Nat.le_of_ble_eq_true rfl⟩) (xRecv_X5 hI) hI hS hl.1 rfl rfl (Nat.le_of_ble_eq_true rfl) dX5_ahead_44 (fun r12 σ13 H locs hw hI hS => ?_)
    exact hret _ _ _ _ _ _ dX5_ahead_47 hw hI hS
  have j30 : ∀ (x1 : Int32) (x2 : Int32) (x3 : Int32) (x4 : Int32) (s1 : Int32) (σ : wS) (H : Heap) (locs : List Loc) (ls : Array Slot), xIn g σ H s → va_S (xA g) s.heap H locs → lv_has ls 7 [(0, .ref (g.2.1 0)), (1, .int x1), (2, .int x2), (3, .int x3), (4, .int x4)] → wx_X5_ahead_J30 Q x1 x2 x3 x4 s1 σ → W p l e ({ frames := 2, cells := 0, slots := 0, locals := 44 } : Room) s m args below meth c H locs 0 0 QQ (F0 m 30 ls [.int s1, .ref (g.2.1 0)]) := by
    intro x1 x2 x3 x4 s1 σ H locs ls hI hS hl hw
    refine lv_iconst (v := 0) hx hb dX5_ahead_30 (by decide) ?_
    exact j31 _ _ _ _ _ _ _ _ _ _ hI hS (lv_sub hl [0, 1, 2, 3, 4] rfl) hw
  refine lv_aload_n hx hb dX5_ahead_0 rfl (lv_at hl 0 rfl) ?_
  refine lv_aload_n hx hb dX5_ahead_1 rfl (lv_at hl 0 rfl) ?_
  refine lv_iload_n hx hb dX5_ahead_2 rfl (lv_at hl 1 rfl) ?_
  refine lv_iload_n hx hb dX5_ahead_3 rfl (lv_at hl 2 rfl) ?_
  refine gVi (cx_X5_areTwoPlates l g (σ := σ) hw) (xMv g) ⟨hx, hb, hml, hown, hts⟩ (cwV 2 hts gX5_ahead_X5_areTwoPlates rfl rfl rfl (by decide +kernel) ⟨Nat.le_of_ble_eq_true rfl, Nat.le_of_ble_eq_true rfl⟩) (xRecv_X5 hI) hI hS hl.1 rfl rfl (Nat.le_of_ble_eq_true rfl) dX5_ahead_4 (fun r1 σ2 H locs hw hI hS => ?_)
  obtain ⟨hw, hq⟩ := hw
  rw [hq] at hI
  refine lv_iload_n hx hb dX5_ahead_7 rfl (lv_at hl 3 rfl) ?_
  refine lv_ldc (own := RX5) hx hb hown (hts _ (List.mem_of_getElem? (i := 1) rfl : (Cond.constant RX5 98 (-100000) : Cond) ∈ wsX5_ahead)) dX5_ahead_8 ?_
  refine lv_ldc (own := RX5) hx hb hown (hts _ (List.mem_of_getElem? (i := 2) rfl : (Cond.constant RX5 99 (100000) : Cond) ∈ wsX5_ahead)) dX5_ahead_10 ?_
  refine gSi (cx_X5_isWithin l g (σ := σ) hw) (xMv g) ⟨hx, hb, hml, hown, hts⟩ (va_cwS 3 hts gX5_ahead_X5_isWithin rfl rfl rfl (by decide +kernel) ⟨Nat.le_of_ble_eq_true rfl, Nat.le_of_ble_eq_true rfl⟩) hI hS hl.1 rfl rfl (Nat.le_of_ble_eq_true rfl) dX5_ahead_12 (fun r3 σ4 H locs hw hI hS => ?_)
  obtain ⟨hw, hq⟩ := hw
  rw [hq] at hI
  refine lv_if_eq (tgt := 30) hx hb dX5_ahead_15 (by decide) (fun hc => ?_) (fun hc => ?_)
  · have hw := hw.1 hc
    exact j30 _ _ _ _ _ _ _ _ _ hI hS (lv_sub hl [0, 1, 2, 3, 4] rfl) hw
  have hw := hw.2 hc
  refine lv_iload hx hb dX5_ahead_18 (lv_at hl 4 rfl) ?_
  refine gSi (cx_X5_isDay l g (σ := σ) hw) (xMv g) ⟨hx, hb, hml, hown, hts⟩ (va_cwS 1 hts gX5_ahead_X5_isDay rfl rfl rfl (by decide +kernel) ⟨Nat.le_of_ble_eq_true rfl, Nat.le_of_ble_eq_true rfl⟩) hI hS hl.1 rfl rfl (Nat.le_of_ble_eq_true rfl) dX5_ahead_20 (fun r5 σ6 H locs hw hI hS => ?_)
  obtain ⟨hw, hq⟩ := hw
  rw [hq] at hI
  refine lv_if_eq (tgt := 30) hx hb dX5_ahead_23 (by decide) (fun hc => ?_) (fun hc => ?_)
  · have hw := hw.1 hc
    exact j30 _ _ _ _ _ _ _ _ _ hI hS (lv_sub hl [0, 1, 2, 3, 4] rfl) hw
  have hw := hw.2 hc
  refine lv_iconst (v := 1) hx hb dX5_ahead_26 (by decide) ?_
  refine lv_goto (tgt := 31) hx hb dX5_ahead_27 (by decide) ?_
  exact j31 _ _ _ _ _ _ _ _ _ _ hI hS (lv_sub hl [0, 1, 2, 3, 4] rfl) hw
