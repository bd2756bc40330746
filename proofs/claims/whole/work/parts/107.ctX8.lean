set_option maxRecDepth 100000 in
set_option maxHeartbeats 4000000 in
theorem cx_X5_law (l : Launch) (g : wG) {σ : wS} {x1 : Int32} {x2 : Int32} {Q : Int32 → wS → Prop} (hw : wx_X5_law Q x1 x2 σ) : Met l yX5_law wsX5_law ({ frames := 2, cells := 0, slots := 0, locals := 42 } : Room) (va_Pc [.ref (g.2.1 0), .int x1, .int x2] (fun U => xIn g σ U.heap U)) (va_Qi Q (fun σ1 t => xIn g σ1 t.heap t) (xA g)) 0 0 (xA g) := by
  refine gOfZ (maxL := 4) (xMv g) (by decide) rfl (Nat.le_of_ble_eq_true rfl) ?_
  intro p e s m args below meth c QQ hx hb hml hown hts hret ls hl hI
  have hl : lv_has ls 4 [(0, .ref (g.2.1 0)), (1, .int x1), (2, .int x2)] := hl
  have hS : va_S (xA g) s.heap s.heap [] := va_S.rf
  have hF : ∀ w ∈ wsX50, w.before args s = true := fun w h => hts w (List.mem_cons_of_mem _ (List.mem_append_left _ (List.mem_append_right _ h)))
  have j46 : ∀ (x1 : Int32) (x2 : Int32) (x3 : Int32) (σ : wS) (H : Heap) (locs : List Loc) (ls : Array Slot), xIn g σ H s → va_S (xA g) s.heap H locs → lv_has ls 4 [(0, .ref (g.2.1 0)), (1, .int x1), (2, .int x2), (3, .int x3)] → wx_X5_law_J46 Q x1 x2 x3 σ → W p l e ({ frames := 2, cells := 0, slots := 0, locals := 42 } : Room) s m args below meth c H locs 0 0 QQ (F0 m 46 ls []) := by
    intro x1 x2 x3 σ H locs ls hI hS hl hw
    refine lv_aload_n hx hb dX5_law_46 rfl (lv_at hl 0 rfl) ?_
    refine lv_iload_n hx hb dX5_law_47 rfl (lv_at hl 3 rfl) ?_
    refine xP_X5_lastStatus hx hb hF hown hI hS (hts _ (List.mem_of_getElem? (i := 4) rfl : (Cond.fieldLink RX5 48 "PlateRoom" "lastStatus" "I" : Cond) ∈ wsX5_law)) dX5_law_48 (fun σ1 eσ1 H locs hI hS => ?_)
    have hw := hw σ1 eσ1
    refine lv_iload_n hx hb dX5_law_51 rfl (lv_at hl 3 rfl) ?_
    refine lv_if_eq (tgt := 57) hx hb dX5_law_52 (by decide) (fun hc => ?_) (fun hc => ?_)
    · have hw := hw.1 hc
      refine lv_aload_n hx hb dX5_law_57 rfl (lv_at hl 0 rfl) ?_
      refine xG_X5_rights hx hb hF hown hI (hts _ (List.mem_of_getElem? (i := 3) rfl : (Cond.fieldLink RX5 40 "PlateRoom" "rights" "LPlateRoom$RightsBook;" : Cond) ∈ wsX5_law)) dX5_law_58 ?_
      refine lv_iload_n hx hb dX5_law_61 rfl (lv_at hl 1 rfl) ?_
      refine lv_iload_n hx hb dX5_law_62 rfl (lv_at hl 2 rfl) ?_
      refine gVv (cx_X3_addLaw l g (σ := σ1) hw) (xMv g) ⟨hx, hb, hml, hown, hts⟩ (cwV 2 hts gX5_law_X3_addLaw rfl rfl rfl (by decide +kernel) ⟨Nat.le_of_ble_eq_true rfl, Nat.le_of_ble_eq_true rfl⟩) (xRecv_X3 hI) hI hS hl.1 rfl rfl (Nat.le_of_ble_eq_true rfl) dX5_law_63 (fun σ2 H locs hw hI hS => ?_)
      refine lv_iconst (v := 1) hx hb dX5_law_66 (by decide) ?_
      exact hret _ _ _ _ _ _ dX5_law_67 isB1 hw hI hS
    have hw := hw.2 hc
    refine lv_iconst (v := 0) hx hb dX5_law_55 (by decide) ?_
    exact hret _ _ _ _ _ _ dX5_law_56 isB0 hw hI hS
  have j26 : ∀ (x1 : Int32) (x2 : Int32) (s0 : Int32) (s1 : Int32) (σ : wS) (H : Heap) (locs : List Loc) (ls : Array Slot), xIn g σ H s → va_S (xA g) s.heap H locs → lv_has ls 4 [(0, .ref (g.2.1 0)), (1, .int x1), (2, .int x2)] → wx_X5_law_J26 Q x1 x2 s0 s1 σ → W p l e ({ frames := 2, cells := 0, slots := 0, locals := 42 } : Room) s m args below meth c H locs 0 0 QQ (F0 m 26 ls [.int s1, .int s0]) := by
    intro x1 x2 s0 s1 σ H locs ls hI hS hl hw
    refine gSi (cx_X5_whyNot l g (σ := σ) hw) (xMv g) ⟨hx, hb, hml, hown, hts⟩ (va_cwS 2 hts gX5_law_X5_whyNot rfl rfl rfl (by decide +kernel) ⟨Nat.le_of_ble_eq_true rfl, Nat.le_of_ble_eq_true rfl⟩) hI hS hl.1 rfl rfl (Nat.le_of_ble_eq_true rfl) dX5_law_26 (fun r1 σ2 H locs hw hI hS => ?_)
    obtain ⟨hw, hq⟩ := hw
    rw [hq] at hI
    refine lv_istore_n (lv' := [(3, .int r1), (0, .ref (g.2.1 0)), (1, .int x1), (2, .int x2)]) hx hb dX5_law_29 rfl hl (by decide) rfl (fun ls hl => ?_)
    refine lv_iload_n hx hb dX5_law_30 rfl (lv_at hl 0 rfl) ?_
    refine lv_if_ne (tgt := 46) hx hb dX5_law_31 (by decide) (fun hc => ?_) (fun hc => ?_)
    · have hw := hw.1 hc
      exact j46 _ _ _ _ _ _ _ hI hS (lv_sub hl [1, 2, 3, 0] rfl) hw
    have hw := hw.2 hc
    refine lv_aload_n hx hb dX5_law_34 rfl (lv_at hl 1 rfl) ?_
    refine xG_X5_rights hx hb hF hown hI (hts _ (List.mem_of_getElem? (i := 3) rfl : (Cond.fieldLink RX5 40 "PlateRoom" "rights" "LPlateRoom$RightsBook;" : Cond) ∈ wsX5_law)) dX5_law_35 ?_
    refine gVi (cx_X3_hasAllLaws l g (σ := σ) hw) (xMv g) ⟨hx, hb, hml, hown, hts⟩ (cwV 0 hts gX5_law_X3_hasAllLaws rfl rfl rfl (by decide +kernel) ⟨Nat.le_of_ble_eq_true rfl, Nat.le_of_ble_eq_true rfl⟩) (xRecv_X3 hI) hI hS hl.1 rfl rfl (Nat.le_of_ble_eq_true rfl) dX5_law_38 (fun r3 σ4 H locs hw hI hS => ?_)
    obtain ⟨hw, hq⟩ := hw
    rw [hq] at hI
    refine lv_if_eq (tgt := 46) hx hb dX5_law_41 (by decide) (fun hc => ?_) (fun hc => ?_)
    · have hw := hw.1 hc
      exact j46 _ _ _ _ _ _ _ hI hS (lv_sub hl [1, 2, 3, 0] rfl) hw
    have hw := hw.2 hc
    refine lv_iconst (v := 3) hx hb dX5_law_44 (by decide) ?_
    refine lv_istore_n (lv' := [(3, .int 3), (0, .ref (g.2.1 0)), (1, .int x1), (2, .int x2)]) hx hb dX5_law_45 rfl hl (by decide) rfl (fun ls hl => ?_)
    exact j46 _ _ _ _ _ _ _ hI hS (lv_sub hl [1, 2, 3, 0] rfl) hw
  have j25 : ∀ (x1 : Int32) (x2 : Int32) (s0 : Int32) (σ : wS) (H : Heap) (locs : List Loc) (ls : Array Slot), xIn g σ H s → va_S (xA g) s.heap H locs → lv_has ls 4 [(0, .ref (g.2.1 0)), (1, .int x1), (2, .int x2)] → wx_X5_law_J25 Q x1 x2 s0 σ → W p l e ({ frames := 2, cells := 0, slots := 0, locals := 42 } : Room) s m args below meth c H locs 0 0 QQ (F0 m 25 ls [.int s0]) := by
    intro x1 x2 s0 σ H locs ls hI hS hl hw
    refine lv_iconst (v := 0) hx hb dX5_law_25 (by decide) ?_
    exact j26 _ _ _ _ _ _ _ _ hI hS (lv_sub hl [0, 1, 2] rfl) hw
  refine lv_iconst (v := 1) hx hb dX5_law_0 (by decide) ?_
  refine lv_iload_n hx hb dX5_law_1 rfl (lv_at hl 1 rfl) ?_
  refine lv_iconst (v := 0) hx hb dX5_law_2 (by decide) ?_
  refine lv_ldc (own := RX5) hx hb hown (hts _ (List.mem_of_getElem? (i := 1) rfl : (Cond.constant RX5 99 (100000) : Cond) ∈ wsX5_law)) dX5_law_3 ?_
  refine gSi (cx_X5_isWithin l g (σ := σ) hw) (xMv g) ⟨hx, hb, hml, hown, hts⟩ (va_cwS 3 hts gX5_law_X5_isWithin rfl rfl rfl (by decide +kernel) ⟨Nat.le_of_ble_eq_true rfl, Nat.le_of_ble_eq_true rfl⟩) hI hS hl.1 rfl rfl (Nat.le_of_ble_eq_true rfl) dX5_law_5 (fun r1 σ2 H locs hw hI hS => ?_)
  obtain ⟨hw, hq⟩ := hw
  rw [hq] at hI
  refine lv_if_eq (tgt := 25) hx hb dX5_law_8 (by decide) (fun hc => ?_) (fun hc => ?_)
  · have hw := hw.1 hc
    exact j25 _ _ _ _ _ _ _ hI hS (lv_sub hl [0, 1, 2] rfl) hw
  have hw := hw.2 hc
  refine lv_iload_n hx hb dX5_law_11 rfl (lv_at hl 2 rfl) ?_
  refine lv_iconst (v := 0) hx hb dX5_law_12 (by decide) ?_
  refine lv_ldc (own := RX5) hx hb hown (hts _ (List.mem_of_getElem? (i := 2) rfl : (Cond.constant RX5 193 (50000) : Cond) ∈ wsX5_law)) dX5_law_13 ?_
  refine gSi (cx_X5_isWithin l g (σ := σ) hw) (xMv g) ⟨hx, hb, hml, hown, hts⟩ (va_cwS 3 hts gX5_law_X5_isWithin rfl rfl rfl (by decide +kernel) ⟨Nat.le_of_ble_eq_true rfl, Nat.le_of_ble_eq_true rfl⟩) hI hS hl.1 rfl rfl (Nat.le_of_ble_eq_true rfl) dX5_law_15 (fun r3 σ4 H locs hw hI hS => ?_)
  obtain ⟨hw, hq⟩ := hw
  rw [hq] at hI
  refine lv_if_eq (tgt := 25) hx hb dX5_law_18 (by decide) (fun hc => ?_) (fun hc => ?_)
  · have hw := hw.1 hc
    exact j25 _ _ _ _ _ _ _ hI hS (lv_sub hl [0, 1, 2] rfl) hw
  have hw := hw.2 hc
  refine lv_iconst (v := 1) hx hb dX5_law_21 (by decide) ?_
  refine lv_goto (tgt := 26) hx hb dX5_law_22 (by decide) ?_
  exact j26 _ _ _ _ _ _ _ _ hI hS (lv_sub hl [0, 1, 2] rfl) hw
set_option maxRecDepth 100000 in
set_option maxHeartbeats 4000000 in
theorem cx_X3_hasAllDeaths (l : Launch) (g : wG) {σ : wS} {Q : Int32 → Prop} (hw : wx_X3_hasAllDeaths Q σ) : Met l yX3_hasAllDeaths wsX3_hasAllDeaths ({ frames := 0, cells := 0, slots := 0, locals := 0 } : Room) (va_Pc [.ref (g.2.1 4)] (fun U => xIn g σ U.heap U)) (va_Qi (fun r σ1 => Q r ∧ σ1 = σ) (fun σ1 t => xIn g σ1 t.heap t) (xA g)) 0 0 (xA g) := by
  refine gOfZ (maxL := 1) (xMv g) (by decide) rfl (Nat.le_of_ble_eq_true rfl) ?_
  intro p e s m args below meth c QQ hx hb hml hown hts hret ls hl hI
  have hl : lv_has ls 1 [(0, .ref (g.2.1 4))] := hl
  have hS : va_S (xA g) s.heap s.heap [] := va_S.rf
  have hF : ∀ w ∈ wsX30, w.before args s = true := fun w h => hts w (List.mem_cons_of_mem _ (List.mem_append_right _ h))
  refine lv_aload_n hx hb dX3_hasAllDeaths_0 rfl (lv_at hl 0 rfl) ?_
  refine xG_X3_deathCount hx hb hF hown hI (hts _ (List.mem_of_getElem? (i := 1) rfl : (Cond.fieldLink RX3 31 "PlateRoom$RightsBook" "deathCount" "I" : Cond) ∈ wsX3_hasAllDeaths)) dX3_hasAllDeaths_1 ?_
  refine lv_bipush (v := 60) hx hb dX3_hasAllDeaths_4 (by decide) ?_
  refine lv_icmp_lt (tgt := 13) hx hb dX3_hasAllDeaths_6 (by decide) (fun hc => ?_) (fun hc => ?_)
  · have hw := hw.1 hc
    refine lv_iconst (v := 0) hx hb dX3_hasAllDeaths_13 (by decide) ?_
    exact hret _ _ _ _ _ _ dX3_hasAllDeaths_14 isB0 ⟨hw, rfl⟩ hI hS
  have hw := hw.2 hc
  refine lv_iconst (v := 1) hx hb dX3_hasAllDeaths_9 (by decide) ?_
  refine lv_goto (tgt := 14) hx hb dX3_hasAllDeaths_10 (by decide) ?_
  exact hret _ _ _ _ _ _ dX3_hasAllDeaths_14 isB1 ⟨hw, rfl⟩ hI hS
set_option maxRecDepth 100000 in
set_option maxHeartbeats 4000000 in
theorem cx_X3_addDeath (l : Launch) (g : wG) {σ : wS} {x1 : Int32} {x2 : Int32} {x3 : Int32} {Q : wS → Prop} (hw : wx_X3_addDeath Q x1 x2 x3 σ) : Met l yX3_addDeath wsX3_addDeath ({ frames := 1, cells := 0, slots := 0, locals := 20 } : Room) (va_Pc [.ref (g.2.1 4), .int x1, .int x2, .int x3] (fun U => xIn g σ U.heap U)) (va_Qv Q (fun σ1 t => xIn g σ1 t.heap t) (xA g)) 0 0 (xA g) := by
  refine gOfV (maxL := 4) (xMv g) (by decide) rfl (Nat.le_of_ble_eq_true rfl) ?_
  intro p e s m args below meth c QQ hx hb hml hown hts hret ls hl hI
  have hl : lv_has ls 4 [(0, .ref (g.2.1 4)), (1, .int x1), (2, .int x2), (3, .int x3)] := hl
  have hS : va_S (xA g) s.heap s.heap [] := va_S.rf
  have hF : ∀ w ∈ wsX30, w.before args s = true := fun w h => hts w (List.mem_cons_of_mem _ (List.mem_append_right _ h))
  refine lv_aload_n hx hb dX3_addDeath_0 rfl (lv_at hl 0 rfl) ?_
  refine gVi (cx_X3_hasAllDeaths l g (σ := σ) hw) (xMv g) ⟨hx, hb, hml, hown, hts⟩ (cwV 0 hts gX3_addDeath_X3_hasAllDeaths rfl rfl rfl (by decide +kernel) ⟨Nat.le_of_ble_eq_true rfl, Nat.le_of_ble_eq_true rfl⟩) (xRecv_X3 hI) hI hS hl.1 rfl rfl (Nat.le_of_ble_eq_true rfl) dX3_addDeath_1 (fun r1 σ2 H locs hw hI hS => ?_)
  obtain ⟨hw, hq⟩ := hw
  rw [hq] at hI
  refine lv_if_eq (tgt := 8) hx hb dX3_addDeath_4 (by decide) (fun hc => ?_) (fun hc => ?_)
  · have hw := hw.1 hc
    refine lv_aload_n hx hb dX3_addDeath_8 rfl (lv_at hl 0 rfl) ?_
    refine xG_X3_deathPlates hx hb hF hown hI (hts _ (List.mem_of_getElem? (i := 1) rfl : (Cond.fieldLink RX3 18 "PlateRoom$RightsBook" "deathPlates" "[I" : Cond) ∈ wsX3_addDeath)) dX3_addDeath_9 ?_
    refine lv_aload_n hx hb dX3_addDeath_12 rfl (lv_at hl 0 rfl) ?_
    refine xG_X3_deathCount hx hb hF hown hI (hts _ (List.mem_of_getElem? (i := 2) rfl : (Cond.fieldLink RX3 31 "PlateRoom$RightsBook" "deathCount" "I" : Cond) ∈ wsX3_addDeath)) dX3_addDeath_13 ?_
    refine lv_iload_n hx hb dX3_addDeath_16 rfl (lv_at hl 1 rfl) ?_
    have hin := hw.1
    have hw := hw.2
    refine xS_X3_deathPlates hx hb hI hS hin dX3_addDeath_17 (fun σ3 eσ3 H locs hI hS => ?_)
    have hw := hw σ3 eσ3
    refine lv_aload_n hx hb dX3_addDeath_18 rfl (lv_at hl 0 rfl) ?_
    refine xG_X3_deathDays hx hb hF hown hI (hts _ (List.mem_of_getElem? (i := 3) rfl : (Cond.fieldLink RX3 21 "PlateRoom$RightsBook" "deathDays" "[I" : Cond) ∈ wsX3_addDeath)) dX3_addDeath_19 ?_
    refine lv_aload_n hx hb dX3_addDeath_22 rfl (lv_at hl 0 rfl) ?_
    refine xG_X3_deathCount hx hb hF hown hI (hts _ (List.mem_of_getElem? (i := 2) rfl : (Cond.fieldLink RX3 31 "PlateRoom$RightsBook" "deathCount" "I" : Cond) ∈ wsX3_addDeath)) dX3_addDeath_23 ?_
    refine lv_iload_n hx hb dX3_addDeath_26 rfl (lv_at hl 2 rfl) ?_
    have hin := hw.1
    have hw := hw.2
    refine xS_X3_deathDays hx hb hI hS hin dX3_addDeath_27 (fun σ4 eσ4 H locs hI hS => ?_)
    have hw := hw σ4 eσ4
    refine lv_aload_n hx hb dX3_addDeath_28 rfl (lv_at hl 0 rfl) ?_
    refine xG_X3_deathsToldOn hx hb hF hown hI (hts _ (List.mem_of_getElem? (i := 4) rfl : (Cond.fieldLink RX3 24 "PlateRoom$RightsBook" "deathsToldOn" "[I" : Cond) ∈ wsX3_addDeath)) dX3_addDeath_29 ?_
    refine lv_aload_n hx hb dX3_addDeath_32 rfl (lv_at hl 0 rfl) ?_
    refine xG_X3_deathCount hx hb hF hown hI (hts _ (List.mem_of_getElem? (i := 2) rfl : (Cond.fieldLink RX3 31 "PlateRoom$RightsBook" "deathCount" "I" : Cond) ∈ wsX3_addDeath)) dX3_addDeath_33 ?_
    refine lv_iload_n hx hb dX3_addDeath_36 rfl (lv_at hl 3 rfl) ?_
    have hin := hw.1
    have hw := hw.2
    refine xS_X3_deathsToldOn hx hb hI hS hin dX3_addDeath_37 (fun σ5 eσ5 H locs hI hS => ?_)
    have hw := hw σ5 eσ5
    refine lv_aload_n hx hb dX3_addDeath_38 rfl (lv_at hl 0 rfl) ?_
    refine lv_dup hx hb dX3_addDeath_39 rfl ?_
    refine xG_X3_deathCount hx hb hF hown hI (hts _ (List.mem_of_getElem? (i := 2) rfl : (Cond.fieldLink RX3 31 "PlateRoom$RightsBook" "deathCount" "I" : Cond) ∈ wsX3_addDeath)) dX3_addDeath_40 ?_
    refine lv_iconst (v := 1) hx hb dX3_addDeath_43 (by decide) ?_
    refine lv_iadd hx hb dX3_addDeath_44 ?_
    refine xP_X3_deathCount hx hb hF hown hI hS (hts _ (List.mem_of_getElem? (i := 2) rfl : (Cond.fieldLink RX3 31 "PlateRoom$RightsBook" "deathCount" "I" : Cond) ∈ wsX3_addDeath)) dX3_addDeath_45 (fun σ6 eσ6 H locs hI hS => ?_)
    have hw := hw σ6 eσ6
    exact hret _ _ _ _ _ dX3_addDeath_48 hw hI hS
  have hw := hw.2 hc
  exact hret _ _ _ _ _ dX3_addDeath_7 hw hI hS
set_option maxRecDepth 100000 in
set_option maxHeartbeats 4000000 in
theorem cx_X5_death (l : Launch) (g : wG) {σ : wS} {x1 : Int32} {x2 : Int32} {x3 : Int32} {Q : Int32 → wS → Prop} (hw : wx_X5_death Q x1 x2 x3 σ) : Met l yX5_death wsX5_death ({ frames := 2, cells := 0, slots := 0, locals := 43 } : Room) (va_Pc [.ref (g.2.1 0), .int x1, .int x2, .int x3] (fun U => xIn g σ U.heap U)) (va_Qi Q (fun σ1 t => xIn g σ1 t.heap t) (xA g)) 0 0 (xA g) := by
  refine gOfZ (maxL := 5) (xMv g) (by decide) rfl (Nat.le_of_ble_eq_true rfl) ?_
  intro p e s m args below meth c QQ hx hb hml hown hts hret ls hl hI
  have hl : lv_has ls 5 [(0, .ref (g.2.1 0)), (1, .int x1), (2, .int x2), (3, .int x3)] := hl
  have hS : va_S (xA g) s.heap s.heap [] := va_S.rf
  have hF : ∀ w ∈ wsX50, w.before args s = true := fun w h => hts w (List.mem_cons_of_mem _ (List.mem_append_left _ (List.mem_append_right _ h)))
  have j50 : ∀ (x1 : Int32) (x2 : Int32) (x3 : Int32) (x4 : Int32) (σ : wS) (H : Heap) (locs : List Loc) (ls : Array Slot), xIn g σ H s → va_S (xA g) s.heap H locs → lv_has ls 5 [(0, .ref (g.2.1 0)), (1, .int x1), (2, .int x2), (3, .int x3), (4, .int x4)] → wx_X5_death_J50 Q x1 x2 x3 x4 σ → W p l e ({ frames := 2, cells := 0, slots := 0, locals := 43 } : Room) s m args below meth c H locs 0 0 QQ (F0 m 50 ls []) := by
    intro x1 x2 x3 x4 σ H locs ls hI hS hl hw
    refine lv_aload_n hx hb dX5_death_50 rfl (lv_at hl 0 rfl) ?_
    refine lv_iload hx hb dX5_death_51 (lv_at hl 4 rfl) ?_
    refine xP_X5_lastStatus hx hb hF hown hI hS (hts _ (List.mem_of_getElem? (i := 3) rfl : (Cond.fieldLink RX5 48 "PlateRoom" "lastStatus" "I" : Cond) ∈ wsX5_death)) dX5_death_53 (fun σ1 eσ1 H locs hI hS => ?_)
    have hw := hw σ1 eσ1
    refine lv_iload hx hb dX5_death_56 (lv_at hl 4 rfl) ?_
    refine lv_if_eq (tgt := 63) hx hb dX5_death_58 (by decide) (fun hc => ?_) (fun hc => ?_)
    · have hw := hw.1 hc
      refine lv_aload_n hx hb dX5_death_63 rfl (lv_at hl 0 rfl) ?_
      refine xG_X5_rights hx hb hF hown hI (hts _ (List.mem_of_getElem? (i := 2) rfl : (Cond.fieldLink RX5 40 "PlateRoom" "rights" "LPlateRoom$RightsBook;" : Cond) ∈ wsX5_death)) dX5_death_64 ?_
      refine lv_iload_n hx hb dX5_death_67 rfl (lv_at hl 1 rfl) ?_
      refine lv_iload_n hx hb dX5_death_68 rfl (lv_at hl 2 rfl) ?_
      refine lv_iload_n hx hb dX5_death_69 rfl (lv_at hl 3 rfl) ?_
      refine gVv (cx_X3_addDeath l g (σ := σ1) hw) (xMv g) ⟨hx, hb, hml, hown, hts⟩ (cwV 3 hts gX5_death_X3_addDeath rfl rfl rfl (by decide +kernel) ⟨Nat.le_of_ble_eq_true rfl, Nat.le_of_ble_eq_true rfl⟩) (xRecv_X3 hI) hI hS hl.1 rfl rfl (Nat.le_of_ble_eq_true rfl) dX5_death_70 (fun σ2 H locs hw hI hS => ?_)
      refine lv_iconst (v := 1) hx hb dX5_death_73 (by decide) ?_
      exact hret _ _ _ _ _ _ dX5_death_74 isB1 hw hI hS
    have hw := hw.2 hc
    refine lv_iconst (v := 0) hx hb dX5_death_61 (by decide) ?_
    exact hret _ _ _ _ _ _ dX5_death_62 isB0 hw hI hS
  have j27 : ∀ (x1 : Int32) (x2 : Int32) (x3 : Int32) (s0 : Int32) (s1 : Int32) (σ : wS) (H : Heap) (locs : List Loc) (ls : Array Slot), xIn g σ H s → va_S (xA g) s.heap H locs → lv_has ls 5 [(0, .ref (g.2.1 0)), (1, .int x1), (2, .int x2), (3, .int x3)] → wx_X5_death_J27 Q x1 x2 x3 s0 s1 σ → W p l e ({ frames := 2, cells := 0, slots := 0, locals := 43 } : Room) s m args below meth c H locs 0 0 QQ (F0 m 27 ls [.int s1, .int s0]) := by
    intro x1 x2 x3 s0 s1 σ H locs ls hI hS hl hw
    refine gSi (cx_X5_whyNot l g (σ := σ) hw) (xMv g) ⟨hx, hb, hml, hown, hts⟩ (va_cwS 2 hts gX5_death_X5_whyNot rfl rfl rfl (by decide +kernel) ⟨Nat.le_of_ble_eq_true rfl, Nat.le_of_ble_eq_true rfl⟩) hI hS hl.1 rfl rfl (Nat.le_of_ble_eq_true rfl) dX5_death_27 (fun r1 σ2 H locs hw hI hS => ?_)
    obtain ⟨hw, hq⟩ := hw
    rw [hq] at hI
    refine lv_istore (lv' := [(4, .int r1), (0, .ref (g.2.1 0)), (1, .int x1), (2, .int x2), (3, .int x3)]) hx hb dX5_death_30 hl (by decide) rfl (fun ls hl => ?_)
    refine lv_iload hx hb dX5_death_32 (lv_at hl 0 rfl) ?_
    refine lv_if_ne (tgt := 50) hx hb dX5_death_34 (by decide) (fun hc => ?_) (fun hc => ?_)
    · have hw := hw.1 hc
      exact j50 _ _ _ _ _ _ _ _ hI hS (lv_sub hl [1, 2, 3, 4, 0] rfl) hw
    have hw := hw.2 hc
    refine lv_aload_n hx hb dX5_death_37 rfl (lv_at hl 1 rfl) ?_
    refine xG_X5_rights hx hb hF hown hI (hts _ (List.mem_of_getElem? (i := 2) rfl : (Cond.fieldLink RX5 40 "PlateRoom" "rights" "LPlateRoom$RightsBook;" : Cond) ∈ wsX5_death)) dX5_death_38 ?_
    refine gVi (cx_X3_hasAllDeaths l g (σ := σ) hw) (xMv g) ⟨hx, hb, hml, hown, hts⟩ (cwV 0 hts gX5_death_X3_hasAllDeaths rfl rfl rfl (by decide +kernel) ⟨Nat.le_of_ble_eq_true rfl, Nat.le_of_ble_eq_true rfl⟩) (xRecv_X3 hI) hI hS hl.1 rfl rfl (Nat.le_of_ble_eq_true rfl) dX5_death_41 (fun r3 σ4 H locs hw hI hS => ?_)
    obtain ⟨hw, hq⟩ := hw
    rw [hq] at hI
    refine lv_if_eq (tgt := 50) hx hb dX5_death_44 (by decide) (fun hc => ?_) (fun hc => ?_)
    · have hw := hw.1 hc
      exact j50 _ _ _ _ _ _ _ _ hI hS (lv_sub hl [1, 2, 3, 4, 0] rfl) hw
    have hw := hw.2 hc
    refine lv_iconst (v := 3) hx hb dX5_death_47 (by decide) ?_
    refine lv_istore (lv' := [(4, .int 3), (0, .ref (g.2.1 0)), (1, .int x1), (2, .int x2), (3, .int x3)]) hx hb dX5_death_48 hl (by decide) rfl (fun ls hl => ?_)
    exact j50 _ _ _ _ _ _ _ _ hI hS (lv_sub hl [1, 2, 3, 4, 0] rfl) hw
  have j26 : ∀ (x1 : Int32) (x2 : Int32) (x3 : Int32) (s0 : Int32) (σ : wS) (H : Heap) (locs : List Loc) (ls : Array Slot), xIn g σ H s → va_S (xA g) s.heap H locs → lv_has ls 5 [(0, .ref (g.2.1 0)), (1, .int x1), (2, .int x2), (3, .int x3)] → wx_X5_death_J26 Q x1 x2 x3 s0 σ → W p l e ({ frames := 2, cells := 0, slots := 0, locals := 43 } : Room) s m args below meth c H locs 0 0 QQ (F0 m 26 ls [.int s0]) := by
    intro x1 x2 x3 s0 σ H locs ls hI hS hl hw
    refine lv_iconst (v := 0) hx hb dX5_death_26 (by decide) ?_
    exact j27 _ _ _ _ _ _ _ _ _ hI hS (lv_sub hl [0, 1, 2, 3] rfl) hw
  refine lv_aload_n hx hb dX5_death_0 rfl (lv_at hl 0 rfl) ?_
  refine lv_iload_n hx hb dX5_death_1 rfl (lv_at hl 1 rfl) ?_
  refine gVi (cx_X5_isPlate l g (σ := σ) hw) (xMv g) ⟨hx, hb, hml, hown, hts⟩ (cwV 1 hts gX5_death_X5_isPlate rfl rfl rfl (by decide +kernel) ⟨Nat.le_of_ble_eq_true rfl, Nat.le_of_ble_eq_true rfl⟩) (xRecv_X5 hI) hI hS hl.1 rfl rfl (Nat.le_of_ble_eq_true rfl) dX5_death_2 (fun r1 σ2 H locs hw hI hS => ?_)
  obtain ⟨hw, hq⟩ := hw
  rw [hq] at hI
  refine lv_iload_n hx hb dX5_death_5 rfl (lv_at hl 2 rfl) ?_
  refine lv_iconst (v := 0) hx hb dX5_death_6 (by decide) ?_
  refine lv_ldc (own := RX5) hx hb hown (hts _ (List.mem_of_getElem? (i := 1) rfl : (Cond.constant RX5 99 (100000) : Cond) ∈ wsX5_death)) dX5_death_7 ?_
  refine gSi (cx_X5_isWithin l g (σ := σ) hw) (xMv g) ⟨hx, hb, hml, hown, hts⟩ (va_cwS 3 hts gX5_death_X5_isWithin rfl rfl rfl (by decide +kernel) ⟨Nat.le_of_ble_eq_true rfl, Nat.le_of_ble_eq_true rfl⟩) hI hS hl.1 rfl rfl (Nat.le_of_ble_eq_true rfl) dX5_death_9 (fun r3 σ4 H locs hw hI hS => ?_)
  obtain ⟨hw, hq⟩ := hw
  rw [hq] at hI
  refine lv_if_eq (tgt := 26) hx hb dX5_death_12 (by decide) (fun hc => ?_) (fun hc => ?_)
  · have hw := hw.1 hc
    exact j26 _ _ _ _ _ _ _ _ hI hS (lv_sub hl [0, 1, 2, 3] rfl) hw
  have hw := hw.2 hc
  refine lv_iload_n hx hb dX5_death_15 rfl (lv_at hl 3 rfl) ?_
  refine gSi (cx_X5_isDay l g (σ := σ) hw) (xMv g) ⟨hx, hb, hml, hown, hts⟩ (va_cwS 1 hts gX5_death_X5_isDay rfl rfl rfl (by decide +kernel) ⟨Nat.le_of_ble_eq_true rfl, Nat.le_of_ble_eq_true rfl⟩) hI hS hl.1 rfl rfl (Nat.le_of_ble_eq_true rfl) dX5_death_16 (fun r5 σ6 H locs hw hI hS => ?_)
  obtain ⟨hw, hq⟩ := hw
  rw [hq] at hI
  refine lv_if_eq (tgt := 26) hx hb dX5_death_19 (by decide) (fun hc => ?_) (fun hc => ?_)
  · have hw := hw.1 hc
    exact j26 _ _ _ _ _ _ _ _ hI hS (lv_sub hl [0, 1, 2, 3] rfl) hw
  have hw := hw.2 hc
  refine lv_iconst (v := 1) hx hb dX5_death_22 (by decide) ?_
  refine lv_goto (tgt := 27) hx hb dX5_death_23 (by decide) ?_
  exact j27 _ _ _ _ _ _ _ _ _ hI hS (lv_sub hl [0, 1, 2, 3] rfl) hw
set_option maxRecDepth 100000 in
set_option maxHeartbeats 4000000 in
theorem cx_X3_lawInForce (l : Launch) (g : wG) {σ : wS} {x1 : Int32} {Q : Int32 → Prop} (hw : wx_X3_lawInForce Q x1 σ) : Met l yX3_lawInForce wsX3_lawInForce ({ frames := 0, cells := 0, slots := 0, locals := 0 } : Room) (va_Pc [.ref (g.2.1 4), .int x1] (fun U => xIn g σ U.heap U)) (va_Qi (fun r σ1 => Q r ∧ σ1 = σ) (fun σ1 t => xIn g σ1 t.heap t) (xA g)) 0 0 (xA g) := by
  refine gOfI (maxL := 4) (xMv g) (by decide) rfl (Nat.le_of_ble_eq_true rfl) ?_
  intro p e s m args below meth c QQ hx hb hml hown hts hret ls hl hI
  have hl : lv_has ls 4 [(0, .ref (g.2.1 4)), (1, .int x1)] := hl
  have hS : va_S (xA g) s.heap s.heap [] := va_S.rf
  have hF : ∀ w ∈ wsX30, w.before args s = true := fun w h => hts w (List.mem_cons_of_mem _ (List.mem_append_right _ h))
  refine lv_iconst (v := (-1)) hx hb dX3_lawInForce_0 (by decide) ?_
  refine lv_topi (fun a1 ea1 => ?_)
  have hw := hw a1 ea1
  refine lv_istore_n (lv' := [(2, .int a1), (0, .ref (g.2.1 4)), (1, .int x1)]) hx hb dX3_lawInForce_1 rfl hl (by decide) rfl (fun ls hl => ?_)
  refine lv_iconst (v := 0) hx hb dX3_lawInForce_2 (by decide) ?_
  refine lv_istore_n (lv' := [(3, .int 0), (2, .int a1), (0, .ref (g.2.1 4)), (1, .int x1)]) hx hb dX3_lawInForce_3 rfl hl (by decide) rfl (fun ls hl => ?_)
  obtain ⟨n4, hw⟩ := hw
  have key4 : ∀ (n : Nat) (x1 : Int32) (x2 : Int32) (x3 : Int32) (H : Heap) (locs : List Loc) (ls : Array Slot), xIn g σ H s → va_S (xA g) s.heap H locs → lv_has ls 4 [(0, .ref (g.2.1 4)), (1, .int x1), (2, .int x2), (3, .int x3)] → wloop (wx_X3_lawInForce_L4 Q x1 σ) n (x2, x3) → W p l e ({ frames := 0, cells := 0, slots := 0, locals := 0 } : Room) s m args below meth c H locs 0 0 QQ (F0 m 4 ls []) := by
    intro n
    induction n with
    | zero => intro x1 x2 x3  H locs ls hI hS hl hw; exact False.elim hw
    | succ n ih =>
      intro x1 x2 x3  H locs ls hI hS hl hw
      obtain ⟨K4, hK4⟩ : ∃ K, K = wloop (wx_X3_lawInForce_L4 Q x1 σ) n := ⟨_, rfl⟩
      have hw : wx_X3_lawInForce_L4 Q x1 σ K4 (x2, x3) := by rw [hK4]; exact hw
      dsimp only [wx_X3_lawInForce_L4] at hw
      have ih4 := ih
      refine lv_iload_n hx hb dX3_lawInForce_4 rfl (lv_at hl 3 rfl) ?_
      refine lv_aload_n hx hb dX3_lawInForce_5 rfl (lv_at hl 0 rfl) ?_
      refine xG_X3_lawCount hx hb hF hown hI (hts _ (List.mem_of_getElem? (i := 1) rfl : (Cond.fieldLink RX3 27 "PlateRoom$RightsBook" "lawCount" "I" : Cond) ∈ wsX3_lawInForce)) dX3_lawInForce_6 ?_
      refine lv_icmp_ge (tgt := 50) hx hb dX3_lawInForce_9 (by decide) (fun hc => ?_) (fun hc => ?_)
      · have hw := hw.1 hc
        refine lv_iload_n hx hb dX3_lawInForce_50 rfl (lv_at hl 2 rfl) ?_
        exact hret _ _ _ _ _ _ dX3_lawInForce_51 ⟨hw, rfl⟩ hI hS
      have hw := hw.2 hc
      refine lv_aload_n hx hb dX3_lawInForce_12 rfl (lv_at hl 0 rfl) ?_
      refine xG_X3_lawStarts hx hb hF hown hI (hts _ (List.mem_of_getElem? (i := 2) rfl : (Cond.fieldLink RX3 9 "PlateRoom$RightsBook" "lawStarts" "[I" : Cond) ∈ wsX3_lawInForce)) dX3_lawInForce_13 ?_
      refine lv_iload_n hx hb dX3_lawInForce_16 rfl (lv_at hl 3 rfl) ?_
      have hin := hw.1
      have hw := hw.2
      refine xR_X3_lawStarts hx hb hI hin dX3_lawInForce_17 ?_
      refine lv_iload_n hx hb dX3_lawInForce_18 rfl (lv_at hl 1 rfl) ?_
      refine lv_icmp_gt (tgt := 44) hx hb dX3_lawInForce_19 (by decide) (fun hc => ?_) (fun hc => ?_)
      · have hw := hw.1 hc
        obtain ⟨a1, ea1⟩ : ∃ y : Int32, y = x3 + 1 := ⟨_, rfl⟩
        have hw := hw a1 ea1
        refine lv_iinc (v := a1) (lv' := [(3, .int a1), (0, .ref (g.2.1 4)), (1, .int x1), (2, .int x2)]) hx hb dX3_lawInForce_44 hl (k := 3) rfl (by rw [ea1]; rfl) (by decide) rfl (fun ls hl => ?_)
        refine lv_goto (tgt := 4) hx hb dX3_lawInForce_47 (by decide) ?_
        rw [hK4] at hw
        exact ih4 _ _ _ _ _ _ hI hS (lv_sub hl [1, 2, 3, 0] rfl) hw
      have hw := hw.2 hc
      refine lv_iload_n hx hb dX3_lawInForce_22 rfl (lv_at hl 2 rfl) ?_
      refine lv_iconst (v := (-1)) hx hb dX3_lawInForce_23 (by decide) ?_
      refine lv_icmp_eq (tgt := 42) hx hb dX3_lawInForce_24 (by decide) (fun hc => ?_) (fun hc => ?_)
      · have hw := hw.1 hc
        refine lv_iload_n hx hb dX3_lawInForce_42 rfl (lv_at hl 3 rfl) ?_
        refine lv_istore_n (lv' := [(2, .int x3), (0, .ref (g.2.1 4)), (1, .int x1), (3, .int x3)]) hx hb dX3_lawInForce_43 rfl hl (by decide) rfl (fun ls hl => ?_)
        obtain ⟨a2, ea2⟩ : ∃ y : Int32, y = x3 + 1 := ⟨_, rfl⟩
        have hw := hw a2 ea2
        refine lv_iinc (v := a2) (lv' := [(3, .int a2), (2, .int x3), (0, .ref (g.2.1 4)), (1, .int x1)]) hx hb dX3_lawInForce_44 hl (k := 3) rfl (by rw [ea2]; rfl) (by decide) rfl (fun ls hl => ?_)
        refine lv_goto (tgt := 4) hx hb dX3_lawInForce_47 (by decide) ?_
        rw [hK4] at hw
        exact ih4 _ _ _ _ _ _ hI hS (lv_sub hl [2, 3, 1, 0] rfl) hw
      have hw := hw.2 hc
      refine lv_aload_n hx hb dX3_lawInForce_27 rfl (lv_at hl 0 rfl) ?_
      refine xG_X3_lawStarts hx hb hF hown hI (hts _ (List.mem_of_getElem? (i := 2) rfl : (Cond.fieldLink RX3 9 "PlateRoom$RightsBook" "lawStarts" "[I" : Cond) ∈ wsX3_lawInForce)) dX3_lawInForce_28 ?_
      refine lv_iload_n hx hb dX3_lawInForce_31 rfl (lv_at hl 3 rfl) ?_
      have hin := hw.1
      have hw := hw.2
      refine xR_X3_lawStarts hx hb hI hin dX3_lawInForce_32 ?_
      refine lv_aload_n hx hb dX3_lawInForce_33 rfl (lv_at hl 0 rfl) ?_
      refine xG_X3_lawStarts hx hb hF hown hI (hts _ (List.mem_of_getElem? (i := 2) rfl : (Cond.fieldLink RX3 9 "PlateRoom$RightsBook" "lawStarts" "[I" : Cond) ∈ wsX3_lawInForce)) dX3_lawInForce_34 ?_
      refine lv_iload_n hx hb dX3_lawInForce_37 rfl (lv_at hl 2 rfl) ?_
      have hin := hw.1
      have hw := hw.2
      refine xR_X3_lawStarts hx hb hI hin dX3_lawInForce_38 ?_
      refine lv_icmp_lt (tgt := 44) hx hb dX3_lawInForce_39 (by decide) (fun hc => ?_) (fun hc => ?_)
      · have hw := hw.1 hc
        obtain ⟨a3, ea3⟩ : ∃ y : Int32, y = x3 + 1 := ⟨_, rfl⟩
        have hw := hw a3 ea3
        refine lv_iinc (v := a3) (lv' := [(3, .int a3), (0, .ref (g.2.1 4)), (1, .int x1), (2, .int x2)]) hx hb dX3_lawInForce_44 hl (k := 3) rfl (by rw [ea3]; rfl) (by decide) rfl (fun ls hl => ?_)
        refine lv_goto (tgt := 4) hx hb dX3_lawInForce_47 (by decide) ?_
        rw [hK4] at hw
        exact ih4 _ _ _ _ _ _ hI hS (lv_sub hl [1, 2, 3, 0] rfl) hw
      have hw := hw.2 hc
      refine lv_iload_n hx hb dX3_lawInForce_42 rfl (lv_at hl 3 rfl) ?_
      refine lv_istore_n (lv' := [(2, .int x3), (0, .ref (g.2.1 4)), (1, .int x1), (3, .int x3)]) hx hb dX3_lawInForce_43 rfl hl (by decide) rfl (fun ls hl => ?_)
      obtain ⟨a4, ea4⟩ : ∃ y : Int32, y = x3 + 1 := ⟨_, rfl⟩
      have hw := hw a4 ea4
      refine lv_iinc (v := a4) (lv' := [(3, .int a4), (2, .int x3), (0, .ref (g.2.1 4)), (1, .int x1)]) hx hb dX3_lawInForce_44 hl (k := 3) rfl (by rw [ea4]; rfl) (by decide) rfl (fun ls hl => ?_)
      refine lv_goto (tgt := 4) hx hb dX3_lawInForce_47 (by decide) ?_
      rw [hK4] at hw
      exact ih4 _ _ _ _ _ _ hI hS (lv_sub hl [2, 3, 1, 0] rfl) hw
  exact key4 n4 _ _ _ _ _ _ hI hS (lv_sub hl [2, 3, 1, 0] rfl) hw
set_option maxRecDepth 100000 in
set_option maxHeartbeats 4000000 in
theorem cx_X3_deathKnown (l : Launch) (g : wG) {σ : wS} {x1 : Int32} {x2 : Int32} {Q : Int32 → Prop} (hw : wx_X3_deathKnown Q x1 x2 σ) : Met l yX3_deathKnown wsX3_deathKnown ({ frames := 0, cells := 0, slots := 0, locals := 0 } : Room) (va_Pc [.ref (g.2.1 4), .int x1, .int x2] (fun U => xIn g σ U.heap U)) (va_Qi (fun r σ1 => Q r ∧ σ1 = σ) (fun σ1 t => xIn g σ1 t.heap t) (xA g)) 0 0 (xA g) := by
  refine gOfI (maxL := 6) (xMv g) (by decide) rfl (Nat.le_of_ble_eq_true rfl) ?_
  intro p e s m args below meth c QQ hx hb hml hown hts hret ls hl hI
  have hl : lv_has ls 6 [(0, .ref (g.2.1 4)), (1, .int x1), (2, .int x2)] := hl
  have hS : va_S (xA g) s.heap s.heap [] := va_S.rf
  have hF : ∀ w ∈ wsX30, w.before args s = true := fun w h => hts w (List.mem_cons_of_mem _ (List.mem_append_right _ h))
  refine lv_iconst (v := (-1)) hx hb dX3_deathKnown_0 (by decide) ?_
  refine lv_topi (fun a1 ea1 => ?_)
  have hw := hw a1 ea1
  refine lv_istore_n (lv' := [(3, .int a1), (0, .ref (g.2.1 4)), (1, .int x1), (2, .int x2)]) hx hb dX3_deathKnown_1 rfl hl (by decide) rfl (fun ls hl => ?_)
  refine lv_iconst (v := 0) hx hb dX3_deathKnown_2 (by decide) ?_
  refine lv_istore (lv' := [(4, .int 0), (3, .int a1), (0, .ref (g.2.1 4)), (1, .int x1), (2, .int x2)]) hx hb dX3_deathKnown_3 hl (by decide) rfl (fun ls hl => ?_)
  obtain ⟨n5, hw⟩ := hw
  have key5 : ∀ (n : Nat) (x1 : Int32) (x2 : Int32) (x3 : Int32) (x4 : Int32) (H : Heap) (locs : List Loc) (ls : Array Slot), xIn g σ H s → va_S (xA g) s.heap H locs → lv_has ls 6 [(0, .ref (g.2.1 4)), (1, .int x1), (2, .int x2), (3, .int x3), (4, .int x4)] → wloop (wx_X3_deathKnown_L5 Q x1 x2 σ) n (x3, x4) → W p l e ({ frames := 0, cells := 0, slots := 0, locals := 0 } : Room) s m args below meth c H locs 0 0 QQ (F0 m 5 ls []) := by
    intro n
    induction n with
    | zero => intro x1 x2 x3 x4  H locs ls hI hS hl hw; exact False.elim hw
    | succ n ih =>
      intro x1 x2 x3 x4  H locs ls hI hS hl hw
      obtain ⟨K5, hK5⟩ : ∃ K, K = wloop (wx_X3_deathKnown_L5 Q x1 x2 σ) n := ⟨_, rfl⟩
      have hw : wx_X3_deathKnown_L5 Q x1 x2 σ K5 (x3, x4) := by rw [hK5]; exact hw
      dsimp only [wx_X3_deathKnown_L5] at hw
      have ih5 := ih
      have j41 : ∀ (x3 : Int32) (x4 : Int32) (s0 : Int32) (H : Heap) (locs : List Loc) (ls : Array Slot), xIn g σ H s → va_S (xA g) s.heap H locs → lv_has ls 6 [(0, .ref (g.2.1 4)), (1, .int x1), (2, .int x2), (3, .int x3), (4, .int x4)] → wx_X3_deathKnown_J41 Q K5 x1 x2 x3 x4 s0 σ → W p l e ({ frames := 0, cells := 0, slots := 0, locals := 0 } : Room) s m args below meth c H locs 0 0 QQ (F0 m 41 ls [.int s0]) := by
        intro x3 x4 s0  H locs ls hI hS hl hw
        refine lv_istore (lv' := [(5, .int s0), (0, .ref (g.2.1 4)), (1, .int x1), (2, .int x2), (3, .int x3), (4, .int x4)]) hx hb dX3_deathKnown_41 hl (by decide) rfl (fun ls hl => ?_)
        refine lv_iload hx hb dX3_deathKnown_43 (lv_at hl 0 rfl) ?_
        refine lv_if_eq (tgt := 72) hx hb dX3_deathKnown_45 (by decide) (fun hc => ?_) (fun hc => ?_)
        · have hw := hw.1 hc
          obtain ⟨a1, ea1⟩ : ∃ y : Int32, y = x4 + 1 := ⟨_, rfl⟩
          have hw := hw a1 ea1
          refine lv_iinc (v := a1) (lv' := [(4, .int a1), (5, .int s0), (0, .ref (g.2.1 4)), (1, .int x1), (2, .int x2), (3, .int x3)]) hx hb dX3_deathKnown_72 hl (k := 5) rfl (by rw [ea1]; rfl) (by decide) rfl (fun ls hl => ?_)
          refine lv_goto (tgt := 5) hx hb dX3_deathKnown_75 (by decide) ?_
          rw [hK5] at hw
          exact ih5 _ _ _ _ _ _ _ hI hS (lv_sub hl [2, 3, 4, 5, 0] rfl) hw
        have hw := hw.2 hc
        refine lv_iload_n hx hb dX3_deathKnown_48 rfl (lv_at hl 4 rfl) ?_
        refine lv_iconst (v := (-1)) hx hb dX3_deathKnown_49 (by decide) ?_
        refine lv_icmp_eq (tgt := 69) hx hb dX3_deathKnown_50 (by decide) (fun hc => ?_) (fun hc => ?_)
        · have hw := hw.1 hc
          refine lv_iload hx hb dX3_deathKnown_69 (lv_at hl 5 rfl) ?_
          refine lv_istore_n (lv' := [(3, .int x4), (5, .int s0), (0, .ref (g.2.1 4)), (1, .int x1), (2, .int x2), (4, .int x4)]) hx hb dX3_deathKnown_71 rfl hl (by decide) rfl (fun ls hl => ?_)
          obtain ⟨a2, ea2⟩ : ∃ y : Int32, y = x4 + 1 := ⟨_, rfl⟩
          have hw := hw a2 ea2
          refine lv_iinc (v := a2) (lv' := [(4, .int a2), (3, .int x4), (5, .int s0), (0, .ref (g.2.1 4)), (1, .int x1), (2, .int x2)]) hx hb dX3_deathKnown_72 hl (k := 5) rfl (by rw [ea2]; rfl) (by decide) rfl (fun ls hl => ?_)
          refine lv_goto (tgt := 5) hx hb dX3_deathKnown_75 (by decide) ?_
          rw [hK5] at hw
          exact ih5 _ _ _ _ _ _ _ hI hS (lv_sub hl [3, 4, 5, 1, 0] rfl) hw
        have hw := hw.2 hc
        refine lv_aload_n hx hb dX3_deathKnown_53 rfl (lv_at hl 1 rfl) ?_
        refine xG_X3_deathsToldOn hx hb hF hown hI (hts _ (List.mem_of_getElem? (i := 3) rfl : (Cond.fieldLink RX3 24 "PlateRoom$RightsBook" "deathsToldOn" "[I" : Cond) ∈ wsX3_deathKnown)) dX3_deathKnown_54 ?_
        refine lv_iload hx hb dX3_deathKnown_57 (lv_at hl 5 rfl) ?_
        have hin := hw.1
        have hw := hw.2
        refine xR_X3_deathsToldOn hx hb hI hin dX3_deathKnown_59 ?_
        refine lv_aload_n hx hb dX3_deathKnown_60 rfl (lv_at hl 1 rfl) ?_
        refine xG_X3_deathsToldOn hx hb hF hown hI (hts _ (List.mem_of_getElem? (i := 3) rfl : (Cond.fieldLink RX3 24 "PlateRoom$RightsBook" "deathsToldOn" "[I" : Cond) ∈ wsX3_deathKnown)) dX3_deathKnown_61 ?_
        refine lv_iload_n hx hb dX3_deathKnown_64 rfl (lv_at hl 4 rfl) ?_
        have hin := hw.1
        have hw := hw.2
        refine xR_X3_deathsToldOn hx hb hI hin dX3_deathKnown_65 ?_
        refine lv_icmp_lt (tgt := 72) hx hb dX3_deathKnown_66 (by decide) (fun hc => ?_) (fun hc => ?_)
        · have hw := hw.1 hc
          obtain ⟨a3, ea3⟩ : ∃ y : Int32, y = x4 + 1 := ⟨_, rfl⟩
          have hw := hw a3 ea3
          refine lv_iinc (v := a3) (lv' := [(4, .int a3), (5, .int s0), (0, .ref (g.2.1 4)), (1, .int x1), (2, .int x2), (3, .int x3)]) hx hb dX3_deathKnown_72 hl (k := 5) rfl (by rw [ea3]; rfl) (by decide) rfl (fun ls hl => ?_)
          refine lv_goto (tgt := 5) hx hb dX3_deathKnown_75 (by decide) ?_
          rw [hK5] at hw
          exact ih5 _ _ _ _ _ _ _ hI hS (lv_sub hl [2, 3, 4, 5, 0] rfl) hw
        have hw := hw.2 hc
        refine lv_iload hx hb dX3_deathKnown_69 (lv_at hl 5 rfl) ?_
        refine lv_istore_n (lv' := [(3, .int x4), (5, .int s0), (0, .ref (g.2.1 4)), (1, .int x1), (2, .int x2), (4, .int x4)]) hx hb dX3_deathKnown_71 rfl hl (by decide) rfl (fun ls hl => ?_)
        obtain ⟨a4, ea4⟩ : ∃ y : Int32, y = x4 + 1 := ⟨_, rfl⟩
        have hw := hw a4 ea4
        refine lv_iinc (v := a4) (lv' := [(4, .int a4), (3, .int x4), (5, .int s0), (0, .ref (g.2.1 4)), (1, .int x1), (2, .int x2)]) hx hb dX3_deathKnown_72 hl (k := 5) rfl (by rw [ea4]; rfl) (by decide) rfl (fun ls hl => ?_)
        refine lv_goto (tgt := 5) hx hb dX3_deathKnown_75 (by decide) ?_
        rw [hK5] at hw
        exact ih5 _ _ _ _ _ _ _ hI hS (lv_sub hl [3, 4, 5, 1, 0] rfl) hw
      have j40 : ∀ (x3 : Int32) (x4 : Int32) (H : Heap) (locs : List Loc) (ls : Array Slot), xIn g σ H s → va_S (xA g) s.heap H locs → lv_has ls 6 [(0, .ref (g.2.1 4)), (1, .int x1), (2, .int x2), (3, .int x3), (4, .int x4)] → wx_X3_deathKnown_J40 Q K5 x1 x2 x3 x4 σ → W p l e ({ frames := 0, cells := 0, slots := 0, locals := 0 } : Room) s m args below meth c H locs 0 0 QQ (F0 m 40 ls []) := by
        intro x3 x4  H locs ls hI hS hl hw
        refine lv_iconst (v := 0) hx hb dX3_deathKnown_40 (by decide) ?_
        exact j41 _ _ _ _ _ _ hI hS (lv_sub hl [0, 1, 2, 3, 4] rfl) hw
      refine lv_iload hx hb dX3_deathKnown_5 (lv_at hl 4 rfl) ?_
      refine lv_aload_n hx hb dX3_deathKnown_7 rfl (lv_at hl 0 rfl) ?_
      refine xG_X3_deathCount hx hb hF hown hI (hts _ (List.mem_of_getElem? (i := 1) rfl : (Cond.fieldLink RX3 31 "PlateRoom$RightsBook" "deathCount" "I" : Cond) ∈ wsX3_deathKnown)) dX3_deathKnown_8 ?_
      refine lv_icmp_ge (tgt := 78) hx hb dX3_deathKnown_11 (by decide) (fun hc => ?_) (fun hc => ?_)
      · have hw := hw.1 hc
        refine lv_iload_n hx hb dX3_deathKnown_78 rfl (lv_at hl 3 rfl) ?_
        exact hret _ _ _ _ _ _ dX3_deathKnown_79 ⟨hw, rfl⟩ hI hS
      have hw := hw.2 hc
      refine lv_aload_n hx hb dX3_deathKnown_14 rfl (lv_at hl 0 rfl) ?_
      refine xG_X3_deathPlates hx hb hF hown hI (hts _ (List.mem_of_getElem? (i := 2) rfl : (Cond.fieldLink RX3 18 "PlateRoom$RightsBook" "deathPlates" "[I" : Cond) ∈ wsX3_deathKnown)) dX3_deathKnown_15 ?_
      refine lv_iload hx hb dX3_deathKnown_18 (lv_at hl 4 rfl) ?_
      have hin := hw.1
      have hw := hw.2
      refine xR_X3_deathPlates hx hb hI hin dX3_deathKnown_20 ?_
      refine lv_iload_n hx hb dX3_deathKnown_21 rfl (lv_at hl 1 rfl) ?_
      refine lv_icmp_ne (tgt := 40) hx hb dX3_deathKnown_22 (by decide) (fun hc => ?_) (fun hc => ?_)
      · have hw := hw.1 hc
        exact j40 _ _ _ _ _ hI hS (lv_sub hl [0, 1, 2, 3, 4] rfl) hw
      have hw := hw.2 hc
      refine lv_aload_n hx hb dX3_deathKnown_25 rfl (lv_at hl 0 rfl) ?_
      refine xG_X3_deathsToldOn hx hb hF hown hI (hts _ (List.mem_of_getElem? (i := 3) rfl : (Cond.fieldLink RX3 24 "PlateRoom$RightsBook" "deathsToldOn" "[I" : Cond) ∈ wsX3_deathKnown)) dX3_deathKnown_26 ?_
      refine lv_iload hx hb dX3_deathKnown_29 (lv_at hl 4 rfl) ?_
      have hin := hw.1
      have hw := hw.2
      refine xR_X3_deathsToldOn hx hb hI hin dX3_deathKnown_31 ?_
      refine lv_iload_n hx hb dX3_deathKnown_32 rfl (lv_at hl 2 rfl) ?_
      refine lv_icmp_gt (tgt := 40) hx hb dX3_deathKnown_33 (by decide) (fun hc => ?_) (fun hc => ?_)
      · have hw := hw.1 hc
        exact j40 _ _ _ _ _ hI hS (lv_sub hl [0, 1, 2, 3, 4] rfl) hw
      have hw := hw.2 hc
      refine lv_iconst (v := 1) hx hb dX3_deathKnown_36 (by decide) ?_
      refine lv_goto (tgt := 41) hx hb dX3_deathKnown_37 (by decide) ?_
      exact j41 _ _ _ _ _ _ hI hS (lv_sub hl [0, 1, 2, 3, 4] rfl) hw
  exact key5 n5 _ _ _ _ _ _ _ hI hS (lv_sub hl [2, 3, 4, 1, 0] rfl) hw
set_option maxRecDepth 100000 in
set_option maxHeartbeats 4000000 in
theorem cx_X3_isFreeOn (l : Launch) (g : wG) {σ : wS} {x1 : Int32} {x2 : Int32} {x3 : Int32} {Q : Int32 → Prop} (hw : wx_X3_isFreeOn Q x1 x2 x3 σ) : Met l yX3_isFreeOn wsX3_isFreeOn ({ frames := 1, cells := 0, slots := 0, locals := 25 } : Room) (va_Pc [.ref (g.2.1 4), .int x1, .int x2, .int x3] (fun U => xIn g σ U.heap U)) (va_Qi (fun r σ1 => Q r ∧ σ1 = σ) (fun σ1 t => xIn g σ1 t.heap t) (xA g)) 0 0 (xA g) := by
  refine gOfZ (maxL := 6) (xMv g) (by decide) rfl (Nat.le_of_ble_eq_true rfl) ?_
  intro p e s m args below meth c QQ hx hb hml hown hts hret ls hl hI
  have hl : lv_has ls 6 [(0, .ref (g.2.1 4)), (1, .int x1), (2, .int x2), (3, .int x3)] := hl
  have hS : va_S (xA g) s.heap s.heap [] := va_S.rf
  have hF : ∀ w ∈ wsX30, w.before args s = true := fun w h => hts w (List.mem_cons_of_mem _ (List.mem_append_right _ h))
  refine lv_aload_n hx hb dX3_isFreeOn_0 rfl (lv_at hl 0 rfl) ?_
  refine lv_iload_n hx hb dX3_isFreeOn_1 rfl (lv_at hl 2 rfl) ?_
  refine gVi (cx_X3_lawInForce l g (σ := σ) hw) (xMv g) ⟨hx, hb, hml, hown, hts⟩ (cwV 1 hts gX3_isFreeOn_X3_lawInForce rfl rfl rfl (by decide +kernel) ⟨Nat.le_of_ble_eq_true rfl, Nat.le_of_ble_eq_true rfl⟩) (xRecv_X3 hI) hI hS hl.1 rfl rfl (Nat.le_of_ble_eq_true rfl) dX3_isFreeOn_2 (fun r1 σ2 H locs hw hI hS => ?_)
  obtain ⟨hw, hq⟩ := hw
  rw [hq] at hI
  refine lv_istore (lv' := [(4, .int r1), (0, .ref (g.2.1 4)), (1, .int x1), (2, .int x2), (3, .int x3)]) hx hb dX3_isFreeOn_5 hl (by decide) rfl (fun ls hl => ?_)
  refine lv_aload_n hx hb dX3_isFreeOn_7 rfl (lv_at hl 1 rfl) ?_
  refine lv_iload_n hx hb dX3_isFreeOn_8 rfl (lv_at hl 2 rfl) ?_
  refine lv_iload_n hx hb dX3_isFreeOn_9 rfl (lv_at hl 4 rfl) ?_
  refine gVi (cx_X3_deathKnown l g (σ := σ) hw) (xMv g) ⟨hx, hb, hml, hown, hts⟩ (cwV 2 hts gX3_isFreeOn_X3_deathKnown rfl rfl rfl (by decide +kernel) ⟨Nat.le_of_ble_eq_true rfl, Nat.le_of_ble_eq_true rfl⟩) (xRecv_X3 hI) hI hS hl.1 rfl rfl (Nat.le_of_ble_eq_true rfl) dX3_isFreeOn_10 (fun r3 σ4 H locs hw hI hS => ?_)
  obtain ⟨hw, hq⟩ := hw
  rw [hq] at hI
  refine lv_istore (lv' := [(5, .int r3), (4, .int r1), (0, .ref (g.2.1 4)), (1, .int x1), (2, .int x2), (3, .int x3)]) hx hb dX3_isFreeOn_13 hl (by decide) rfl (fun ls hl => ?_)
  refine lv_iload hx hb dX3_isFreeOn_15 (lv_at hl 1 rfl) ?_
  refine lv_iconst (v := (-1)) hx hb dX3_isFreeOn_17 (by decide) ?_
  refine lv_icmp_eq (tgt := 27) hx hb dX3_isFreeOn_18 (by decide) (fun hc => ?_) (fun hc => ?_)
  · have hw := hw.1 hc
    refine lv_iconst (v := 0) hx hb dX3_isFreeOn_27 (by decide) ?_
    exact hret _ _ _ _ _ _ dX3_isFreeOn_28 isB0 ⟨hw, rfl⟩ hI hS
  have hw := hw.2 hc
  refine lv_iload hx hb dX3_isFreeOn_21 (lv_at hl 0 rfl) ?_
  refine lv_iconst (v := (-1)) hx hb dX3_isFreeOn_23 (by decide) ?_
  refine lv_icmp_ne (tgt := 29) hx hb dX3_isFreeOn_24 (by decide) (fun hc => ?_) (fun hc => ?_)
  · have hw := hw.1 hc
    refine lv_aload_n hx hb dX3_isFreeOn_29 rfl (lv_at hl 2 rfl) ?_
    refine xG_X3_deathDays hx hb hF hown hI (hts _ (List.mem_of_getElem? (i := 1) rfl : (Cond.fieldLink RX3 21 "PlateRoom$RightsBook" "deathDays" "[I" : Cond) ∈ wsX3_isFreeOn)) dX3_isFreeOn_30 ?_
    refine lv_iload hx hb dX3_isFreeOn_33 (lv_at hl 0 rfl) ?_
    have hin := hw.1
    have hw := hw.2
    refine xR_X3_deathDays hx hb hI hin dX3_isFreeOn_35 ?_
    refine lv_aload_n hx hb dX3_isFreeOn_36 rfl (lv_at hl 2 rfl) ?_
    refine xG_X3_lawDays hx hb hF hown hI (hts _ (List.mem_of_getElem? (i := 2) rfl : (Cond.fieldLink RX3 15 "PlateRoom$RightsBook" "lawDays" "[I" : Cond) ∈ wsX3_isFreeOn)) dX3_isFreeOn_37 ?_
    refine lv_iload hx hb dX3_isFreeOn_40 (lv_at hl 1 rfl) ?_
    have hin := hw.1
    have hw := hw.2
    refine xR_X3_lawDays hx hb hI hin dX3_isFreeOn_42 ?_
    refine lv_iadd hx hb dX3_isFreeOn_43 ?_
    refine lv_iload_n hx hb dX3_isFreeOn_44 rfl (lv_at hl 4 rfl) ?_
    refine lv_icmp_gt (tgt := 52) hx hb dX3_isFreeOn_45 (by decide) (fun hc => ?_) (fun hc => ?_)
    · have hw := hw.1 hc
      refine lv_iconst (v := 0) hx hb dX3_isFreeOn_52 (by decide) ?_
      exact hret _ _ _ _ _ _ dX3_isFreeOn_53 isB0 ⟨hw, rfl⟩ hI hS
    have hw := hw.2 hc
    refine lv_iconst (v := 1) hx hb dX3_isFreeOn_48 (by decide) ?_
    refine lv_goto (tgt := 53) hx hb dX3_isFreeOn_49 (by decide) ?_
    exact hret _ _ _ _ _ _ dX3_isFreeOn_53 isB1 ⟨hw, rfl⟩ hI hS
  have hw := hw.2 hc
  refine lv_iconst (v := 0) hx hb dX3_isFreeOn_27 (by decide) ?_
  exact hret _ _ _ _ _ _ dX3_isFreeOn_28 isB0 ⟨hw, rfl⟩ hI hS
set_option maxRecDepth 100000 in
set_option maxHeartbeats 4000000 in
theorem cx_X5_free (l : Launch) (g : wG) {σ : wS} {x1 : Int32} {x2 : Int32} {x3 : Int32} {Q : Int32 → wS → Prop} (hw : wx_X5_free Q x1 x2 x3 σ) : Met l yX5_free wsX5_free ({ frames := 2, cells := 0, slots := 0, locals := 50 } : Room) (va_Pc [.ref (g.2.1 0), .int x1, .int x2, .int x3] (fun U => xIn g σ U.heap U)) (va_Qi Q (fun σ1 t => xIn g σ1 t.heap t) (xA g)) 0 0 (xA g) := by
  refine gOfI (maxL := 5) (xMv g) (by decide) rfl (Nat.le_of_ble_eq_true rfl) ?_
  intro p e s m args below meth c QQ hx hb hml hown hts hret ls hl hI
  have hl : lv_has ls 5 [(0, .ref (g.2.1 0)), (1, .int x1), (2, .int x2), (3, .int x3)] := hl
  have hS : va_S (xA g) s.heap s.heap [] := va_S.rf
  have hF : ∀ w ∈ wsX50, w.before args s = true := fun w h => hts w (List.mem_cons_of_mem _ (List.mem_append_left _ (List.mem_append_right _ h)))
  have j27 : ∀ (x1 : Int32) (x2 : Int32) (x3 : Int32) (s0 : Int32) (s1 : Int32) (σ : wS) (H : Heap) (locs : List Loc) (ls : Array Slot), xIn g σ H s → va_S (xA g) s.heap H locs → lv_has ls 5 [(0, .ref (g.2.1 0)), (1, .int x1), (2, .int x2), (3, .int x3)] → wx_X5_free_J27 Q x1 x2 x3 s0 s1 σ → W p l e ({ frames := 2, cells := 0, slots := 0, locals := 50 } : Room) s m args below meth c H locs 0 0 QQ (F0 m 27 ls [.int s1, .int s0]) := by
    intro x1 x2 x3 s0 s1 σ H locs ls hI hS hl hw
    refine gSi (cx_X5_whyNot l g (σ := σ) hw) (xMv g) ⟨hx, hb, hml, hown, hts⟩ (va_cwS 2 hts gX5_free_X5_whyNot rfl rfl rfl (by decide +kernel) ⟨Nat.le_of_ble_eq_true rfl, Nat.le_of_ble_eq_true rfl⟩) hI hS hl.1 rfl rfl (Nat.le_of_ble_eq_true rfl) dX5_free_27 (fun r1 σ2 H locs hw hI hS => ?_)
    obtain ⟨hw, hq⟩ := hw
    rw [hq] at hI
    refine lv_istore (lv' := [(4, .int r1), (0, .ref (g.2.1 0)), (1, .int x1), (2, .int x2), (3, .int x3)]) hx hb dX5_free_30 hl (by decide) rfl (fun ls hl => ?_)
    refine lv_iload hx hb dX5_free_32 (lv_at hl 0 rfl) ?_
    refine lv_if_eq (tgt := 44) hx hb dX5_free_34 (by decide) (fun hc => ?_) (fun hc => ?_)
    · have hw := hw.1 hc
      refine lv_aload_n hx hb dX5_free_44 rfl (lv_at hl 1 rfl) ?_
      refine lv_aload_n hx hb dX5_free_45 rfl (lv_at hl 1 rfl) ?_
      refine xG_X5_rights hx hb hF hown hI (hts _ (List.mem_of_getElem? (i := 2) rfl : (Cond.fieldLink RX5 40 "PlateRoom" "rights" "LPlateRoom$RightsBook;" : Cond) ∈ wsX5_free)) dX5_free_46 ?_
      refine lv_iload_n hx hb dX5_free_49 rfl (lv_at hl 2 rfl) ?_
      refine lv_iload_n hx hb dX5_free_50 rfl (lv_at hl 3 rfl) ?_
      refine lv_iload_n hx hb dX5_free_51 rfl (lv_at hl 4 rfl) ?_
      refine gVi (cx_X3_isFreeOn l g (σ := σ) hw) (xMv g) ⟨hx, hb, hml, hown, hts⟩ (cwV 3 hts gX5_free_X3_isFreeOn rfl rfl rfl (by decide +kernel) ⟨Nat.le_of_ble_eq_true rfl, Nat.le_of_ble_eq_true rfl⟩) (xRecv_X3 hI) hI hS hl.1 rfl rfl (Nat.le_of_ble_eq_true rfl) dX5_free_52 (fun r3 σ4 H locs hw hI hS => ?_)
      obtain ⟨hw, hq⟩ := hw
      rw [hq] at hI
      refine lv_if_eq (tgt := 62) hx hb dX5_free_55 (by decide) (fun hc => ?_) (fun hc => ?_)
      · have hw := hw.1 hc
        refine lv_iconst (v := 0) hx hb dX5_free_62 (by decide) ?_
        refine gVi (cx_X5_answer l g (σ := σ) hw) (xMv g) ⟨hx, hb, hml, hown, hts⟩ (cwV 1 hts gX5_free_X5_answer rfl rfl rfl (by decide +kernel) ⟨Nat.le_of_ble_eq_true rfl, Nat.le_of_ble_eq_true rfl⟩) (xRecv_X5 hI) hI hS hl.1 rfl rfl (Nat.le_of_ble_eq_true rfl) dX5_free_63 (fun r5 σ6 H locs hw hI hS => ?_)
        exact hret _ _ _ _ _ _ dX5_free_66 hw hI hS
      have hw := hw.2 hc
      refine lv_iconst (v := 1) hx hb dX5_free_58 (by decide) ?_
      refine lv_goto (tgt := 63) hx hb dX5_free_59 (by decide) ?_
      refine gVi (cx_X5_answer l g (σ := σ) hw) (xMv g) ⟨hx, hb, hml, hown, hts⟩ (cwV 1 hts gX5_free_X5_answer rfl rfl rfl (by decide +kernel) ⟨Nat.le_of_ble_eq_true rfl, Nat.le_of_ble_eq_true rfl⟩) (xRecv_X5 hI) hI hS hl.1 rfl rfl (Nat.le_of_ble_eq_true rfl) dX5_free_63 (fun r7 σ8 H locs hw hI hS => ?_)
      exact hret _ _ _ _ _ _ dX5_free_66 hw hI hS
    have hw := hw.2 hc
    refine lv_aload_n hx hb dX5_free_37 rfl (lv_at hl 1 rfl) ?_
    refine lv_iload hx hb dX5_free_38 (lv_at hl 0 rfl) ?_
    refine gVi (cx_X5_refuse l g (σ := σ) hw) (xMv g) ⟨hx, hb, hml, hown, hts⟩ (cwV 1 hts gX5_free_X5_refuse rfl rfl rfl (by decide +kernel) ⟨Nat.le_of_ble_eq_true rfl, Nat.le_of_ble_eq_true rfl⟩) (xRecv_X5 hI) hI hS hl.1 rfl rfl (Nat.le_of_ble_eq_true rfl) dX5_free_40 (fun r9 σ10 H locs hw hI hS => ?_)
    exact hret _ _ _ _ _ _ dX5_free_43 hw hI hS
  have j26 : ∀ (x1 : Int32) (x2 : Int32) (x3 : Int32) (s0 : Int32) (σ : wS) (H : Heap) (locs : List Loc) (ls : Array Slot), xIn g σ H s → va_S (xA g) s.heap H locs → lv_has ls 5 [(0, .ref (g.2.1 0)), (1, .int x1), (2, .int x2), (3, .int x3)] → wx_X5_free_J26 Q x1 x2 x3 s0 σ → W p l e ({ frames := 2, cells := 0, slots := 0, locals := 50 } : Room) s m args below meth c H locs 0 0 QQ (F0 m 26 ls [.int s0]) := by
    intro x1 x2 x3 s0 σ H locs ls hI hS hl hw
    refine lv_iconst (v := 0) hx hb dX5_free_26 (by decide) ?_
    exact j27 _ _ _ _ _ _ _ _ _ hI hS (lv_sub hl [0, 1, 2, 3] rfl) hw
  refine lv_aload_n hx hb dX5_free_0 rfl (lv_at hl 0 rfl) ?_
  refine lv_iload_n hx hb dX5_free_1 rfl (lv_at hl 1 rfl) ?_
  refine gVi (cx_X5_isPlate l g (σ := σ) hw) (xMv g) ⟨hx, hb, hml, hown, hts⟩ (cwV 1 hts gX5_free_X5_isPlate rfl rfl rfl (by decide +kernel) ⟨Nat.le_of_ble_eq_true rfl, Nat.le_of_ble_eq_true rfl⟩) (xRecv_X5 hI) hI hS hl.1 rfl rfl (Nat.le_of_ble_eq_true rfl) dX5_free_2 (fun r1 σ2 H locs hw hI hS => ?_)
  obtain ⟨hw, hq⟩ := hw
  rw [hq] at hI
  refine lv_iload_n hx hb dX5_free_5 rfl (lv_at hl 2 rfl) ?_
  refine lv_iconst (v := 0) hx hb dX5_free_6 (by decide) ?_
  refine lv_ldc (own := RX5) hx hb hown (hts _ (List.mem_of_getElem? (i := 1) rfl : (Cond.constant RX5 207 (200000) : Cond) ∈ wsX5_free)) dX5_free_7 ?_
  refine gSi (cx_X5_isWithin l g (σ := σ) hw) (xMv g) ⟨hx, hb, hml, hown, hts⟩ (va_cwS 3 hts gX5_free_X5_isWithin rfl rfl rfl (by decide +kernel) ⟨Nat.le_of_ble_eq_true rfl, Nat.le_of_ble_eq_true rfl⟩) hI hS hl.1 rfl rfl (Nat.le_of_ble_eq_true rfl) dX5_free_9 (fun r3 σ4 H locs hw hI hS => ?_)
  obtain ⟨hw, hq⟩ := hw
  rw [hq] at hI
  refine lv_if_eq (tgt := 26) hx hb dX5_free_12 (by decide) (fun hc => ?_) (fun hc => ?_)
  · have hw := hw.1 hc
    exact j26 _ _ _ _ _ _ _ _ hI hS (lv_sub hl [0, 1, 2, 3] rfl) hw
  have hw := hw.2 hc
  refine lv_iload_n hx hb dX5_free_15 rfl (lv_at hl 3 rfl) ?_
  refine gSi (cx_X5_isDay l g (σ := σ) hw) (xMv g) ⟨hx, hb, hml, hown, hts⟩ (va_cwS 1 hts gX5_free_X5_isDay rfl rfl rfl (by decide +kernel) ⟨Nat.le_of_ble_eq_true rfl, Nat.le_of_ble_eq_true rfl⟩) hI hS hl.1 rfl rfl (Nat.le_of_ble_eq_true rfl) dX5_free_16 (fun r5 σ6 H locs hw hI hS => ?_)
  obtain ⟨hw, hq⟩ := hw
  rw [hq] at hI
  refine lv_if_eq (tgt := 26) hx hb dX5_free_19 (by decide) (fun hc => ?_) (fun hc => ?_)
  · have hw := hw.1 hc
    exact j26 _ _ _ _ _ _ _ _ hI hS (lv_sub hl [0, 1, 2, 3] rfl) hw
  have hw := hw.2 hc
  refine lv_iconst (v := 1) hx hb dX5_free_22 (by decide) ?_
  refine lv_goto (tgt := 27) hx hb dX5_free_23 (by decide) ?_
  exact j27 _ _ _ _ _ _ _ _ _ hI hS (lv_sub hl [0, 1, 2, 3] rfl) hw
