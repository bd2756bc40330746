set_option maxRecDepth 100000 in
set_option maxHeartbeats 4000000 in
theorem cx_X1_fewestRows (l : Launch) (g : wG) {σ : wS} {x1 : Int32} {Q : Int32 → Prop} (hw : wx_X1_fewestRows Q x1 σ) : Met l yX1_fewestRows wsX1_fewestRows ({ frames := 3, cells := 0, slots := 0, locals := 69 } : Room) (va_Pc [.ref (g.2.1 2), .int x1] (fun U => xIn g σ U.heap U)) (va_Qi (fun r σ1 => Q r ∧ σ1 = σ) (fun σ1 t => xIn g σ1 t.heap t) (xA g)) 0 0 (xA g) := by
  refine gOfI (maxL := 6) (xMv g) (by decide) rfl (Nat.le_of_ble_eq_true rfl) ?_
  intro p e s m args below meth c QQ hx hb hml hown hts hret ls hl hI
  have hl : lv_has ls 6 [(0, .ref (g.2.1 2)), (1, .int x1)] := hl
  have hS : va_S (xA g) s.heap s.heap [] := va_S.rf
  refine lv_iload_n hx hb dX1_fewestRows_0 rfl (lv_at hl 1 rfl) ?_
  refine lv_istore_n (lv' := [(2, .int x1), (0, .ref (g.2.1 2)), (1, .int x1)]) hx hb dX1_fewestRows_1 rfl hl (by decide) rfl (fun ls hl => ?_)
  refine lv_iconst (v := 0) hx hb dX1_fewestRows_2 (by decide) ?_
  refine lv_istore_n (lv' := [(3, .int 0), (2, .int x1), (0, .ref (g.2.1 2)), (1, .int x1)]) hx hb dX1_fewestRows_3 rfl hl (by decide) rfl (fun ls hl => ?_)
  refine lv_iconst (v := 0) hx hb dX1_fewestRows_4 (by decide) ?_
  refine lv_istore (lv' := [(4, .int 0), (3, .int 0), (2, .int x1), (0, .ref (g.2.1 2)), (1, .int x1)]) hx hb dX1_fewestRows_5 hl (by decide) rfl (fun ls hl => ?_)
  obtain ⟨n7, hw⟩ := hw
  have key7 : ∀ (n : Nat) (x2 : Int32) (x3 : Int32) (x4 : Int32) (H : Heap) (locs : List Loc) (ls : Array Slot), xIn g σ H s → va_S (xA g) s.heap H locs → lv_has ls 6 [(0, .ref (g.2.1 2)), (2, .int x2), (3, .int x3), (4, .int x4)] → wloop (wx_X1_fewestRows_L7 Q σ) n (x2, x3, x4) → W p l e ({ frames := 3, cells := 0, slots := 0, locals := 69 } : Room) s m args below meth c H locs 0 0 QQ (F0 m 7 ls []) := by
    intro n
    induction n with
    | zero => intro x2 x3 x4  H locs ls hI hS hl hw; exact False.elim hw
    | succ n ih =>
      intro x2 x3 x4  H locs ls hI hS hl hw
      obtain ⟨K7, hK7⟩ : ∃ K, K = wloop (wx_X1_fewestRows_L7 Q σ) n := ⟨_, rfl⟩
      have hw : wx_X1_fewestRows_L7 Q σ K7 (x2, x3, x4) := by rw [hK7]; exact hw
      dsimp only [wx_X1_fewestRows_L7] at hw
      have ih7 := ih
      refine lv_iload hx hb dX1_fewestRows_7 (lv_at hl 3 rfl) ?_
      refine lv_bipush (v := 20) hx hb dX1_fewestRows_9 (by decide) ?_
      refine lv_icmp_ge (tgt := 51) hx hb dX1_fewestRows_11 (by decide) (fun hc => ?_) (fun hc => ?_)
      · have hw := hw.1 hc
        refine lv_iload_n hx hb dX1_fewestRows_51 rfl (lv_at hl 2 rfl) ?_
        exact hret _ _ _ _ _ _ dX1_fewestRows_52 ⟨hw, rfl⟩ hI hS
      have hw := hw.2 hc
      refine lv_iload_n hx hb dX1_fewestRows_14 rfl (lv_at hl 1 rfl) ?_
      refine lv_if_eq (tgt := 51) hx hb dX1_fewestRows_15 (by decide) (fun hc => ?_) (fun hc => ?_)
      · have hw := hw.1 hc
        refine lv_iload_n hx hb dX1_fewestRows_51 rfl (lv_at hl 2 rfl) ?_
        exact hret _ _ _ _ _ _ dX1_fewestRows_52 ⟨hw, rfl⟩ hI hS
      have hw := hw.2 hc
      refine lv_aload_n hx hb dX1_fewestRows_18 rfl (lv_at hl 0 rfl) ?_
      refine lv_iload_n hx hb dX1_fewestRows_19 rfl (lv_at hl 1 rfl) ?_
      refine gVi (cx_X1_partOf l g (σ := σ) hw) (xMv g) ⟨hx, hb, hml, hown, hts⟩ (cwV 1 hts gX1_fewestRows_X1_partOf rfl rfl rfl (by decide +kernel) ⟨Nat.le_of_ble_eq_true rfl, Nat.le_of_ble_eq_true rfl⟩) (xRecv_X1 hI) hI hS hl.1 rfl rfl (Nat.le_of_ble_eq_true rfl) dX1_fewestRows_20 (fun r1 σ2 H locs hw hI hS => ?_)
      obtain ⟨hw, hq⟩ := hw
      rw [hq] at hI
      refine lv_istore (lv' := [(5, .int r1), (0, .ref (g.2.1 2)), (2, .int x2), (3, .int x3), (4, .int x4)]) hx hb dX1_fewestRows_23 hl (by decide) rfl (fun ls hl => ?_)
      refine lv_iload_n hx hb dX1_fewestRows_25 rfl (lv_at hl 3 rfl) ?_
      refine lv_iconst (v := 1) hx hb dX1_fewestRows_26 (by decide) ?_
      refine lv_aload_n hx hb dX1_fewestRows_27 rfl (lv_at hl 1 rfl) ?_
      refine lv_iload hx hb dX1_fewestRows_28 (lv_at hl 0 rfl) ?_
      refine gVi (cx_X1_startsIn l g (σ := σ) hw) (xMv g) ⟨hx, hb, hml, hown, hts⟩ (cwV 1 hts gX1_fewestRows_X1_startsIn rfl rfl rfl (by decide +kernel) ⟨Nat.le_of_ble_eq_true rfl, Nat.le_of_ble_eq_true rfl⟩) (xRecv_X1 hI) hI hS hl.1 rfl rfl (Nat.le_of_ble_eq_true rfl) dX1_fewestRows_30 (fun r3 σ4 H locs hw hI hS => ?_)
      obtain ⟨hw, hq⟩ := hw
      rw [hq] at hI
      refine va_mmax hx hb (hml.trans hl.1.symm) hown (hts _ (List.mem_of_getElem? (i := 1) rfl : (Cond.methodLink RX1 41 Lib.Math.max.name : Cond) ∈ wsX1_fewestRows)) (hts _ (List.mem_of_getElem? (i := 2) rfl : (Cond.static Lib.Math.max.name : Cond) ∈ wsX1_fewestRows)) (hts _ (List.mem_of_getElem? (i := 3) rfl : (Cond.initialized "java/lang/Math" : Cond) ∈ wsX1_fewestRows)) (hts _ (List.mem_of_getElem? (i := 4) rfl : (Cond.code Lib.Math.max.name Lib.Math.max.code 2 (some .int) : Cond) ∈ wsX1_fewestRows)) (Nat.le_of_ble_eq_true rfl) (Nat.le_of_ble_eq_true rfl) (Nat.zero_le _) (Nat.zero_le _) dX1_fewestRows_33 ?_
      refine lv_topi (fun m5 em5 => ?_)
      have hw := hw m5 em5
      refine lv_iadd hx hb dX1_fewestRows_36 ?_
      refine lv_topi (fun a6 ea6 => ?_)
      have hw := hw a6 ea6
      refine lv_istore_n (lv' := [(3, .int a6), (5, .int r1), (0, .ref (g.2.1 2)), (2, .int x2), (4, .int x4)]) hx hb dX1_fewestRows_37 rfl hl (by decide) rfl (fun ls hl => ?_)
      refine lv_iload_n hx hb dX1_fewestRows_38 rfl (lv_at hl 3 rfl) ?_
      refine lv_iload hx hb dX1_fewestRows_39 (lv_at hl 1 rfl) ?_
      refine lv_iconst (v := (-1)) hx hb dX1_fewestRows_41 (by decide) ?_
      refine lv_ixor hx hb dX1_fewestRows_42 ?_
      refine lv_iand hx hb dX1_fewestRows_43 ?_
      refine lv_topi (fun a7 ea7 => ?_)
      have hw := hw a7 ea7
      refine lv_istore_n (lv' := [(2, .int a7), (3, .int a6), (5, .int r1), (0, .ref (g.2.1 2)), (4, .int x4)]) hx hb dX1_fewestRows_44 rfl hl (by decide) rfl (fun ls hl => ?_)
      obtain ⟨a8, ea8⟩ : ∃ y : Int32, y = x4 + 1 := ⟨_, rfl⟩
      have hw := hw a8 ea8
      refine lv_iinc (v := a8) (lv' := [(4, .int a8), (2, .int a7), (3, .int a6), (5, .int r1), (0, .ref (g.2.1 2))]) hx hb dX1_fewestRows_45 hl (k := 4) rfl (by rw [ea8]; rfl) (by decide) rfl (fun ls hl => ?_)
      refine lv_goto (tgt := 7) hx hb dX1_fewestRows_48 (by decide) ?_
      rw [hK7] at hw
      exact ih7 _ _ _ _ _ _ hI hS (lv_sub hl [4, 1, 2, 0] rfl) hw
  exact key7 n7 _ _ _ _ _ _ hI hS (lv_sub hl [3, 2, 1, 0] rfl) hw
set_option maxRecDepth 100000 in
set_option maxHeartbeats 4000000 in
theorem cx_X5_whyNoRow (l : Launch) (g : wG) {σ : wS} {x1 : Int32} {Q : Int32 → Prop} (hw : wx_X5_whyNoRow Q x1 σ) : Met l yX5_whyNoRow wsX5_whyNoRow ({ frames := 4, cells := 0, slots := 0, locals := 94 } : Room) (va_Pc [.ref (g.2.1 0), .int x1] (fun U => xIn g σ U.heap U)) (va_Qi (fun r σ1 => Q r ∧ σ1 = σ) (fun σ1 t => xIn g σ1 t.heap t) (xA g)) 0 0 (xA g) := by
  refine gOfI (maxL := 2) (xMv g) (by decide) rfl (Nat.le_of_ble_eq_true rfl) ?_
  intro p e s m args below meth c QQ hx hb hml hown hts hret ls hl hI
  have hl : lv_has ls 2 [(0, .ref (g.2.1 0)), (1, .int x1)] := hl
  have hS : va_S (xA g) s.heap s.heap [] := va_S.rf
  have hF : ∀ w ∈ wsX50, w.before args s = true := fun w h => hts w (List.mem_cons_of_mem _ (List.mem_append_left _ (List.mem_append_right _ h)))
  refine lv_iload_n hx hb dX5_whyNoRow_0 rfl (lv_at hl 1 rfl) ?_
  refine lv_if_eq (tgt := 12) hx hb dX5_whyNoRow_1 (by decide) (fun hc => ?_) (fun hc => ?_)
  · have hw := hw.1 hc
    refine lv_iconst (v := 2) hx hb dX5_whyNoRow_12 (by decide) ?_
    exact hret _ _ _ _ _ _ dX5_whyNoRow_13 ⟨hw, rfl⟩ hI hS
  have hw := hw.2 hc
  refine lv_aload_n hx hb dX5_whyNoRow_4 rfl (lv_at hl 0 rfl) ?_
  refine lv_iload_n hx hb dX5_whyNoRow_5 rfl (lv_at hl 1 rfl) ?_
  refine gVi (cx_X5_isSet l g (σ := σ) hw) (xMv g) ⟨hx, hb, hml, hown, hts⟩ (cwV 1 hts gX5_whyNoRow_X5_isSet rfl rfl rfl (by decide +kernel) ⟨Nat.le_of_ble_eq_true rfl, Nat.le_of_ble_eq_true rfl⟩) (xRecv_X5 hI) hI hS hl.1 rfl rfl (Nat.le_of_ble_eq_true rfl) dX5_whyNoRow_6 (fun r1 σ2 H locs hw hI hS => ?_)
  obtain ⟨hw, hq⟩ := hw
  rw [hq] at hI
  refine lv_if_ne (tgt := 14) hx hb dX5_whyNoRow_9 (by decide) (fun hc => ?_) (fun hc => ?_)
  · have hw := hw.1 hc
    refine lv_aload_n hx hb dX5_whyNoRow_14 rfl (lv_at hl 0 rfl) ?_
    refine xG_X5_table hx hb hF hown hI (hts _ (List.mem_of_getElem? (i := 1) rfl : (Cond.fieldLink RX5 26 "PlateRoom" "table" "LPlateRoom$EdgeTable;" : Cond) ∈ wsX5_whyNoRow)) dX5_whyNoRow_15 ?_
    refine lv_iload_n hx hb dX5_whyNoRow_18 rfl (lv_at hl 1 rfl) ?_
    refine gVi (cx_X1_fewestRows l g (σ := σ) hw) (xMv g) ⟨hx, hb, hml, hown, hts⟩ (cwV 1 hts gX5_whyNoRow_X1_fewestRows rfl rfl rfl (by decide +kernel) ⟨Nat.le_of_ble_eq_true rfl, Nat.le_of_ble_eq_true rfl⟩) (xRecv_X1 hI) hI hS hl.1 rfl rfl (Nat.le_of_ble_eq_true rfl) dX5_whyNoRow_19 (fun r3 σ4 H locs hw hI hS => ?_)
    obtain ⟨hw, hq⟩ := hw
    rw [hq] at hI
    refine lv_iconst (v := 1) hx hb dX5_whyNoRow_22 (by decide) ?_
    refine lv_icmp_ne (tgt := 30) hx hb dX5_whyNoRow_23 (by decide) (fun hc => ?_) (fun hc => ?_)
    · have hw := hw.1 hc
      refine lv_bipush (v := 7) hx hb dX5_whyNoRow_30 (by decide) ?_
      exact hret _ _ _ _ _ _ dX5_whyNoRow_32 ⟨hw, rfl⟩ hI hS
    have hw := hw.2 hc
    refine lv_iconst (v := 0) hx hb dX5_whyNoRow_26 (by decide) ?_
    refine lv_goto (tgt := 32) hx hb dX5_whyNoRow_27 (by decide) ?_
    exact hret _ _ _ _ _ _ dX5_whyNoRow_32 ⟨hw, rfl⟩ hI hS
  have hw := hw.2 hc
  refine lv_iconst (v := 2) hx hb dX5_whyNoRow_12 (by decide) ?_
  exact hret _ _ _ _ _ _ dX5_whyNoRow_13 ⟨hw, rfl⟩ hI hS
set_option maxRecDepth 100000 in
set_option maxHeartbeats 4000000 in
theorem cx_X1_firstPlaces (l : Launch) (g : wG) {σ : wS} {x1 : Int32} {Q : Int32 → Prop} (hw : wx_X1_firstPlaces Q x1 σ) : Met l yX1_firstPlaces wsX1_firstPlaces ({ frames := 3, cells := 0, slots := 0, locals := 69 } : Room) (va_Pc [.ref (g.2.1 2), .int x1] (fun U => xIn g σ U.heap U)) (va_Qi (fun r σ1 => Q r ∧ σ1 = σ) (fun σ1 t => xIn g σ1 t.heap t) (xA g)) 0 0 (xA g) := by
  refine gOfI (maxL := 4) (xMv g) (by decide) rfl (Nat.le_of_ble_eq_true rfl) ?_
  intro p e s m args below meth c QQ hx hb hml hown hts hret ls hl hI
  have hl : lv_has ls 4 [(0, .ref (g.2.1 2)), (1, .int x1)] := hl
  have hS : va_S (xA g) s.heap s.heap [] := va_S.rf
  refine lv_aload_n hx hb dX1_firstPlaces_0 rfl (lv_at hl 0 rfl) ?_
  refine lv_iload_n hx hb dX1_firstPlaces_1 rfl (lv_at hl 1 rfl) ?_
  refine gVi (cx_X1_startsIn l g (σ := σ) hw) (xMv g) ⟨hx, hb, hml, hown, hts⟩ (cwV 1 hts gX1_firstPlaces_X1_startsIn rfl rfl rfl (by decide +kernel) ⟨Nat.le_of_ble_eq_true rfl, Nat.le_of_ble_eq_true rfl⟩) (xRecv_X1 hI) hI hS hl.1 rfl rfl (Nat.le_of_ble_eq_true rfl) dX1_firstPlaces_2 (fun r1 σ2 H locs hw hI hS => ?_)
  obtain ⟨hw, hq⟩ := hw
  rw [hq] at hI
  refine lv_if_ne (tgt := 10) hx hb dX1_firstPlaces_5 (by decide) (fun hc => ?_) (fun hc => ?_)
  · have hw := hw.1 hc
    refine lv_iconst (v := 0) hx hb dX1_firstPlaces_10 (by decide) ?_
    refine lv_istore_n (lv' := [(2, .int 0), (0, .ref (g.2.1 2)), (1, .int x1)]) hx hb dX1_firstPlaces_11 rfl hl (by decide) rfl (fun ls hl => ?_)
    refine lv_iconst (v := 0) hx hb dX1_firstPlaces_12 (by decide) ?_
    refine lv_istore_n (lv' := [(3, .int 0), (2, .int 0), (0, .ref (g.2.1 2)), (1, .int x1)]) hx hb dX1_firstPlaces_13 rfl hl (by decide) rfl (fun ls hl => ?_)
    obtain ⟨n14, hw⟩ := hw
    have key14 : ∀ (n : Nat) (x1 : Int32) (x2 : Int32) (x3 : Int32) (H : Heap) (locs : List Loc) (ls : Array Slot), xIn g σ H s → va_S (xA g) s.heap H locs → lv_has ls 4 [(0, .ref (g.2.1 2)), (1, .int x1), (2, .int x2), (3, .int x3)] → wloop (wx_X1_firstPlaces_L14 Q x1 σ) n (x2, x3) → W p l e ({ frames := 3, cells := 0, slots := 0, locals := 69 } : Room) s m args below meth c H locs 0 0 QQ (F0 m 14 ls []) := by
      intro n
      induction n with
      | zero => intro x1 x2 x3  H locs ls hI hS hl hw; exact False.elim hw
      | succ n ih =>
        intro x1 x2 x3  H locs ls hI hS hl hw
        obtain ⟨K14, hK14⟩ : ∃ K, K = wloop (wx_X1_firstPlaces_L14 Q x1 σ) n := ⟨_, rfl⟩
        have hw : wx_X1_firstPlaces_L14 Q x1 σ K14 (x2, x3) := by rw [hK14]; exact hw
        dsimp only [wx_X1_firstPlaces_L14] at hw
        have ih14 := ih
        refine lv_iload_n hx hb dX1_firstPlaces_14 rfl (lv_at hl 3 rfl) ?_
        refine lv_bipush (v := 20) hx hb dX1_firstPlaces_15 (by decide) ?_
        refine lv_icmp_ge (tgt := 49) hx hb dX1_firstPlaces_17 (by decide) (fun hc => ?_) (fun hc => ?_)
        · have hw := hw.1 hc
          refine lv_iload_n hx hb dX1_firstPlaces_49 rfl (lv_at hl 2 rfl) ?_
          exact hret _ _ _ _ _ _ dX1_firstPlaces_50 ⟨hw, rfl⟩ hI hS
        have hw := hw.2 hc
        refine lv_iload_n hx hb dX1_firstPlaces_20 rfl (lv_at hl 1 rfl) ?_
        refine lv_iload_n hx hb dX1_firstPlaces_21 rfl (lv_at hl 3 rfl) ?_
        refine gSi (cx_X1_holds l g (σ := σ) hw) (xMv g) ⟨hx, hb, hml, hown, hts⟩ (va_cwS 2 hts gX1_firstPlaces_X1_holds rfl rfl rfl (by decide +kernel) ⟨Nat.le_of_ble_eq_true rfl, Nat.le_of_ble_eq_true rfl⟩) hI hS hl.1 rfl rfl (Nat.le_of_ble_eq_true rfl) dX1_firstPlaces_22 (fun r1 σ2 H locs hw hI hS => ?_)
        obtain ⟨hw, hq⟩ := hw
        rw [hq] at hI
        refine lv_if_eq (tgt := 43) hx hb dX1_firstPlaces_25 (by decide) (fun hc => ?_) (fun hc => ?_)
        · have hw := hw.1 hc
          obtain ⟨a3, ea3⟩ : ∃ y : Int32, y = x3 + 1 := ⟨_, rfl⟩
          have hw := hw a3 ea3
          refine lv_iinc (v := a3) (lv' := [(3, .int a3), (0, .ref (g.2.1 2)), (1, .int x1), (2, .int x2)]) hx hb dX1_firstPlaces_43 hl (k := 3) rfl (by rw [ea3]; rfl) (by decide) rfl (fun ls hl => ?_)
          refine lv_goto (tgt := 14) hx hb dX1_firstPlaces_46 (by decide) ?_
          rw [hK14] at hw
          exact ih14 _ _ _ _ _ _ hI hS (lv_sub hl [1, 2, 3, 0] rfl) hw
        have hw := hw.2 hc
        refine lv_aload_n hx hb dX1_firstPlaces_28 rfl (lv_at hl 0 rfl) ?_
        refine lv_iload_n hx hb dX1_firstPlaces_29 rfl (lv_at hl 3 rfl) ?_
        refine lv_iload_n hx hb dX1_firstPlaces_30 rfl (lv_at hl 1 rfl) ?_
        refine gVi (cx_X1_missingLeftOf l g (σ := σ) hw) (xMv g) ⟨hx, hb, hml, hown, hts⟩ (cwV 2 hts gX1_firstPlaces_X1_missingLeftOf rfl rfl rfl (by decide +kernel) ⟨Nat.le_of_ble_eq_true rfl, Nat.le_of_ble_eq_true rfl⟩) (xRecv_X1 hI) hI hS hl.1 rfl rfl (Nat.le_of_ble_eq_true rfl) dX1_firstPlaces_31 (fun r4 σ5 H locs hw hI hS => ?_)
        obtain ⟨hw, hq⟩ := hw
        rw [hq] at hI
        refine lv_if_le (tgt := 43) hx hb dX1_firstPlaces_34 (by decide) (fun hc => ?_) (fun hc => ?_)
        · have hw := hw.1 hc
          obtain ⟨a6, ea6⟩ : ∃ y : Int32, y = x3 + 1 := ⟨_, rfl⟩
          have hw := hw a6 ea6
          refine lv_iinc (v := a6) (lv' := [(3, .int a6), (0, .ref (g.2.1 2)), (1, .int x1), (2, .int x2)]) hx hb dX1_firstPlaces_43 hl (k := 3) rfl (by rw [ea6]; rfl) (by decide) rfl (fun ls hl => ?_)
          refine lv_goto (tgt := 14) hx hb dX1_firstPlaces_46 (by decide) ?_
          rw [hK14] at hw
          exact ih14 _ _ _ _ _ _ hI hS (lv_sub hl [1, 2, 3, 0] rfl) hw
        have hw := hw.2 hc
        refine lv_iload_n hx hb dX1_firstPlaces_37 rfl (lv_at hl 2 rfl) ?_
        refine lv_iconst (v := 1) hx hb dX1_firstPlaces_38 (by decide) ?_
        refine lv_iload_n hx hb dX1_firstPlaces_39 rfl (lv_at hl 3 rfl) ?_
        refine lv_ishl hx hb dX1_firstPlaces_40 ?_
        refine lv_ior hx hb dX1_firstPlaces_41 ?_
        refine lv_topi (fun a7 ea7 => ?_)
        have hw := hw a7 ea7
        refine lv_istore_n (lv' := [(2, .int a7), (0, .ref (g.2.1 2)), (1, .int x1), (3, .int x3)]) hx hb dX1_firstPlaces_42 rfl hl (by decide) rfl (fun ls hl => ?_)
        obtain ⟨a8, ea8⟩ : ∃ y : Int32, y = x3 + 1 := ⟨_, rfl⟩
        have hw := hw a8 ea8
        refine lv_iinc (v := a8) (lv' := [(3, .int a8), (2, .int a7), (0, .ref (g.2.1 2)), (1, .int x1)]) hx hb dX1_firstPlaces_43 hl (k := 3) rfl (by rw [ea8]; rfl) (by decide) rfl (fun ls hl => ?_)
        refine lv_goto (tgt := 14) hx hb dX1_firstPlaces_46 (by decide) ?_
        rw [hK14] at hw
        exact ih14 _ _ _ _ _ _ hI hS (lv_sub hl [2, 3, 1, 0] rfl) hw
    exact key14 n14 _ _ _ _ _ _ hI hS (lv_sub hl [2, 3, 1, 0] rfl) hw
  have hw := hw.2 hc
  refine lv_iload_n hx hb dX1_firstPlaces_8 rfl (lv_at hl 1 rfl) ?_
  exact hret _ _ _ _ _ _ dX1_firstPlaces_9 ⟨hw, rfl⟩ hI hS
set_option maxRecDepth 100000 in
set_option maxHeartbeats 4000000 in
theorem cx_X1_goesOn (l : Launch) (g : wG) {σ : wS} {x1 : Int32} {x2 : Int32} {Q : Int32 → Prop} (hw : wx_X1_goesOn Q x1 x2 σ) : Met l yX1_goesOn wsX1_goesOn ({ frames := 2, cells := 0, slots := 0, locals := 46 } : Room) (va_Pc [.ref (g.2.1 2), .int x1, .int x2] (fun U => xIn g σ U.heap U)) (va_Qi (fun r σ1 => Q r ∧ σ1 = σ) (fun σ1 t => xIn g σ1 t.heap t) (xA g)) 0 0 (xA g) := by
  refine gOfZ (maxL := 3) (xMv g) (by decide) rfl (Nat.le_of_ble_eq_true rfl) ?_
  intro p e s m args below meth c QQ hx hb hml hown hts hret ls hl hI
  have hl : lv_has ls 3 [(0, .ref (g.2.1 2)), (1, .int x1), (2, .int x2)] := hl
  have hS : va_S (xA g) s.heap s.heap [] := va_S.rf
  have hF : ∀ w ∈ wsX10, w.before args s = true := fun w h => hts w (List.mem_cons_of_mem _ (List.mem_append_right _ h))
  refine lv_iload_n hx hb dX1_goesOn_0 rfl (lv_at hl 2 rfl) ?_
  refine lv_if_eq (tgt := 24) hx hb dX1_goesOn_1 (by decide) (fun hc => ?_) (fun hc => ?_)
  · have hw := hw.1 hc
    refine lv_iconst (v := 1) hx hb dX1_goesOn_24 (by decide) ?_
    refine lv_goto (tgt := 29) hx hb dX1_goesOn_25 (by decide) ?_
    exact hret _ _ _ _ _ _ dX1_goesOn_29 isB1 ⟨hw, rfl⟩ hI hS
  have hw := hw.2 hc
  refine lv_aload_n hx hb dX1_goesOn_4 rfl (lv_at hl 0 rfl) ?_
  refine xG_X1_rightOf hx hb hF hown hI (hts _ (List.mem_of_getElem? (i := 1) rfl : (Cond.fieldLink RX1 24 "PlateRoom$EdgeTable" "rightOf" "[I" : Cond) ∈ wsX1_goesOn)) dX1_goesOn_5 ?_
  refine lv_iload_n hx hb dX1_goesOn_8 rfl (lv_at hl 1 rfl) ?_
  have hin := hw.1
  have hw := hw.2
  refine xR_X1_rightOf hx hb hI hin dX1_goesOn_9 ?_
  refine lv_iload_n hx hb dX1_goesOn_10 rfl (lv_at hl 2 rfl) ?_
  refine lv_iand hx hb dX1_goesOn_11 ?_
  refine lv_if_eq (tgt := 28) hx hb dX1_goesOn_12 (by decide) (fun hc => ?_) (fun hc => ?_)
  · have hw := hw.1 hc
    refine lv_iconst (v := 0) hx hb dX1_goesOn_28 (by decide) ?_
    exact hret _ _ _ _ _ _ dX1_goesOn_29 isB0 ⟨hw, rfl⟩ hI hS
  have hw := hw.2 hc
  refine lv_aload_n hx hb dX1_goesOn_15 rfl (lv_at hl 0 rfl) ?_
  refine lv_iload_n hx hb dX1_goesOn_16 rfl (lv_at hl 2 rfl) ?_
  refine gVi (cx_X1_partOf l g (σ := σ) hw) (xMv g) ⟨hx, hb, hml, hown, hts⟩ (cwV 1 hts gX1_goesOn_X1_partOf rfl rfl rfl (by decide +kernel) ⟨Nat.le_of_ble_eq_true rfl, Nat.le_of_ble_eq_true rfl⟩) (xRecv_X1 hI) hI hS hl.1 rfl rfl (Nat.le_of_ble_eq_true rfl) dX1_goesOn_17 (fun r1 σ2 H locs hw hI hS => ?_)
  obtain ⟨hw, hq⟩ := hw
  rw [hq] at hI
  refine lv_iload_n hx hb dX1_goesOn_20 rfl (lv_at hl 2 rfl) ?_
  refine lv_icmp_ne (tgt := 28) hx hb dX1_goesOn_21 (by decide) (fun hc => ?_) (fun hc => ?_)
  · have hw := hw.1 hc
    refine lv_iconst (v := 0) hx hb dX1_goesOn_28 (by decide) ?_
    exact hret _ _ _ _ _ _ dX1_goesOn_29 isB0 ⟨hw, rfl⟩ hI hS
  have hw := hw.2 hc
  refine lv_iconst (v := 1) hx hb dX1_goesOn_24 (by decide) ?_
  refine lv_goto (tgt := 29) hx hb dX1_goesOn_25 (by decide) ?_
  exact hret _ _ _ _ _ _ dX1_goesOn_29 isB1 ⟨hw, rfl⟩ hI hS
set_option maxRecDepth 100000 in
set_option maxHeartbeats 4000000 in
theorem cx_X1_leastThatGoesOn (l : Launch) (g : wG) {σ : wS} {x1 : Int32} {x2 : Int32} {Q : Int32 → Prop} (hw : wx_X1_leastThatGoesOn Q x1 x2 σ) : Met l yX1_leastThatGoesOn wsX1_leastThatGoesOn ({ frames := 3, cells := 0, slots := 0, locals := 68 } : Room) (va_Pc [.ref (g.2.1 2), .int x1, .int x2] (fun U => xIn g σ U.heap U)) (va_Qi (fun r σ1 => Q r ∧ σ1 = σ) (fun σ1 t => xIn g σ1 t.heap t) (xA g)) 0 0 (xA g) := by
  refine gOfI (maxL := 4) (xMv g) (by decide) rfl (Nat.le_of_ble_eq_true rfl) ?_
  intro p e s m args below meth c QQ hx hb hml hown hts hret ls hl hI
  have hl : lv_has ls 4 [(0, .ref (g.2.1 2)), (1, .int x1), (2, .int x2)] := hl
  have hS : va_S (xA g) s.heap s.heap [] := va_S.rf
  refine lv_iconst (v := 0) hx hb dX1_leastThatGoesOn_0 (by decide) ?_
  refine lv_istore_n (lv' := [(3, .int 0), (0, .ref (g.2.1 2)), (1, .int x1), (2, .int x2)]) hx hb dX1_leastThatGoesOn_1 rfl hl (by decide) rfl (fun ls hl => ?_)
  obtain ⟨n2, hw⟩ := hw
  have key2 : ∀ (n : Nat) (x1 : Int32) (x2 : Int32) (x3 : Int32) (H : Heap) (locs : List Loc) (ls : Array Slot), xIn g σ H s → va_S (xA g) s.heap H locs → lv_has ls 4 [(0, .ref (g.2.1 2)), (1, .int x1), (2, .int x2), (3, .int x3)] → wloop (wx_X1_leastThatGoesOn_L2 Q x1 x2 σ) n x3 → W p l e ({ frames := 3, cells := 0, slots := 0, locals := 68 } : Room) s m args below meth c H locs 0 0 QQ (F0 m 2 ls []) := by
    intro n
    induction n with
    | zero => intro x1 x2 x3  H locs ls hI hS hl hw; exact False.elim hw
    | succ n ih =>
      intro x1 x2 x3  H locs ls hI hS hl hw
      obtain ⟨K2, hK2⟩ : ∃ K, K = wloop (wx_X1_leastThatGoesOn_L2 Q x1 x2 σ) n := ⟨_, rfl⟩
      have hw : wx_X1_leastThatGoesOn_L2 Q x1 x2 σ K2 x3 := by rw [hK2]; exact hw
      dsimp only [wx_X1_leastThatGoesOn_L2] at hw
      have ih2 := ih
      refine lv_iload_n hx hb dX1_leastThatGoesOn_2 rfl (lv_at hl 3 rfl) ?_
      refine lv_bipush (v := 20) hx hb dX1_leastThatGoesOn_3 (by decide) ?_
      refine lv_icmp_ge (tgt := 39) hx hb dX1_leastThatGoesOn_5 (by decide) (fun hc => ?_) (fun hc => ?_)
      · have hw := hw.1 hc
        refine lv_iconst (v := (-1)) hx hb dX1_leastThatGoesOn_39 (by decide) ?_
        exact hret _ _ _ _ _ _ dX1_leastThatGoesOn_40 ⟨hw, rfl⟩ hI hS
      have hw := hw.2 hc
      refine lv_iload_n hx hb dX1_leastThatGoesOn_8 rfl (lv_at hl 1 rfl) ?_
      refine lv_iload_n hx hb dX1_leastThatGoesOn_9 rfl (lv_at hl 3 rfl) ?_
      refine gSi (cx_X1_holds l g (σ := σ) hw) (xMv g) ⟨hx, hb, hml, hown, hts⟩ (va_cwS 2 hts gX1_leastThatGoesOn_X1_holds rfl rfl rfl (by decide +kernel) ⟨Nat.le_of_ble_eq_true rfl, Nat.le_of_ble_eq_true rfl⟩) hI hS hl.1 rfl rfl (Nat.le_of_ble_eq_true rfl) dX1_leastThatGoesOn_10 (fun r1 σ2 H locs hw hI hS => ?_)
      obtain ⟨hw, hq⟩ := hw
      rw [hq] at hI
      refine lv_if_eq (tgt := 33) hx hb dX1_leastThatGoesOn_13 (by decide) (fun hc => ?_) (fun hc => ?_)
      · have hw := hw.1 hc
        obtain ⟨a3, ea3⟩ : ∃ y : Int32, y = x3 + 1 := ⟨_, rfl⟩
        have hw := hw a3 ea3
        refine lv_iinc (v := a3) (lv' := [(3, .int a3), (0, .ref (g.2.1 2)), (1, .int x1), (2, .int x2)]) hx hb dX1_leastThatGoesOn_33 hl (k := 3) rfl (by rw [ea3]; rfl) (by decide) rfl (fun ls hl => ?_)
        refine lv_goto (tgt := 2) hx hb dX1_leastThatGoesOn_36 (by decide) ?_
        rw [hK2] at hw
        exact ih2 _ _ _ _ _ _ hI hS (lv_sub hl [1, 2, 3, 0] rfl) hw
      have hw := hw.2 hc
      refine lv_aload_n hx hb dX1_leastThatGoesOn_16 rfl (lv_at hl 0 rfl) ?_
      refine lv_iload_n hx hb dX1_leastThatGoesOn_17 rfl (lv_at hl 3 rfl) ?_
      refine lv_iload_n hx hb dX1_leastThatGoesOn_18 rfl (lv_at hl 2 rfl) ?_
      refine lv_iconst (v := 1) hx hb dX1_leastThatGoesOn_19 (by decide) ?_
      refine lv_iload_n hx hb dX1_leastThatGoesOn_20 rfl (lv_at hl 3 rfl) ?_
      refine lv_ishl hx hb dX1_leastThatGoesOn_21 ?_
      refine lv_iconst (v := (-1)) hx hb dX1_leastThatGoesOn_22 (by decide) ?_
      refine lv_ixor hx hb dX1_leastThatGoesOn_23 ?_
      refine lv_iand hx hb dX1_leastThatGoesOn_24 ?_
      refine gVi (cx_X1_goesOn l g (σ := σ) hw) (xMv g) ⟨hx, hb, hml, hown, hts⟩ (cwV 2 hts gX1_leastThatGoesOn_X1_goesOn rfl rfl rfl (by decide +kernel) ⟨Nat.le_of_ble_eq_true rfl, Nat.le_of_ble_eq_true rfl⟩) (xRecv_X1 hI) hI hS hl.1 rfl rfl (Nat.le_of_ble_eq_true rfl) dX1_leastThatGoesOn_25 (fun r4 σ5 H locs hw hI hS => ?_)
      obtain ⟨hw, hq⟩ := hw
      rw [hq] at hI
      refine lv_if_eq (tgt := 33) hx hb dX1_leastThatGoesOn_28 (by decide) (fun hc => ?_) (fun hc => ?_)
      · have hw := hw.1 hc
        obtain ⟨a6, ea6⟩ : ∃ y : Int32, y = x3 + 1 := ⟨_, rfl⟩
        have hw := hw a6 ea6
        refine lv_iinc (v := a6) (lv' := [(3, .int a6), (0, .ref (g.2.1 2)), (1, .int x1), (2, .int x2)]) hx hb dX1_leastThatGoesOn_33 hl (k := 3) rfl (by rw [ea6]; rfl) (by decide) rfl (fun ls hl => ?_)
        refine lv_goto (tgt := 2) hx hb dX1_leastThatGoesOn_36 (by decide) ?_
        rw [hK2] at hw
        exact ih2 _ _ _ _ _ _ hI hS (lv_sub hl [1, 2, 3, 0] rfl) hw
      have hw := hw.2 hc
      refine lv_iload_n hx hb dX1_leastThatGoesOn_31 rfl (lv_at hl 3 rfl) ?_
      exact hret _ _ _ _ _ _ dX1_leastThatGoesOn_32 ⟨hw, rfl⟩ hI hS
  exact key2 n2 _ _ _ _ _ _ hI hS (lv_sub hl [1, 2, 3, 0] rfl) hw
set_option maxRecDepth 100000 in
set_option maxHeartbeats 4000000 in
theorem cx_X1_writeFirstRow_outRow (l : Launch) (g : wG) {σ : wS} {x1 : Int32} {Q : Int32 → wS → Prop} (hw : wx_X1_writeFirstRow_outRow Q x1 σ) : Met l yX1_writeFirstRow wsX1_writeFirstRow ({ frames := 4, cells := 0, slots := 0, locals := 92 } : Room) (va_Pc [.ref (g.2.1 2), .int x1, .ref (g.2.1 6)] (fun U => xIn g σ U.heap U)) (va_Qi Q (fun σ1 t => xIn g σ1 t.heap t) (xA g)) 0 0 (xA g) := by
  refine gOfI (maxL := 7) (xMv g) (by decide) rfl (Nat.le_of_ble_eq_true rfl) ?_
  intro p e s m args below meth c QQ hx hb hml hown hts hret ls hl hI
  have hl : lv_has ls 7 [(0, .ref (g.2.1 2)), (1, .int x1), (2, .ref (g.2.1 6))] := hl
  have hS : va_S (xA g) s.heap s.heap [] := va_S.rf
  have hF : ∀ w ∈ wsX10, w.before args s = true := fun w h => hts w (List.mem_cons_of_mem _ (List.mem_append_right _ h))
  refine lv_iload_n hx hb dX1_writeFirstRow_0 rfl (lv_at hl 1 rfl) ?_
  refine lv_istore_n (lv' := [(3, .int x1), (0, .ref (g.2.1 2)), (1, .int x1), (2, .ref (g.2.1 6))]) hx hb dX1_writeFirstRow_1 rfl hl (by decide) rfl (fun ls hl => ?_)
  refine lv_aload_n hx hb dX1_writeFirstRow_2 rfl (lv_at hl 1 rfl) ?_
  refine lv_iload_n hx hb dX1_writeFirstRow_3 rfl (lv_at hl 2 rfl) ?_
  refine gVi (cx_X1_firstPlaces l g (σ := σ) hw) (xMv g) ⟨hx, hb, hml, hown, hts⟩ (cwV 1 hts gX1_writeFirstRow_X1_firstPlaces rfl rfl rfl (by decide +kernel) ⟨Nat.le_of_ble_eq_true rfl, Nat.le_of_ble_eq_true rfl⟩) (xRecv_X1 hI) hI hS hl.1 rfl rfl (Nat.le_of_ble_eq_true rfl) dX1_writeFirstRow_4 (fun r1 σ2 H locs hw hI hS => ?_)
  obtain ⟨hw, hq⟩ := hw
  rw [hq] at hI
  refine lv_istore (lv' := [(4, .int r1), (3, .int x1), (0, .ref (g.2.1 2)), (1, .int x1), (2, .ref (g.2.1 6))]) hx hb dX1_writeFirstRow_7 hl (by decide) rfl (fun ls hl => ?_)
  refine lv_iconst (v := 0) hx hb dX1_writeFirstRow_9 (by decide) ?_
  refine lv_istore (lv' := [(5, .int 0), (4, .int r1), (3, .int x1), (0, .ref (g.2.1 2)), (1, .int x1), (2, .ref (g.2.1 6))]) hx hb dX1_writeFirstRow_10 hl (by decide) rfl (fun ls hl => ?_)
  obtain ⟨n12, hw⟩ := hw
  have key12 : ∀ (n : Nat) (x3 : Int32) (x4 : Int32) (x5 : Int32) (σ : wS) (H : Heap) (locs : List Loc) (ls : Array Slot), xIn g σ H s → va_S (xA g) s.heap H locs → lv_has ls 7 [(0, .ref (g.2.1 2)), (2, .ref (g.2.1 6)), (3, .int x3), (4, .int x4), (5, .int x5)] → wloop (wx_X1_writeFirstRow_outRow_L12 Q) n (x3, x4, x5, σ) → W p l e ({ frames := 4, cells := 0, slots := 0, locals := 92 } : Room) s m args below meth c H locs 0 0 QQ (F0 m 12 ls []) := by
    intro n
    induction n with
    | zero => intro x3 x4 x5 σ H locs ls hI hS hl hw; exact False.elim hw
    | succ n ih =>
      intro x3 x4 x5 σ H locs ls hI hS hl hw
      obtain ⟨K12, hK12⟩ : ∃ K, K = wloop (wx_X1_writeFirstRow_outRow_L12 Q) n := ⟨_, rfl⟩
      have hw : wx_X1_writeFirstRow_outRow_L12 Q K12 (x3, x4, x5, σ) := by rw [hK12]; exact hw
      dsimp only [wx_X1_writeFirstRow_outRow_L12] at hw
      have ih12 := ih
      refine lv_iload hx hb dX1_writeFirstRow_12 (lv_at hl 4 rfl) ?_
      refine lv_aload_n hx hb dX1_writeFirstRow_14 rfl (lv_at hl 1 rfl) ?_
      refine xN_X5_outRow hx hb hI dX1_writeFirstRow_15 ?_
      refine lv_icmp_ge (tgt := 73) hx hb dX1_writeFirstRow_16 (by decide) (fun hc => ?_) (fun hc => ?_)
      · have hw := hw.1 hc
        refine lv_iload hx hb dX1_writeFirstRow_73 (lv_at hl 4 rfl) ?_
        exact hret _ _ _ _ _ _ dX1_writeFirstRow_75 hw hI hS
      have hw := hw.2 hc
      refine lv_iload_n hx hb dX1_writeFirstRow_19 rfl (lv_at hl 2 rfl) ?_
      refine lv_if_eq (tgt := 73) hx hb dX1_writeFirstRow_20 (by decide) (fun hc => ?_) (fun hc => ?_)
      · have hw := hw.1 hc
        refine lv_iload hx hb dX1_writeFirstRow_73 (lv_at hl 4 rfl) ?_
        exact hret _ _ _ _ _ _ dX1_writeFirstRow_75 hw hI hS
      have hw := hw.2 hc
      refine lv_aload_n hx hb dX1_writeFirstRow_23 rfl (lv_at hl 0 rfl) ?_
      refine lv_iload hx hb dX1_writeFirstRow_24 (lv_at hl 3 rfl) ?_
      refine lv_iload_n hx hb dX1_writeFirstRow_26 rfl (lv_at hl 2 rfl) ?_
      refine lv_iand hx hb dX1_writeFirstRow_27 ?_
      refine lv_iload_n hx hb dX1_writeFirstRow_28 rfl (lv_at hl 2 rfl) ?_
      refine gVi (cx_X1_leastThatGoesOn l g (σ := σ) hw) (xMv g) ⟨hx, hb, hml, hown, hts⟩ (cwV 2 hts gX1_writeFirstRow_X1_leastThatGoesOn rfl rfl rfl (by decide +kernel) ⟨Nat.le_of_ble_eq_true rfl, Nat.le_of_ble_eq_true rfl⟩) (xRecv_X1 hI) hI hS hl.1 rfl rfl (Nat.le_of_ble_eq_true rfl) dX1_writeFirstRow_29 (fun r1 σ2 H locs hw hI hS => ?_)
      obtain ⟨hw, hq⟩ := hw
      rw [hq] at hI
      refine lv_istore (lv' := [(6, .int r1), (0, .ref (g.2.1 2)), (2, .ref (g.2.1 6)), (3, .int x3), (4, .int x4), (5, .int x5)]) hx hb dX1_writeFirstRow_32 hl (by decide) rfl (fun ls hl => ?_)
      refine lv_iload hx hb dX1_writeFirstRow_34 (lv_at hl 0 rfl) ?_
      refine lv_iconst (v := (-1)) hx hb dX1_writeFirstRow_36 (by decide) ?_
      refine lv_icmp_ne (tgt := 43) hx hb dX1_writeFirstRow_37 (by decide) (fun hc => ?_) (fun hc => ?_)
      · have hw := hw.1 hc
        refine lv_aload_n hx hb dX1_writeFirstRow_43 rfl (lv_at hl 2 rfl) ?_
        refine lv_iload hx hb dX1_writeFirstRow_44 (lv_at hl 5 rfl) ?_
        refine lv_iload hx hb dX1_writeFirstRow_46 (lv_at hl 0 rfl) ?_
        have hin := hw.1
        have hw := hw.2
        refine xS_X5_outRow hx hb hI hS hin dX1_writeFirstRow_48 (fun σ3 eσ3 H locs hI hS => ?_)
        have hw := hw σ3 eσ3
        obtain ⟨a4, ea4⟩ : ∃ y : Int32, y = x5 + 1 := ⟨_, rfl⟩
        have hw := hw a4 ea4
        refine lv_iinc (v := a4) (lv' := [(5, .int a4), (6, .int r1), (0, .ref (g.2.1 2)), (2, .ref (g.2.1 6)), (3, .int x3), (4, .int x4)]) hx hb dX1_writeFirstRow_49 hl (k := 5) rfl (by rw [ea4]; rfl) (by decide) rfl (fun ls hl => ?_)
        refine lv_iload_n hx hb dX1_writeFirstRow_52 rfl (lv_at hl 4 rfl) ?_
        refine lv_iconst (v := 1) hx hb dX1_writeFirstRow_53 (by decide) ?_
        refine lv_iload hx hb dX1_writeFirstRow_54 (lv_at hl 1 rfl) ?_
        refine lv_ishl hx hb dX1_writeFirstRow_56 ?_
        refine lv_iconst (v := (-1)) hx hb dX1_writeFirstRow_57 (by decide) ?_
        refine lv_ixor hx hb dX1_writeFirstRow_58 ?_
        refine lv_iand hx hb dX1_writeFirstRow_59 ?_
        refine lv_topi (fun a5 ea5 => ?_)
        have hw := hw a5 ea5
        refine lv_istore_n (lv' := [(3, .int a5), (5, .int a4), (6, .int r1), (0, .ref (g.2.1 2)), (2, .ref (g.2.1 6)), (4, .int x4)]) hx hb dX1_writeFirstRow_60 rfl hl (by decide) rfl (fun ls hl => ?_)
        refine lv_aload_n hx hb dX1_writeFirstRow_61 rfl (lv_at hl 3 rfl) ?_
        refine xG_X1_rightOf hx hb hF hown hI (hts _ (List.mem_of_getElem? (i := 1) rfl : (Cond.fieldLink RX1 24 "PlateRoom$EdgeTable" "rightOf" "[I" : Cond) ∈ wsX1_writeFirstRow)) dX1_writeFirstRow_62 ?_
        refine lv_iload hx hb dX1_writeFirstRow_65 (lv_at hl 2 rfl) ?_
        have hin := hw.1
        have hw := hw.2
        refine xR_X1_rightOf hx hb hI hin dX1_writeFirstRow_67 ?_
        refine lv_topi (fun a6 ea6 => ?_)
        have hw := hw a6 ea6
        refine lv_istore (lv' := [(4, .int a6), (3, .int a5), (5, .int a4), (6, .int r1), (0, .ref (g.2.1 2)), (2, .ref (g.2.1 6))]) hx hb dX1_writeFirstRow_68 hl (by decide) rfl (fun ls hl => ?_)
        refine lv_goto (tgt := 12) hx hb dX1_writeFirstRow_70 (by decide) ?_
        rw [hK12] at hw
        exact ih12 _ _ _ _ _ _ _ hI hS (lv_sub hl [4, 5, 1, 0, 2] rfl) hw
      have hw := hw.2 hc
      refine lv_iload hx hb dX1_writeFirstRow_40 (lv_at hl 5 rfl) ?_
      exact hret _ _ _ _ _ _ dX1_writeFirstRow_42 hw hI hS
  exact key12 n12 _ _ _ _ _ _ _ hI hS (lv_sub hl [3, 5, 2, 1, 0] rfl) hw
set_option maxRecDepth 100000 in
set_option maxHeartbeats 4000000 in
theorem cx_X5_row (l : Launch) (g : wG) {σ : wS} {x1 : Int32} {Q : Int32 → wS → Prop} (hw : wx_X5_row Q x1 σ) : Met l yX5_row wsX5_row ({ frames := 5, cells := 0, slots := 0, locals := 118 } : Room) (va_Pc [.ref (g.2.1 0), .int x1] (fun U => xIn g σ U.heap U)) (va_Qi Q (fun σ1 t => xIn g σ1 t.heap t) (xA g)) 0 0 (xA g) := by
  refine gOfI (maxL := 3) (xMv g) (by decide) rfl (Nat.le_of_ble_eq_true rfl) ?_
  intro p e s m args below meth c QQ hx hb hml hown hts hret ls hl hI
  have hl : lv_has ls 3 [(0, .ref (g.2.1 0)), (1, .int x1)] := hl
  have hS : va_S (xA g) s.heap s.heap [] := va_S.rf
  have hF : ∀ w ∈ wsX50, w.before args s = true := fun w h => hts w (List.mem_cons_of_mem _ (List.mem_append_left _ (List.mem_append_right _ h)))
  refine lv_aload_n hx hb dX5_row_0 rfl (lv_at hl 0 rfl) ?_
  refine lv_iload_n hx hb dX5_row_1 rfl (lv_at hl 1 rfl) ?_
  refine gVi (cx_X5_whyNoRow l g (σ := σ) hw) (xMv g) ⟨hx, hb, hml, hown, hts⟩ (cwV 1 hts gX5_row_X5_whyNoRow rfl rfl rfl (by decide +kernel) ⟨Nat.le_of_ble_eq_true rfl, Nat.le_of_ble_eq_true rfl⟩) (xRecv_X5 hI) hI hS hl.1 rfl rfl (Nat.le_of_ble_eq_true rfl) dX5_row_2 (fun r1 σ2 H locs hw hI hS => ?_)
  obtain ⟨hw, hq⟩ := hw
  rw [hq] at hI
  refine lv_istore_n (lv' := [(2, .int r1), (0, .ref (g.2.1 0)), (1, .int x1)]) hx hb dX5_row_5 rfl hl (by decide) rfl (fun ls hl => ?_)
  refine lv_iload_n hx hb dX5_row_6 rfl (lv_at hl 0 rfl) ?_
  refine lv_if_eq (tgt := 16) hx hb dX5_row_7 (by decide) (fun hc => ?_) (fun hc => ?_)
  · have hw := hw.1 hc
    refine lv_aload_n hx hb dX5_row_16 rfl (lv_at hl 1 rfl) ?_
    refine lv_aload_n hx hb dX5_row_17 rfl (lv_at hl 1 rfl) ?_
    refine xG_X5_table hx hb hF hown hI (hts _ (List.mem_of_getElem? (i := 1) rfl : (Cond.fieldLink RX5 26 "PlateRoom" "table" "LPlateRoom$EdgeTable;" : Cond) ∈ wsX5_row)) dX5_row_18 ?_
    refine lv_iload_n hx hb dX5_row_21 rfl (lv_at hl 2 rfl) ?_
    refine lv_aload_n hx hb dX5_row_22 rfl (lv_at hl 1 rfl) ?_
    refine xG_X5_outRow hx hb hF hown hI (hts _ (List.mem_of_getElem? (i := 2) rfl : (Cond.fieldLink RX5 44 "PlateRoom" "outRow" "[I" : Cond) ∈ wsX5_row)) dX5_row_23 ?_
    refine gVi (cx_X1_writeFirstRow_outRow l g (σ := σ) hw) (xMv g) ⟨hx, hb, hml, hown, hts⟩ (cwV 2 hts gX5_row_X1_writeFirstRow rfl rfl rfl (by decide +kernel) ⟨Nat.le_of_ble_eq_true rfl, Nat.le_of_ble_eq_true rfl⟩) (xRecv_X1 hI) hI hS hl.1 rfl rfl (Nat.le_of_ble_eq_true rfl) dX5_row_26 (fun r3 σ4 H locs hw hI hS => ?_)
    refine xP_X5_outLength hx hb hF hown hI hS (hts _ (List.mem_of_getElem? (i := 3) rfl : (Cond.fieldLink RX5 164 "PlateRoom" "outLength" "I" : Cond) ∈ wsX5_row)) dX5_row_29 (fun σ5 eσ5 H locs hI hS => ?_)
    have hw := hw σ5 eσ5
    refine lv_aload_n hx hb dX5_row_32 rfl (lv_at hl 1 rfl) ?_
    refine lv_aload_n hx hb dX5_row_33 rfl (lv_at hl 1 rfl) ?_
    refine xG_X5_outLength hx hb hF hown hI (hts _ (List.mem_of_getElem? (i := 3) rfl : (Cond.fieldLink RX5 164 "PlateRoom" "outLength" "I" : Cond) ∈ wsX5_row)) dX5_row_34 ?_
    refine gVi (cx_X5_answer l g (σ := σ5) hw) (xMv g) ⟨hx, hb, hml, hown, hts⟩ (cwV 1 hts gX5_row_X5_answer rfl rfl rfl (by decide +kernel) ⟨Nat.le_of_ble_eq_true rfl, Nat.le_of_ble_eq_true rfl⟩) (xRecv_X5 hI) hI hS hl.1 rfl rfl (Nat.le_of_ble_eq_true rfl) dX5_row_37 (fun r6 σ7 H locs hw hI hS => ?_)
    exact hret _ _ _ _ _ _ dX5_row_40 hw hI hS
  have hw := hw.2 hc
  refine lv_aload_n hx hb dX5_row_10 rfl (lv_at hl 1 rfl) ?_
  refine lv_iload_n hx hb dX5_row_11 rfl (lv_at hl 0 rfl) ?_
  refine gVi (cx_X5_refuse l g (σ := σ) hw) (xMv g) ⟨hx, hb, hml, hown, hts⟩ (cwV 1 hts gX5_row_X5_refuse rfl rfl rfl (by decide +kernel) ⟨Nat.le_of_ble_eq_true rfl, Nat.le_of_ble_eq_true rfl⟩) (xRecv_X5 hI) hI hS hl.1 rfl rfl (Nat.le_of_ble_eq_true rfl) dX5_row_12 (fun r8 σ9 H locs hw hI hS => ?_)
  exact hret _ _ _ _ _ _ dX5_row_15 hw hI hS
set_option maxRecDepth 100000 in
set_option maxHeartbeats 4000000 in
theorem cx_X5_ring (l : Launch) (g : wG) {σ : wS} {x1 : Int32} {Q : Int32 → wS → Prop} (hw : wx_X5_ring Q x1 σ) : Met l yX5_ring wsX5_ring ({ frames := 5, cells := 0, slots := 0, locals := 115 } : Room) (va_Pc [.ref (g.2.1 0), .int x1] (fun U => xIn g σ U.heap U)) (va_Qi Q (fun σ1 t => xIn g σ1 t.heap t) (xA g)) 0 0 (xA g) := by
  refine gOfI (maxL := 3) (xMv g) (by decide) rfl (Nat.le_of_ble_eq_true rfl) ?_
  intro p e s m args below meth c QQ hx hb hml hown hts hret ls hl hI
  have hl : lv_has ls 3 [(0, .ref (g.2.1 0)), (1, .int x1)] := hl
  have hS : va_S (xA g) s.heap s.heap [] := va_S.rf
  have hF : ∀ w ∈ wsX50, w.before args s = true := fun w h => hts w (List.mem_cons_of_mem _ (List.mem_append_left _ (List.mem_append_right _ h)))
  refine lv_aload_n hx hb dX5_ring_0 rfl (lv_at hl 0 rfl) ?_
  refine lv_iload_n hx hb dX5_ring_1 rfl (lv_at hl 1 rfl) ?_
  refine gVi (cx_X5_whyNoRow l g (σ := σ) hw) (xMv g) ⟨hx, hb, hml, hown, hts⟩ (cwV 1 hts gX5_ring_X5_whyNoRow rfl rfl rfl (by decide +kernel) ⟨Nat.le_of_ble_eq_true rfl, Nat.le_of_ble_eq_true rfl⟩) (xRecv_X5 hI) hI hS hl.1 rfl rfl (Nat.le_of_ble_eq_true rfl) dX5_ring_2 (fun r1 σ2 H locs hw hI hS => ?_)
  obtain ⟨hw, hq⟩ := hw
  rw [hq] at hI
  refine lv_istore_n (lv' := [(2, .int r1), (0, .ref (g.2.1 0)), (1, .int x1)]) hx hb dX5_ring_5 rfl hl (by decide) rfl (fun ls hl => ?_)
  refine lv_iload_n hx hb dX5_ring_6 rfl (lv_at hl 0 rfl) ?_
  refine lv_if_eq (tgt := 16) hx hb dX5_ring_7 (by decide) (fun hc => ?_) (fun hc => ?_)
  · have hw := hw.1 hc
    refine lv_aload_n hx hb dX5_ring_16 rfl (lv_at hl 1 rfl) ?_
    refine lv_aload_n hx hb dX5_ring_17 rfl (lv_at hl 1 rfl) ?_
    refine xG_X5_table hx hb hF hown hI (hts _ (List.mem_of_getElem? (i := 1) rfl : (Cond.fieldLink RX5 26 "PlateRoom" "table" "LPlateRoom$EdgeTable;" : Cond) ∈ wsX5_ring)) dX5_ring_18 ?_
    refine lv_iload_n hx hb dX5_ring_21 rfl (lv_at hl 2 rfl) ?_
    refine gVi (cx_X1_startsIn l g (σ := σ) hw) (xMv g) ⟨hx, hb, hml, hown, hts⟩ (cwV 1 hts gX5_ring_X1_startsIn rfl rfl rfl (by decide +kernel) ⟨Nat.le_of_ble_eq_true rfl, Nat.le_of_ble_eq_true rfl⟩) (xRecv_X1 hI) hI hS hl.1 rfl rfl (Nat.le_of_ble_eq_true rfl) dX5_ring_22 (fun r3 σ4 H locs hw hI hS => ?_)
    obtain ⟨hw, hq⟩ := hw
    rw [hq] at hI
    refine lv_if_ne (tgt := 32) hx hb dX5_ring_25 (by decide) (fun hc => ?_) (fun hc => ?_)
    · have hw := hw.1 hc
      refine lv_iconst (v := 0) hx hb dX5_ring_32 (by decide) ?_
      refine gVi (cx_X5_answer l g (σ := σ) hw) (xMv g) ⟨hx, hb, hml, hown, hts⟩ (cwV 1 hts gX5_ring_X5_answer rfl rfl rfl (by decide +kernel) ⟨Nat.le_of_ble_eq_true rfl, Nat.le_of_ble_eq_true rfl⟩) (xRecv_X5 hI) hI hS hl.1 rfl rfl (Nat.le_of_ble_eq_true rfl) dX5_ring_33 (fun r5 σ6 H locs hw hI hS => ?_)
      exact hret _ _ _ _ _ _ dX5_ring_36 hw hI hS
    have hw := hw.2 hc
    refine lv_iconst (v := 1) hx hb dX5_ring_28 (by decide) ?_
    refine lv_goto (tgt := 33) hx hb dX5_ring_29 (by decide) ?_
    refine gVi (cx_X5_answer l g (σ := σ) hw) (xMv g) ⟨hx, hb, hml, hown, hts⟩ (cwV 1 hts gX5_ring_X5_answer rfl rfl rfl (by decide +kernel) ⟨Nat.le_of_ble_eq_true rfl, Nat.le_of_ble_eq_true rfl⟩) (xRecv_X5 hI) hI hS hl.1 rfl rfl (Nat.le_of_ble_eq_true rfl) dX5_ring_33 (fun r7 σ8 H locs hw hI hS => ?_)
    exact hret _ _ _ _ _ _ dX5_ring_36 hw hI hS
  have hw := hw.2 hc
  refine lv_aload_n hx hb dX5_ring_10 rfl (lv_at hl 1 rfl) ?_
  refine lv_iload_n hx hb dX5_ring_11 rfl (lv_at hl 0 rfl) ?_
  refine gVi (cx_X5_refuse l g (σ := σ) hw) (xMv g) ⟨hx, hb, hml, hown, hts⟩ (cwV 1 hts gX5_ring_X5_refuse rfl rfl rfl (by decide +kernel) ⟨Nat.le_of_ble_eq_true rfl, Nat.le_of_ble_eq_true rfl⟩) (xRecv_X5 hI) hI hS hl.1 rfl rfl (Nat.le_of_ble_eq_true rfl) dX5_ring_12 (fun r9 σ10 H locs hw hI hS => ?_)
  exact hret _ _ _ _ _ _ dX5_ring_15 hw hI hS
set_option maxRecDepth 100000 in
set_option maxHeartbeats 4000000 in
theorem cx_X5_rows (l : Launch) (g : wG) {σ : wS} {x1 : Int32} {Q : Int32 → wS → Prop} (hw : wx_X5_rows Q x1 σ) : Met l yX5_rows wsX5_rows ({ frames := 4, cells := 0, slots := 0, locals := 94 } : Room) (va_Pc [.ref (g.2.1 0), .int x1] (fun U => xIn g σ U.heap U)) (va_Qi Q (fun σ1 t => xIn g σ1 t.heap t) (xA g)) 0 0 (xA g) := by
  refine gOfI (maxL := 2) (xMv g) (by decide) rfl (Nat.le_of_ble_eq_true rfl) ?_
  intro p e s m args below meth c QQ hx hb hml hown hts hret ls hl hI
  have hl : lv_has ls 2 [(0, .ref (g.2.1 0)), (1, .int x1)] := hl
  have hS : va_S (xA g) s.heap s.heap [] := va_S.rf
  have hF : ∀ w ∈ wsX50, w.before args s = true := fun w h => hts w (List.mem_cons_of_mem _ (List.mem_append_left _ (List.mem_append_right _ h)))
  refine lv_aload_n hx hb dX5_rows_0 rfl (lv_at hl 0 rfl) ?_
  refine lv_iload_n hx hb dX5_rows_1 rfl (lv_at hl 1 rfl) ?_
  refine gVi (cx_X5_isSet l g (σ := σ) hw) (xMv g) ⟨hx, hb, hml, hown, hts⟩ (cwV 1 hts gX5_rows_X5_isSet rfl rfl rfl (by decide +kernel) ⟨Nat.le_of_ble_eq_true rfl, Nat.le_of_ble_eq_true rfl⟩) (xRecv_X5 hI) hI hS hl.1 rfl rfl (Nat.le_of_ble_eq_true rfl) dX5_rows_2 (fun r1 σ2 H locs hw hI hS => ?_)
  obtain ⟨hw, hq⟩ := hw
  rw [hq] at hI
  refine lv_if_ne (tgt := 14) hx hb dX5_rows_5 (by decide) (fun hc => ?_) (fun hc => ?_)
  · have hw := hw.1 hc
    refine lv_aload_n hx hb dX5_rows_14 rfl (lv_at hl 0 rfl) ?_
    refine lv_aload_n hx hb dX5_rows_15 rfl (lv_at hl 0 rfl) ?_
    refine xG_X5_table hx hb hF hown hI (hts _ (List.mem_of_getElem? (i := 1) rfl : (Cond.fieldLink RX5 26 "PlateRoom" "table" "LPlateRoom$EdgeTable;" : Cond) ∈ wsX5_rows)) dX5_rows_16 ?_
    refine lv_iload_n hx hb dX5_rows_19 rfl (lv_at hl 1 rfl) ?_
    refine gVi (cx_X1_fewestRows l g (σ := σ) hw) (xMv g) ⟨hx, hb, hml, hown, hts⟩ (cwV 1 hts gX5_rows_X1_fewestRows rfl rfl rfl (by decide +kernel) ⟨Nat.le_of_ble_eq_true rfl, Nat.le_of_ble_eq_true rfl⟩) (xRecv_X1 hI) hI hS hl.1 rfl rfl (Nat.le_of_ble_eq_true rfl) dX5_rows_20 (fun r3 σ4 H locs hw hI hS => ?_)
    obtain ⟨hw, hq⟩ := hw
    rw [hq] at hI
    refine gVi (cx_X5_answer l g (σ := σ) hw) (xMv g) ⟨hx, hb, hml, hown, hts⟩ (cwV 1 hts gX5_rows_X5_answer rfl rfl rfl (by decide +kernel) ⟨Nat.le_of_ble_eq_true rfl, Nat.le_of_ble_eq_true rfl⟩) (xRecv_X5 hI) hI hS hl.1 rfl rfl (Nat.le_of_ble_eq_true rfl) dX5_rows_23 (fun r5 σ6 H locs hw hI hS => ?_)
    exact hret _ _ _ _ _ _ dX5_rows_26 hw hI hS
  have hw := hw.2 hc
  refine lv_aload_n hx hb dX5_rows_8 rfl (lv_at hl 0 rfl) ?_
  refine lv_iconst (v := 2) hx hb dX5_rows_9 (by decide) ?_
  refine gVi (cx_X5_refuse l g (σ := σ) hw) (xMv g) ⟨hx, hb, hml, hown, hts⟩ (cwV 1 hts gX5_rows_X5_refuse rfl rfl rfl (by decide +kernel) ⟨Nat.le_of_ble_eq_true rfl, Nat.le_of_ble_eq_true rfl⟩) (xRecv_X5 hI) hI hS hl.1 rfl rfl (Nat.le_of_ble_eq_true rfl) dX5_rows_10 (fun r7 σ8 H locs hw hI hS => ?_)
  exact hret _ _ _ _ _ _ dX5_rows_13 hw hI hS
set_option maxRecDepth 100000 in
set_option maxHeartbeats 4000000 in
theorem cx_X5_out (l : Launch) (g : wG) {σ : wS} {x1 : Int32} {Q : Int32 → Prop} (hw : wx_X5_out Q x1 σ) : Met l yX5_out wsX5_out ({ frames := 0, cells := 0, slots := 0, locals := 0 } : Room) (va_Pc [.ref (g.2.1 0), .int x1] (fun U => xIn g σ U.heap U)) (va_Qi (fun r σ1 => Q r ∧ σ1 = σ) (fun σ1 t => xIn g σ1 t.heap t) (xA g)) 0 0 (xA g) := by
  refine gOfI (maxL := 2) (xMv g) (by decide) rfl (Nat.le_of_ble_eq_true rfl) ?_
  intro p e s m args below meth c QQ hx hb hml hown hts hret ls hl hI
  have hl : lv_has ls 2 [(0, .ref (g.2.1 0)), (1, .int x1)] := hl
  have hS : va_S (xA g) s.heap s.heap [] := va_S.rf
  have hF : ∀ w ∈ wsX50, w.before args s = true := fun w h => hts w (List.mem_cons_of_mem _ (List.mem_append_right _ h))
  refine lv_iload_n hx hb dX5_out_0 rfl (lv_at hl 1 rfl) ?_
  refine lv_if_lt (tgt := 21) hx hb dX5_out_1 (by decide) (fun hc => ?_) (fun hc => ?_)
  · have hw := hw.1 hc
    refine lv_iconst (v := (-1)) hx hb dX5_out_21 (by decide) ?_
    exact hret _ _ _ _ _ _ dX5_out_22 ⟨hw, rfl⟩ hI hS
  have hw := hw.2 hc
  refine lv_iload_n hx hb dX5_out_4 rfl (lv_at hl 1 rfl) ?_
  refine lv_aload_n hx hb dX5_out_5 rfl (lv_at hl 0 rfl) ?_
  refine xG_X5_outLength hx hb hF hown hI (hts _ (List.mem_of_getElem? (i := 1) rfl : (Cond.fieldLink RX5 164 "PlateRoom" "outLength" "I" : Cond) ∈ wsX5_out)) dX5_out_6 ?_
  refine lv_icmp_ge (tgt := 21) hx hb dX5_out_9 (by decide) (fun hc => ?_) (fun hc => ?_)
  · have hw := hw.1 hc
    refine lv_iconst (v := (-1)) hx hb dX5_out_21 (by decide) ?_
    exact hret _ _ _ _ _ _ dX5_out_22 ⟨hw, rfl⟩ hI hS
  have hw := hw.2 hc
  refine lv_iload_n hx hb dX5_out_12 rfl (lv_at hl 1 rfl) ?_
  refine lv_aload_n hx hb dX5_out_13 rfl (lv_at hl 0 rfl) ?_
  refine xG_X5_outRow hx hb hF hown hI (hts _ (List.mem_of_getElem? (i := 2) rfl : (Cond.fieldLink RX5 44 "PlateRoom" "outRow" "[I" : Cond) ∈ wsX5_out)) dX5_out_14 ?_
  refine xN_X5_outRow hx hb hI dX5_out_17 ?_
  refine lv_icmp_lt (tgt := 23) hx hb dX5_out_18 (by decide) (fun hc => ?_) (fun hc => ?_)
  · have hw := hw.1 hc
    refine lv_aload_n hx hb dX5_out_23 rfl (lv_at hl 0 rfl) ?_
    refine xG_X5_outRow hx hb hF hown hI (hts _ (List.mem_of_getElem? (i := 2) rfl : (Cond.fieldLink RX5 44 "PlateRoom" "outRow" "[I" : Cond) ∈ wsX5_out)) dX5_out_24 ?_
    refine lv_iload_n hx hb dX5_out_27 rfl (lv_at hl 1 rfl) ?_
    have hin := hw.1
    have hw := hw.2
    refine xR_X5_outRow hx hb hI hin dX5_out_28 ?_
    exact hret _ _ _ _ _ _ dX5_out_29 ⟨hw, rfl⟩ hI hS
  have hw := hw.2 hc
  refine lv_iconst (v := (-1)) hx hb dX5_out_21 (by decide) ?_
  exact hret _ _ _ _ _ _ dX5_out_22 ⟨hw, rfl⟩ hI hS
set_option maxRecDepth 100000 in
set_option maxHeartbeats 4000000 in
theorem cx_X0_setWish (l : Launch) (g : wG) {σ : wS} {x1 : Int32} {x2 : Int32} {x3 : Int32} {x4 : Int32} {Q : wS → Prop} (hw : wx_X0_setWish Q x1 x2 x3 x4 σ) : Met l yX0_setWish wsX0_setWish ({ frames := 0, cells := 0, slots := 0, locals := 0 } : Room) (va_Pc [.ref (g.2.1 1), .int x1, .int x2, .int x3, .int x4] (fun U => xIn g σ U.heap U)) (va_Qv Q (fun σ1 t => xIn g σ1 t.heap t) (xA g)) 0 0 (xA g) := by
  refine gOfV (maxL := 5) (xMv g) (by decide) rfl (Nat.le_of_ble_eq_true rfl) ?_
  intro p e s m args below meth c QQ hx hb hml hown hts hret ls hl hI
  have hl : lv_has ls 5 [(0, .ref (g.2.1 1)), (1, .int x1), (2, .int x2), (3, .int x3), (4, .int x4)] := hl
  have hS : va_S (xA g) s.heap s.heap [] := va_S.rf
  have hF : ∀ w ∈ wsX00, w.before args s = true := fun w h => hts w (List.mem_cons_of_mem _ (List.mem_append_right _ h))
  refine lv_iload_n hx hb dX0_setWish_0 rfl (lv_at hl 1 rfl) ?_
  refine lv_if_lt (tgt := 10) hx hb dX0_setWish_1 (by decide) (fun hc => ?_) (fun hc => ?_)
  · have hw := hw.1 hc
    exact hret _ _ _ _ _ dX0_setWish_10 hw hI hS
  have hw := hw.2 hc
  refine lv_iload_n hx hb dX0_setWish_4 rfl (lv_at hl 1 rfl) ?_
  refine lv_bipush (v := 20) hx hb dX0_setWish_5 (by decide) ?_
  refine lv_icmp_lt (tgt := 11) hx hb dX0_setWish_7 (by decide) (fun hc => ?_) (fun hc => ?_)
  · have hw := hw.1 hc
    refine lv_aload_n hx hb dX0_setWish_11 rfl (lv_at hl 0 rfl) ?_
    refine xG_X0_wanted hx hb hF hown hI (hts _ (List.mem_of_getElem? (i := 1) rfl : (Cond.fieldLink RX0 9 "PlateRoom$CopyPlan" "wanted" "[I" : Cond) ∈ wsX0_setWish)) dX0_setWish_12 ?_
    refine lv_iload_n hx hb dX0_setWish_15 rfl (lv_at hl 1 rfl) ?_
    refine lv_iload_n hx hb dX0_setWish_16 rfl (lv_at hl 2 rfl) ?_
    have hin := hw.1
    have hw := hw.2
    refine xS_X0_wanted hx hb hI hS hin dX0_setWish_17 (fun σ1 eσ1 H locs hI hS => ?_)
    have hw := hw σ1 eσ1
    refine lv_aload_n hx hb dX0_setWish_18 rfl (lv_at hl 0 rfl) ?_
    refine xG_X0_hours hx hb hF hown hI (hts _ (List.mem_of_getElem? (i := 2) rfl : (Cond.fieldLink RX0 15 "PlateRoom$CopyPlan" "hours" "[I" : Cond) ∈ wsX0_setWish)) dX0_setWish_19 ?_
    refine lv_iload_n hx hb dX0_setWish_22 rfl (lv_at hl 1 rfl) ?_
    refine lv_iload_n hx hb dX0_setWish_23 rfl (lv_at hl 3 rfl) ?_
    have hin := hw.1
    have hw := hw.2
    refine xS_X0_hours hx hb hI hS hin dX0_setWish_24 (fun σ2 eσ2 H locs hI hS => ?_)
    have hw := hw σ2 eσ2
    refine lv_aload_n hx hb dX0_setWish_25 rfl (lv_at hl 0 rfl) ?_
    refine xG_X0_lost hx hb hF hown hI (hts _ (List.mem_of_getElem? (i := 3) rfl : (Cond.fieldLink RX0 18 "PlateRoom$CopyPlan" "lost" "[I" : Cond) ∈ wsX0_setWish)) dX0_setWish_26 ?_
    refine lv_iload_n hx hb dX0_setWish_29 rfl (lv_at hl 1 rfl) ?_
    refine lv_iload hx hb dX0_setWish_30 (lv_at hl 4 rfl) ?_
    have hin := hw.1
    have hw := hw.2
    refine xS_X0_lost hx hb hI hS hin dX0_setWish_32 (fun σ3 eσ3 H locs hI hS => ?_)
    have hw := hw σ3 eσ3
    exact hret _ _ _ _ _ dX0_setWish_33 hw hI hS
  have hw := hw.2 hc
  exact hret _ _ _ _ _ dX0_setWish_10 hw hI hS
set_option maxRecDepth 100000 in
set_option maxHeartbeats 4000000 in
theorem cx_X5_want (l : Launch) (g : wG) {σ : wS} {x1 : Int32} {x2 : Int32} {x3 : Int32} {x4 : Int32} {Q : Int32 → wS → Prop} (hw : wx_X5_want Q x1 x2 x3 x4 σ) : Met l yX5_want wsX5_want ({ frames := 1, cells := 0, slots := 0, locals := 24 } : Room) (va_Pc [.ref (g.2.1 0), .int x1, .int x2, .int x3, .int x4] (fun U => xIn g σ U.heap U)) (va_Qi Q (fun σ1 t => xIn g σ1 t.heap t) (xA g)) 0 0 (xA g) := by
  refine gOfZ (maxL := 6) (xMv g) (by decide) rfl (Nat.le_of_ble_eq_true rfl) ?_
  intro p e s m args below meth c QQ hx hb hml hown hts hret ls hl hI
  have hl : lv_has ls 6 [(0, .ref (g.2.1 0)), (1, .int x1), (2, .int x2), (3, .int x3), (4, .int x4)] := hl
  have hS : va_S (xA g) s.heap s.heap [] := va_S.rf
  have hF : ∀ w ∈ wsX50, w.before args s = true := fun w h => hts w (List.mem_cons_of_mem _ (List.mem_append_left _ (List.mem_append_right _ h)))
  have j37 : ∀ (x1 : Int32) (x2 : Int32) (x3 : Int32) (x4 : Int32) (s0 : Int32) (σ : wS) (H : Heap) (locs : List Loc) (ls : Array Slot), xIn g σ H s → va_S (xA g) s.heap H locs → lv_has ls 6 [(0, .ref (g.2.1 0)), (1, .int x1), (2, .int x2), (3, .int x3), (4, .int x4)] → wx_X5_want_J37 Q x1 x2 x3 x4 s0 σ → W p l e ({ frames := 1, cells := 0, slots := 0, locals := 24 } : Room) s m args below meth c H locs 0 0 QQ (F0 m 37 ls [.int s0]) := by
    intro x1 x2 x3 x4 s0 σ H locs ls hI hS hl hw
    refine lv_istore (lv' := [(5, .int s0), (0, .ref (g.2.1 0)), (1, .int x1), (2, .int x2), (3, .int x3), (4, .int x4)]) hx hb dX5_want_37 hl (by decide) rfl (fun ls hl => ?_)
    refine lv_aload_n hx hb dX5_want_39 rfl (lv_at hl 1 rfl) ?_
    refine lv_aload_n hx hb dX5_want_40 rfl (lv_at hl 1 rfl) ?_
    refine lv_iload_n hx hb dX5_want_41 rfl (lv_at hl 2 rfl) ?_
    refine gVi (cx_X5_isPlate l g (σ := σ) hw) (xMv g) ⟨hx, hb, hml, hown, hts⟩ (cwV 1 hts gX5_want_X5_isPlate rfl rfl rfl (by decide +kernel) ⟨Nat.le_of_ble_eq_true rfl, Nat.le_of_ble_eq_true rfl⟩) (xRecv_X5 hI) hI hS hl.1 rfl rfl (Nat.le_of_ble_eq_true rfl) dX5_want_42 (fun r1 σ2 H locs hw hI hS => ?_)
    obtain ⟨hw, hq⟩ := hw
    rw [hq] at hI
    refine lv_iload hx hb dX5_want_45 (lv_at hl 0 rfl) ?_
    refine gSi (cx_X5_whyNot l g (σ := σ) hw) (xMv g) ⟨hx, hb, hml, hown, hts⟩ (va_cwS 2 hts gX5_want_X5_whyNot rfl rfl rfl (by decide +kernel) ⟨Nat.le_of_ble_eq_true rfl, Nat.le_of_ble_eq_true rfl⟩) hI hS hl.1 rfl rfl (Nat.le_of_ble_eq_true rfl) dX5_want_47 (fun r3 σ4 H locs hw hI hS => ?_)
    obtain ⟨hw, hq⟩ := hw
    rw [hq] at hI
    refine xP_X5_lastStatus hx hb hF hown hI hS (hts _ (List.mem_of_getElem? (i := 1) rfl : (Cond.fieldLink RX5 48 "PlateRoom" "lastStatus" "I" : Cond) ∈ wsX5_want)) dX5_want_50 (fun σ5 eσ5 H locs hI hS => ?_)
    have hw := hw σ5 eσ5
    refine lv_aload_n hx hb dX5_want_53 rfl (lv_at hl 1 rfl) ?_
    refine xG_X5_lastStatus hx hb hF hown hI (hts _ (List.mem_of_getElem? (i := 1) rfl : (Cond.fieldLink RX5 48 "PlateRoom" "lastStatus" "I" : Cond) ∈ wsX5_want)) dX5_want_54 ?_
    refine lv_if_eq (tgt := 62) hx hb dX5_want_57 (by decide) (fun hc => ?_) (fun hc => ?_)
    · have hw := hw.1 hc
      refine lv_aload_n hx hb dX5_want_62 rfl (lv_at hl 1 rfl) ?_
      refine xG_X5_plan hx hb hF hown hI (hts _ (List.mem_of_getElem? (i := 2) rfl : (Cond.fieldLink RX5 33 "PlateRoom" "plan" "LPlateRoom$CopyPlan;" : Cond) ∈ wsX5_want)) dX5_want_63 ?_
      refine lv_iload_n hx hb dX5_want_66 rfl (lv_at hl 2 rfl) ?_
      refine lv_iload_n hx hb dX5_want_67 rfl (lv_at hl 3 rfl) ?_
      refine lv_iload_n hx hb dX5_want_68 rfl (lv_at hl 4 rfl) ?_
      refine lv_iload hx hb dX5_want_69 (lv_at hl 5 rfl) ?_
      refine gVv (cx_X0_setWish l g (σ := σ5) hw) (xMv g) ⟨hx, hb, hml, hown, hts⟩ (cwV 4 hts gX5_want_X0_setWish rfl rfl rfl (by decide +kernel) ⟨Nat.le_of_ble_eq_true rfl, Nat.le_of_ble_eq_true rfl⟩) (xRecv_X0 hI) hI hS hl.1 rfl rfl (Nat.le_of_ble_eq_true rfl) dX5_want_71 (fun σ6 H locs hw hI hS => ?_)
      refine lv_iconst (v := 1) hx hb dX5_want_74 (by decide) ?_
      exact hret _ _ _ _ _ _ dX5_want_75 isB1 hw hI hS
    have hw := hw.2 hc
    refine lv_iconst (v := 0) hx hb dX5_want_60 (by decide) ?_
    exact hret _ _ _ _ _ _ dX5_want_61 isB0 hw hI hS
  have j36 : ∀ (x1 : Int32) (x2 : Int32) (x3 : Int32) (x4 : Int32) (σ : wS) (H : Heap) (locs : List Loc) (ls : Array Slot), xIn g σ H s → va_S (xA g) s.heap H locs → lv_has ls 6 [(0, .ref (g.2.1 0)), (1, .int x1), (2, .int x2), (3, .int x3), (4, .int x4)] → wx_X5_want_J36 Q x1 x2 x3 x4 σ → W p l e ({ frames := 1, cells := 0, slots := 0, locals := 24 } : Room) s m args below meth c H locs 0 0 QQ (F0 m 36 ls []) := by
    intro x1 x2 x3 x4 σ H locs ls hI hS hl hw
    refine lv_iconst (v := 0) hx hb dX5_want_36 (by decide) ?_
    exact j37 _ _ _ _ _ _ _ _ _ hI hS (lv_sub hl [0, 1, 2, 3, 4] rfl) hw
  refine lv_iload_n hx hb dX5_want_0 rfl (lv_at hl 2 rfl) ?_
  refine lv_iconst (v := 0) hx hb dX5_want_1 (by decide) ?_
  refine lv_bipush (v := 99) hx hb dX5_want_2 (by decide) ?_
  refine gSi (cx_X5_isWithin l g (σ := σ) hw) (xMv g) ⟨hx, hb, hml, hown, hts⟩ (va_cwS 3 hts gX5_want_X5_isWithin rfl rfl rfl (by decide +kernel) ⟨Nat.le_of_ble_eq_true rfl, Nat.le_of_ble_eq_true rfl⟩) hI hS hl.1 rfl rfl (Nat.le_of_ble_eq_true rfl) dX5_want_4 (fun r1 σ2 H locs hw hI hS => ?_)
  obtain ⟨hw, hq⟩ := hw
  rw [hq] at hI
  refine lv_if_eq (tgt := 36) hx hb dX5_want_7 (by decide) (fun hc => ?_) (fun hc => ?_)
  · have hw := hw.1 hc
    exact j36 _ _ _ _ _ _ _ _ hI hS (lv_sub hl [0, 1, 2, 3, 4] rfl) hw
  have hw := hw.2 hc
  refine lv_iload_n hx hb dX5_want_10 rfl (lv_at hl 3 rfl) ?_
  refine lv_iconst (v := 1) hx hb dX5_want_11 (by decide) ?_
  refine lv_bipush (v := 50) hx hb dX5_want_12 (by decide) ?_
  refine gSi (cx_X5_isWithin l g (σ := σ) hw) (xMv g) ⟨hx, hb, hml, hown, hts⟩ (va_cwS 3 hts gX5_want_X5_isWithin rfl rfl rfl (by decide +kernel) ⟨Nat.le_of_ble_eq_true rfl, Nat.le_of_ble_eq_true rfl⟩) hI hS hl.1 rfl rfl (Nat.le_of_ble_eq_true rfl) dX5_want_14 (fun r3 σ4 H locs hw hI hS => ?_)
  obtain ⟨hw, hq⟩ := hw
  rw [hq] at hI
  refine lv_if_eq (tgt := 36) hx hb dX5_want_17 (by decide) (fun hc => ?_) (fun hc => ?_)
  · have hw := hw.1 hc
    exact j36 _ _ _ _ _ _ _ _ hI hS (lv_sub hl [0, 1, 2, 3, 4] rfl) hw
  have hw := hw.2 hc
  refine lv_iload hx hb dX5_want_20 (lv_at hl 4 rfl) ?_
  refine lv_iconst (v := 1) hx hb dX5_want_22 (by decide) ?_
  refine lv_sipush (v := 500) hx hb dX5_want_23 (by decide) ?_
  refine gSi (cx_X5_isWithin l g (σ := σ) hw) (xMv g) ⟨hx, hb, hml, hown, hts⟩ (va_cwS 3 hts gX5_want_X5_isWithin rfl rfl rfl (by decide +kernel) ⟨Nat.le_of_ble_eq_true rfl, Nat.le_of_ble_eq_true rfl⟩) hI hS hl.1 rfl rfl (Nat.le_of_ble_eq_true rfl) dX5_want_26 (fun r5 σ6 H locs hw hI hS => ?_)
  obtain ⟨hw, hq⟩ := hw
  rw [hq] at hI
  refine lv_if_eq (tgt := 36) hx hb dX5_want_29 (by decide) (fun hc => ?_) (fun hc => ?_)
  · have hw := hw.1 hc
    exact j36 _ _ _ _ _ _ _ _ hI hS (lv_sub hl [0, 1, 2, 3, 4] rfl) hw
  have hw := hw.2 hc
  refine lv_iconst (v := 1) hx hb dX5_want_32 (by decide) ?_
  refine lv_goto (tgt := 37) hx hb dX5_want_33 (by decide) ?_
  exact j37 _ _ _ _ _ _ _ _ _ hI hS (lv_sub hl [0, 1, 2, 3, 4] rfl) hw
