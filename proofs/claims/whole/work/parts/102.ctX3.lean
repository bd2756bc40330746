set_option maxRecDepth 100000 in
set_option maxHeartbeats 4000000 in
theorem cx_X2_copyLimits (l : Launch) (g : wG) {σ : wS} {x1 : Int32} {x3 : Int32} {Q : Int32 → wS → Prop} (hw : wx_X2_copyLimits Q x1 x3 σ) : Met l yX2_copyLimits wsX2_copyLimits ({ frames := 2, cells := 0, slots := 0, locals := 42 } : Room) (va_Pc [.ref (g.2.1 3), .int x1, .ref (g.2.1 5), .int x3] (fun U => xIn g σ U.heap U)) (va_Qi Q (fun σ1 t => xIn g σ1 t.heap t) (xA g)) 0 0 (xA g) := by
  refine gOfI (maxL := 7) (xMv g) (by decide) rfl (Nat.le_of_ble_eq_true rfl) ?_
  intro p e s m args below meth c QQ hx hb hml hown hts hret ls hl hI
  have hl : lv_has ls 7 [(0, .ref (g.2.1 3)), (1, .int x1), (2, .ref (g.2.1 5)), (3, .int x3)] := hl
  have hS : va_S (xA g) s.heap s.heap [] := va_S.rf
  have hF : ∀ w ∈ wsX20, w.before args s = true := fun w h => hts w (List.mem_cons_of_mem _ (List.mem_append_left _ (List.mem_append_right _ h)))
  refine lv_iload_n hx hb dX2_copyLimits_0 rfl (lv_at hl 3 rfl) ?_
  refine lv_istore (lv' := [(4, .int x3), (0, .ref (g.2.1 3)), (1, .int x1), (2, .ref (g.2.1 5)), (3, .int x3)]) hx hb dX2_copyLimits_1 hl (by decide) rfl (fun ls hl => ?_)
  refine lv_iconst (v := 0) hx hb dX2_copyLimits_3 (by decide) ?_
  refine lv_istore (lv' := [(5, .int 0), (4, .int x3), (0, .ref (g.2.1 3)), (1, .int x1), (2, .ref (g.2.1 5)), (3, .int x3)]) hx hb dX2_copyLimits_4 hl (by decide) rfl (fun ls hl => ?_)
  obtain ⟨n6, hw⟩ := hw
  have key6 : ∀ (n : Nat) (x1 : Int32) (x4 : Int32) (x5 : Int32) (σ : wS) (H : Heap) (locs : List Loc) (ls : Array Slot), xIn g σ H s → va_S (xA g) s.heap H locs → lv_has ls 7 [(0, .ref (g.2.1 3)), (1, .int x1), (2, .ref (g.2.1 5)), (4, .int x4), (5, .int x5)] → wloop (wx_X2_copyLimits_L6 Q x1) n (x4, x5, σ) → W p l e ({ frames := 2, cells := 0, slots := 0, locals := 42 } : Room) s m args below meth c H locs 0 0 QQ (F0 m 6 ls []) := by
    intro n
    induction n with
    | zero => intro x1 x4 x5 σ H locs ls hI hS hl hw; exact False.elim hw
    | succ n ih =>
      intro x1 x4 x5 σ H locs ls hI hS hl hw
      obtain ⟨K6, hK6⟩ : ∃ K, K = wloop (wx_X2_copyLimits_L6 Q x1) n := ⟨_, rfl⟩
      have hw : wx_X2_copyLimits_L6 Q x1 K6 (x4, x5, σ) := by rw [hK6]; exact hw
      dsimp only [wx_X2_copyLimits_L6] at hw
      have ih6 := ih
      refine lv_iload hx hb dX2_copyLimits_6 (lv_at hl 4 rfl) ?_
      refine lv_aload_n hx hb dX2_copyLimits_8 rfl (lv_at hl 0 rfl) ?_
      refine lv_iload_n hx hb dX2_copyLimits_9 rfl (lv_at hl 1 rfl) ?_
      refine gVi (cx_X2_limitsOf l g (σ := σ) hw) (xMv g) ⟨hx, hb, hml, hown, hts⟩ (cwV 1 hts gX2_copyLimits_X2_limitsOf rfl rfl rfl (by decide +kernel) ⟨Nat.le_of_ble_eq_true rfl, Nat.le_of_ble_eq_true rfl⟩) (xRecv_X2 hI) hI hS hl.1 rfl rfl (Nat.le_of_ble_eq_true rfl) dX2_copyLimits_10 (fun r1 σ2 H locs hw hI hS => ?_)
      obtain ⟨hw, hq⟩ := hw
      rw [hq] at hI
      refine lv_icmp_ge (tgt := 60) hx hb dX2_copyLimits_13 (by decide) (fun hc => ?_) (fun hc => ?_)
      · have hw := hw.1 hc
        refine lv_iload hx hb dX2_copyLimits_60 (lv_at hl 3 rfl) ?_
        exact hret _ _ _ _ _ _ dX2_copyLimits_62 hw hI hS
      have hw := hw.2 hc
      refine lv_iconst (v := 2) hx hb dX2_copyLimits_16 (by decide) ?_
      refine lv_iload_n hx hb dX2_copyLimits_17 rfl (lv_at hl 1 rfl) ?_
      refine lv_imul hx hb dX2_copyLimits_18 ?_
      refine lv_iload hx hb dX2_copyLimits_19 (lv_at hl 4 rfl) ?_
      refine lv_iadd hx hb dX2_copyLimits_21 ?_
      refine lv_topi (fun a3 ea3 => ?_)
      have hw := hw a3 ea3
      refine lv_istore (lv' := [(6, .int a3), (0, .ref (g.2.1 3)), (1, .int x1), (2, .ref (g.2.1 5)), (4, .int x4), (5, .int x5)]) hx hb dX2_copyLimits_22 hl (by decide) rfl (fun ls hl => ?_)
      refine lv_aload_n hx hb dX2_copyLimits_24 rfl (lv_at hl 3 rfl) ?_
      refine lv_iload hx hb dX2_copyLimits_25 (lv_at hl 4 rfl) ?_
      refine lv_aload_n hx hb dX2_copyLimits_27 rfl (lv_at hl 1 rfl) ?_
      refine xG_X2_tails hx hb hF hown hI (hts _ (List.mem_of_getElem? (i := 1) rfl : (Cond.fieldLink RX2 24 "PlateRoom$FactBook" "tails" "[I" : Cond) ∈ wsX2_copyLimits)) dX2_copyLimits_28 ?_
      refine lv_iload hx hb dX2_copyLimits_31 (lv_at hl 0 rfl) ?_
      have hin := hw.1
      have hw := hw.2
      refine xR_X2_tails hx hb hI hin dX2_copyLimits_33 ?_
      refine lv_aload_n hx hb dX2_copyLimits_34 rfl (lv_at hl 1 rfl) ?_
      refine xG_X2_heads hx hb hF hown hI (hts _ (List.mem_of_getElem? (i := 2) rfl : (Cond.fieldLink RX2 27 "PlateRoom$FactBook" "heads" "[I" : Cond) ∈ wsX2_copyLimits)) dX2_copyLimits_35 ?_
      refine lv_iload hx hb dX2_copyLimits_38 (lv_at hl 0 rfl) ?_
      have hin := hw.1
      have hw := hw.2
      refine xR_X2_heads hx hb hI hin dX2_copyLimits_40 ?_
      refine lv_aload_n hx hb dX2_copyLimits_41 rfl (lv_at hl 1 rfl) ?_
      refine xG_X2_lengths hx hb hF hown hI (hts _ (List.mem_of_getElem? (i := 3) rfl : (Cond.fieldLink RX2 30 "PlateRoom$FactBook" "lengths" "[I" : Cond) ∈ wsX2_copyLimits)) dX2_copyLimits_42 ?_
      refine lv_iload hx hb dX2_copyLimits_45 (lv_at hl 0 rfl) ?_
      have hin := hw.1
      have hw := hw.2
      refine xR_X2_lengths hx hb hI hin dX2_copyLimits_47 ?_
      refine gVv (cx_X4_setLimit l g (σ := σ) hw) (xMv g) ⟨hx, hb, hml, hown, hts⟩ (cwV 4 hts gX2_copyLimits_X4_setLimit rfl rfl rfl (by decide +kernel) ⟨Nat.le_of_ble_eq_true rfl, Nat.le_of_ble_eq_true rfl⟩) (xRecv_X4 hI) hI hS hl.1 rfl rfl (Nat.le_of_ble_eq_true rfl) dX2_copyLimits_48 (fun σ4 H locs hw hI hS => ?_)
      obtain ⟨a5, ea5⟩ : ∃ y : Int32, y = x4 + 1 := ⟨_, rfl⟩
      have hw := hw a5 ea5
      refine lv_iinc (v := a5) (lv' := [(4, .int a5), (6, .int a3), (0, .ref (g.2.1 3)), (1, .int x1), (2, .ref (g.2.1 5)), (5, .int x5)]) hx hb dX2_copyLimits_51 hl (k := 4) rfl (by rw [ea5]; rfl) (by decide) rfl (fun ls hl => ?_)
      obtain ⟨a6, ea6⟩ : ∃ y : Int32, y = x5 + 1 := ⟨_, rfl⟩
      have hw := hw a6 ea6
      refine lv_iinc (v := a6) (lv' := [(5, .int a6), (4, .int a5), (6, .int a3), (0, .ref (g.2.1 3)), (1, .int x1), (2, .ref (g.2.1 5))]) hx hb dX2_copyLimits_54 hl (k := 5) rfl (by rw [ea6]; rfl) (by decide) rfl (fun ls hl => ?_)
      refine lv_goto (tgt := 6) hx hb dX2_copyLimits_57 (by decide) ?_
      rw [hK6] at hw
      exact ih6 _ _ _ _ _ _ _ hI hS (lv_sub hl [3, 4, 5, 1, 0] rfl) hw
  exact key6 n6 _ _ _ _ _ _ _ hI hS (lv_sub hl [2, 3, 4, 1, 0] rfl) hw
set_option maxRecDepth 100000 in
set_option maxHeartbeats 4000000 in
theorem cx_X4_gather (l : Launch) (g : wG) {σ : wS} {x2 : Int32} {x3 : Int32} {Q : wS → Prop} (hw : wx_X4_gather Q x2 x3 σ) : Met l yX4_gather wsX4_gather ({ frames := 3, cells := 0, slots := 0, locals := 68 } : Room) (va_Pc [.ref (g.2.1 5), .ref (g.2.1 3), .int x2, .int x3] (fun U => xIn g σ U.heap U)) (va_Qv Q (fun σ1 t => xIn g σ1 t.heap t) (xA g)) 0 0 (xA g) := by
  refine gOfV (maxL := 5) (xMv g) (by decide) rfl (Nat.le_of_ble_eq_true rfl) ?_
  intro p e s m args below meth c QQ hx hb hml hown hts hret ls hl hI
  have hl : lv_has ls 5 [(0, .ref (g.2.1 5)), (1, .ref (g.2.1 3)), (2, .int x2), (3, .int x3)] := hl
  have hS : va_S (xA g) s.heap s.heap [] := va_S.rf
  have hF : ∀ w ∈ wsX40, w.before args s = true := fun w h => hts w (List.mem_cons_of_mem _ (List.mem_append_left _ (List.mem_append_right _ h)))
  refine lv_aload_n hx hb dX4_gather_0 rfl (lv_at hl 0 rfl) ?_
  refine lv_iconst (v := 0) hx hb dX4_gather_1 (by decide) ?_
  refine xP_X4_limitCount hx hb hF hown hI hS (hts _ (List.mem_of_getElem? (i := 1) rfl : (Cond.fieldLink RX4 27 "PlateRoom$TimeGraph" "limitCount" "I" : Cond) ∈ wsX4_gather)) dX4_gather_2 (fun σ1 eσ1 H locs hI hS => ?_)
  have hw := hw σ1 eσ1
  refine lv_iconst (v := 0) hx hb dX4_gather_5 (by decide) ?_
  refine lv_istore (lv' := [(4, .int 0), (0, .ref (g.2.1 5)), (1, .ref (g.2.1 3)), (2, .int x2), (3, .int x3)]) hx hb dX4_gather_6 hl (by decide) rfl (fun ls hl => ?_)
  obtain ⟨n8, hw⟩ := hw
  have key8 : ∀ (n : Nat) (x2 : Int32) (x3 : Int32) (x4 : Int32) (σ : wS) (H : Heap) (locs : List Loc) (ls : Array Slot), xIn g σ H s → va_S (xA g) s.heap H locs → lv_has ls 5 [(0, .ref (g.2.1 5)), (1, .ref (g.2.1 3)), (2, .int x2), (3, .int x3), (4, .int x4)] → wloop (wx_X4_gather_L8 Q x2 x3) n (x4, σ) → W p l e ({ frames := 3, cells := 0, slots := 0, locals := 68 } : Room) s m args below meth c H locs 0 0 QQ (F0 m 8 ls []) := by
    intro n
    induction n with
    | zero => intro x2 x3 x4 σ H locs ls hI hS hl hw; exact False.elim hw
    | succ n ih =>
      intro x2 x3 x4 σ H locs ls hI hS hl hw
      obtain ⟨K8, hK8⟩ : ∃ K, K = wloop (wx_X4_gather_L8 Q x2 x3) n := ⟨_, rfl⟩
      have hw : wx_X4_gather_L8 Q x2 x3 K8 (x4, σ) := by rw [hK8]; exact hw
      dsimp only [wx_X4_gather_L8] at hw
      have ih8 := ih
      refine lv_iload hx hb dX4_gather_8 (lv_at hl 4 rfl) ?_
      refine lv_aload_n hx hb dX4_gather_10 rfl (lv_at hl 1 rfl) ?_
      refine gVi (cx_X2_size l g (σ := σ) hw) (xMv g) ⟨hx, hb, hml, hown, hts⟩ (cwV 0 hts gX4_gather_X2_size rfl rfl rfl (by decide +kernel) ⟨Nat.le_of_ble_eq_true rfl, Nat.le_of_ble_eq_true rfl⟩) (xRecv_X2 hI) hI hS hl.1 rfl rfl (Nat.le_of_ble_eq_true rfl) dX4_gather_11 (fun r1 σ2 H locs hw hI hS => ?_)
      obtain ⟨hw, hq⟩ := hw
      rw [hq] at hI
      refine lv_icmp_ge (tgt := 54) hx hb dX4_gather_14 (by decide) (fun hc => ?_) (fun hc => ?_)
      · have hw := hw.1 hc
        exact hret _ _ _ _ _ dX4_gather_54 hw hI hS
      have hw := hw.2 hc
      refine lv_iload hx hb dX4_gather_17 (lv_at hl 4 rfl) ?_
      refine lv_iload_n hx hb dX4_gather_19 rfl (lv_at hl 3 rfl) ?_
      refine lv_icmp_eq (tgt := 48) hx hb dX4_gather_20 (by decide) (fun hc => ?_) (fun hc => ?_)
      · have hw := hw.1 hc
        obtain ⟨a3, ea3⟩ : ∃ y : Int32, y = x4 + 1 := ⟨_, rfl⟩
        have hw := hw a3 ea3
        refine lv_iinc (v := a3) (lv' := [(4, .int a3), (0, .ref (g.2.1 5)), (1, .ref (g.2.1 3)), (2, .int x2), (3, .int x3)]) hx hb dX4_gather_48 hl (k := 4) rfl (by rw [ea3]; rfl) (by decide) rfl (fun ls hl => ?_)
        refine lv_goto (tgt := 8) hx hb dX4_gather_51 (by decide) ?_
        rw [hK8] at hw
        exact ih8 _ _ _ _ _ _ _ hI hS (lv_sub hl [1, 2, 3, 4, 0] rfl) hw
      have hw := hw.2 hc
      refine lv_aload_n hx hb dX4_gather_23 rfl (lv_at hl 1 rfl) ?_
      refine lv_iload hx hb dX4_gather_24 (lv_at hl 4 rfl) ?_
      refine lv_iload_n hx hb dX4_gather_26 rfl (lv_at hl 2 rfl) ?_
      refine gVi (cx_X2_isKnown l g (σ := σ) hw) (xMv g) ⟨hx, hb, hml, hown, hts⟩ (cwV 2 hts gX4_gather_X2_isKnown rfl rfl rfl (by decide +kernel) ⟨Nat.le_of_ble_eq_true rfl, Nat.le_of_ble_eq_true rfl⟩) (xRecv_X2 hI) hI hS hl.1 rfl rfl (Nat.le_of_ble_eq_true rfl) dX4_gather_27 (fun r4 σ5 H locs hw hI hS => ?_)
      obtain ⟨hw, hq⟩ := hw
      rw [hq] at hI
      refine lv_if_eq (tgt := 48) hx hb dX4_gather_30 (by decide) (fun hc => ?_) (fun hc => ?_)
      · have hw := hw.1 hc
        obtain ⟨a6, ea6⟩ : ∃ y : Int32, y = x4 + 1 := ⟨_, rfl⟩
        have hw := hw a6 ea6
        refine lv_iinc (v := a6) (lv' := [(4, .int a6), (0, .ref (g.2.1 5)), (1, .ref (g.2.1 3)), (2, .int x2), (3, .int x3)]) hx hb dX4_gather_48 hl (k := 4) rfl (by rw [ea6]; rfl) (by decide) rfl (fun ls hl => ?_)
        refine lv_goto (tgt := 8) hx hb dX4_gather_51 (by decide) ?_
        rw [hK8] at hw
        exact ih8 _ _ _ _ _ _ _ hI hS (lv_sub hl [1, 2, 3, 4, 0] rfl) hw
      have hw := hw.2 hc
      refine lv_aload_n hx hb dX4_gather_33 rfl (lv_at hl 0 rfl) ?_
      refine lv_aload_n hx hb dX4_gather_34 rfl (lv_at hl 1 rfl) ?_
      refine lv_iload hx hb dX4_gather_35 (lv_at hl 4 rfl) ?_
      refine lv_aload_n hx hb dX4_gather_37 rfl (lv_at hl 0 rfl) ?_
      refine lv_aload_n hx hb dX4_gather_38 rfl (lv_at hl 0 rfl) ?_
      refine xG_X4_limitCount hx hb hF hown hI (hts _ (List.mem_of_getElem? (i := 1) rfl : (Cond.fieldLink RX4 27 "PlateRoom$TimeGraph" "limitCount" "I" : Cond) ∈ wsX4_gather)) dX4_gather_39 ?_
      refine gVi (cx_X2_copyLimits l g (σ := σ) hw) (xMv g) ⟨hx, hb, hml, hown, hts⟩ (cwV 3 hts gX4_gather_X2_copyLimits rfl rfl rfl (by decide +kernel) ⟨Nat.le_of_ble_eq_true rfl, Nat.le_of_ble_eq_true rfl⟩) (xRecv_X2 hI) hI hS hl.1 rfl rfl (Nat.le_of_ble_eq_true rfl) dX4_gather_42 (fun r7 σ8 H locs hw hI hS => ?_)
      refine xP_X4_limitCount hx hb hF hown hI hS (hts _ (List.mem_of_getElem? (i := 1) rfl : (Cond.fieldLink RX4 27 "PlateRoom$TimeGraph" "limitCount" "I" : Cond) ∈ wsX4_gather)) dX4_gather_45 (fun σ9 eσ9 H locs hI hS => ?_)
      have hw := hw σ9 eσ9
      obtain ⟨a10, ea10⟩ : ∃ y : Int32, y = x4 + 1 := ⟨_, rfl⟩
      have hw := hw a10 ea10
      refine lv_iinc (v := a10) (lv' := [(4, .int a10), (0, .ref (g.2.1 5)), (1, .ref (g.2.1 3)), (2, .int x2), (3, .int x3)]) hx hb dX4_gather_48 hl (k := 4) rfl (by rw [ea10]; rfl) (by decide) rfl (fun ls hl => ?_)
      refine lv_goto (tgt := 8) hx hb dX4_gather_51 (by decide) ?_
      rw [hK8] at hw
      exact ih8 _ _ _ _ _ _ _ hI hS (lv_sub hl [1, 2, 3, 4, 0] rfl) hw
  exact key8 n8 _ _ _ _ _ _ _ hI hS (lv_sub hl [1, 2, 3, 4, 0] rfl) hw
set_option maxRecDepth 100000 in
set_option maxHeartbeats 4000000 in
theorem cx_J7_fill_53178_ways (l : Launch) (g : wG) {σ : wS} {x1 : Int32} {Q : wS → Prop} (hw : wx_J7_fill_53178_ways Q x1 σ) : Met l yJ7_fill_53178 wsJ7_fill_53178 ({ frames := 0, cells := 0, slots := 0, locals := 0 } : Room) (va_Pc [.ref (g.2.1 32), .int x1] (fun U => xIn g σ U.heap U)) (va_Qv Q (fun σ1 t => xIn g σ1 t.heap t) (xA g)) 0 0 (xA g) := by
  refine gOfV (maxL := 4) (xMv g) (by decide) rfl (Nat.le_of_ble_eq_true rfl) ?_
  intro p e s m args below meth c QQ hx hb hml hown hts hret ls hl hI
  have hl : lv_has ls 4 [(0, .ref (g.2.1 32)), (1, .int x1)] := hl
  have hS : va_S (xA g) s.heap s.heap [] := va_S.rf
  refine lv_iconst (v := 0) hx hb dJ7_fill_53178_0 (by decide) ?_
  refine lv_istore_n (lv' := [(2, .int 0), (0, .ref (g.2.1 32)), (1, .int x1)]) hx hb dJ7_fill_53178_1 rfl hl (by decide) rfl (fun ls hl => ?_)
  refine lv_aload_n hx hb dJ7_fill_53178_2 rfl (lv_at hl 1 rfl) ?_
  refine xN_X4_ways hx hb hI dJ7_fill_53178_3 ?_
  refine lv_istore_n (lv' := [(3, .int 53), (2, .int 0), (0, .ref (g.2.1 32)), (1, .int x1)]) hx hb dJ7_fill_53178_4 rfl hl (by decide) rfl (fun ls hl => ?_)
  obtain ⟨n5, hw⟩ := hw
  have key5 : ∀ (n : Nat) (x1 : Int32) (x2 : Int32) (x3 : Int32) (σ : wS) (H : Heap) (locs : List Loc) (ls : Array Slot), xIn g σ H s → va_S (xA g) s.heap H locs → lv_has ls 4 [(0, .ref (g.2.1 32)), (1, .int x1), (2, .int x2), (3, .int x3)] → wloop (wx_J7_fill_53178_ways_L5 Q x1 x3) n (x2, σ) → W p l e ({ frames := 0, cells := 0, slots := 0, locals := 0 } : Room) s m args below meth c H locs 0 0 QQ (F0 m 5 ls []) := by
    intro n
    induction n with
    | zero => intro x1 x2 x3 σ H locs ls hI hS hl hw; exact False.elim hw
    | succ n ih =>
      intro x1 x2 x3 σ H locs ls hI hS hl hw
      obtain ⟨K5, hK5⟩ : ∃ K, K = wloop (wx_J7_fill_53178_ways_L5 Q x1 x3) n := ⟨_, rfl⟩
      have hw : wx_J7_fill_53178_ways_L5 Q x1 x3 K5 (x2, σ) := by rw [hK5]; exact hw
      dsimp only [wx_J7_fill_53178_ways_L5] at hw
      have ih5 := ih
      refine lv_iload_n hx hb dJ7_fill_53178_5 rfl (lv_at hl 2 rfl) ?_
      refine lv_iload_n hx hb dJ7_fill_53178_6 rfl (lv_at hl 3 rfl) ?_
      refine lv_icmp_ge (tgt := 20) hx hb dJ7_fill_53178_7 (by decide) (fun hc => ?_) (fun hc => ?_)
      · have hw := hw.1 hc
        exact hret _ _ _ _ _ dJ7_fill_53178_20 hw hI hS
      have hw := hw.2 hc
      refine lv_aload_n hx hb dJ7_fill_53178_10 rfl (lv_at hl 0 rfl) ?_
      refine lv_iload_n hx hb dJ7_fill_53178_11 rfl (lv_at hl 2 rfl) ?_
      refine lv_iload_n hx hb dJ7_fill_53178_12 rfl (lv_at hl 1 rfl) ?_
      have hin := hw.1
      have hw := hw.2
      refine xS_X4_ways hx hb hI hS hin dJ7_fill_53178_13 (fun σ1 eσ1 H locs hI hS => ?_)
      have hw := hw σ1 eσ1
      obtain ⟨a2, ea2⟩ : ∃ y : Int32, y = x2 + 1 := ⟨_, rfl⟩
      have hw := hw a2 ea2
      refine lv_iinc (v := a2) (lv' := [(2, .int a2), (0, .ref (g.2.1 32)), (1, .int x1), (3, .int x3)]) hx hb dJ7_fill_53178_14 hl (k := 2) rfl (by rw [ea2]; rfl) (by decide) rfl (fun ls hl => ?_)
      refine lv_goto (tgt := 5) hx hb dJ7_fill_53178_17 (by decide) ?_
      rw [hK5] at hw
      exact ih5 _ _ _ _ _ _ _ hI hS (lv_sub hl [1, 2, 0, 3] rfl) hw
  exact key5 n5 _ _ _ _ _ _ _ hI hS (lv_sub hl [2, 3, 1, 0] rfl) hw
set_option maxRecDepth 100000 in
set_option maxHeartbeats 4000000 in
theorem cx_X4_followRange (l : Launch) (g : wG) {σ : wS} {Q : wS → Prop} (hw : wx_X4_followRange Q σ) : Met l yX4_followRange wsX4_followRange ({ frames := 1, cells := 0, slots := 0, locals := 23 } : Room) (va_Pc [.ref (g.2.1 5)] (fun U => xIn g σ U.heap U)) (va_Qv Q (fun σ1 t => xIn g σ1 t.heap t) (xA g)) 0 0 (xA g) := by
  refine gOfV (maxL := 3) (xMv g) (by decide) rfl (Nat.le_of_ble_eq_true rfl) ?_
  intro p e s m args below meth c QQ hx hb hml hown hts hret ls hl hI
  have hl : lv_has ls 3 [(0, .ref (g.2.1 5))] := hl
  have hS : va_S (xA g) s.heap s.heap [] := va_S.rf
  have hF : ∀ w ∈ wsX40, w.before args s = true := fun w h => hts w (List.mem_cons_of_mem _ (List.mem_append_right _ h))
  refine lv_aload_n hx hb dX4_followRange_0 rfl (lv_at hl 0 rfl) ?_
  refine xG_X4_ways hx hb hF hown hI (hts _ (List.mem_of_getElem? (i := 1) rfl : (Cond.fieldLink RX4 21 "PlateRoom$TimeGraph" "ways" "[I" : Cond) ∈ wsX4_followRange)) dX4_followRange_1 ?_
  refine lv_iconst (v := 0) hx hb dX4_followRange_4 (by decide) ?_
  have hin := hw.1
  have hw := hw.2
  refine xR_X4_ways hx hb hI hin dX4_followRange_5 ?_
  refine lv_topi (fun a1 ea1 => ?_)
  have hw := hw a1 ea1
  refine lv_istore_n (lv' := [(1, .int a1), (0, .ref (g.2.1 5))]) hx hb dX4_followRange_6 rfl hl (by decide) rfl (fun ls hl => ?_)
  refine lv_iconst (v := 0) hx hb dX4_followRange_7 (by decide) ?_
  refine lv_istore_n (lv' := [(2, .int 0), (1, .int a1), (0, .ref (g.2.1 5))]) hx hb dX4_followRange_8 rfl hl (by decide) rfl (fun ls hl => ?_)
  obtain ⟨n9, hw⟩ := hw
  have key9 : ∀ (n : Nat) (x1 : Int32) (x2 : Int32) (σ : wS) (H : Heap) (locs : List Loc) (ls : Array Slot), xIn g σ H s → va_S (xA g) s.heap H locs → lv_has ls 3 [(0, .ref (g.2.1 5)), (1, .int x1), (2, .int x2)] → wloop (wx_X4_followRange_L9 Q σ) n (x1, x2) → W p l e ({ frames := 1, cells := 0, slots := 0, locals := 23 } : Room) s m args below meth c H locs 0 0 QQ (F0 m 9 ls []) := by
    intro n
    induction n with
    | zero => intro x1 x2 σ H locs ls hI hS hl hw; exact False.elim hw
    | succ n ih =>
      intro x1 x2 σ H locs ls hI hS hl hw
      obtain ⟨K9, hK9⟩ : ∃ K, K = wloop (wx_X4_followRange_L9 Q σ) n := ⟨_, rfl⟩
      have hw : wx_X4_followRange_L9 Q σ K9 (x1, x2) := by rw [hK9]; exact hw
      dsimp only [wx_X4_followRange_L9] at hw
      have ih9 := ih
      refine lv_iload_n hx hb dX4_followRange_9 rfl (lv_at hl 2 rfl) ?_
      refine lv_bipush (v := 53) hx hb dX4_followRange_10 (by decide) ?_
      refine lv_icmp_ge (tgt := 32) hx hb dX4_followRange_12 (by decide) (fun hc => ?_) (fun hc => ?_)
      · have hw := hw.1 hc
        refine lv_aload_n hx hb dX4_followRange_32 rfl (lv_at hl 0 rfl) ?_
        refine xG_X4_ways hx hb hF hown hI (hts _ (List.mem_of_getElem? (i := 1) rfl : (Cond.fieldLink RX4 21 "PlateRoom$TimeGraph" "ways" "[I" : Cond) ∈ wsX4_followRange)) dX4_followRange_33 ?_
        refine lv_iconst (v := 0) hx hb dX4_followRange_36 (by decide) ?_
        refine lv_iload_n hx hb dX4_followRange_37 rfl (lv_at hl 1 rfl) ?_
        have hin := hw.1
        have hw := hw.2
        refine xS_X4_ways hx hb hI hS hin dX4_followRange_38 (fun σ1 eσ1 H locs hI hS => ?_)
        have hw := hw σ1 eσ1
        refine lv_iconst (v := 0) hx hb dX4_followRange_39 (by decide) ?_
        refine lv_istore_n (lv' := [(2, .int 0), (0, .ref (g.2.1 5)), (1, .int x1)]) hx hb dX4_followRange_40 rfl hl (by decide) rfl (fun ls hl => ?_)
        obtain ⟨n41, hw⟩ := hw
        have key41 : ∀ (n : Nat) (x1 : Int32) (x2 : Int32) (σ : wS) (H : Heap) (locs : List Loc) (ls : Array Slot), xIn g σ H s → va_S (xA g) s.heap H locs → lv_has ls 3 [(0, .ref (g.2.1 5)), (1, .int x1), (2, .int x2)] → wloop (wx_X4_followRange_L41 Q x1) n (x2, σ) → W p l e ({ frames := 1, cells := 0, slots := 0, locals := 23 } : Room) s m args below meth c H locs 0 0 QQ (F0 m 41 ls []) := by
          intro n
          induction n with
          | zero => intro x1 x2 σ H locs ls hI hS hl hw; exact False.elim hw
          | succ n ih =>
            intro x1 x2 σ H locs ls hI hS hl hw
            obtain ⟨K41, hK41⟩ : ∃ K, K = wloop (wx_X4_followRange_L41 Q x1) n := ⟨_, rfl⟩
            have hw : wx_X4_followRange_L41 Q x1 K41 (x2, σ) := by rw [hK41]; exact hw
            dsimp only [wx_X4_followRange_L41] at hw
            have ih41 := ih
            refine lv_iload_n hx hb dX4_followRange_41 rfl (lv_at hl 2 rfl) ?_
            refine lv_bipush (v := 53) hx hb dX4_followRange_42 (by decide) ?_
            refine lv_icmp_ge (tgt := 72) hx hb dX4_followRange_44 (by decide) (fun hc => ?_) (fun hc => ?_)
            · have hw := hw.1 hc
              exact hret _ _ _ _ _ dX4_followRange_72 hw hI hS
            have hw := hw.2 hc
            refine lv_aload_n hx hb dX4_followRange_47 rfl (lv_at hl 0 rfl) ?_
            refine xG_X4_ways hx hb hF hown hI (hts _ (List.mem_of_getElem? (i := 1) rfl : (Cond.fieldLink RX4 21 "PlateRoom$TimeGraph" "ways" "[I" : Cond) ∈ wsX4_followRange)) dX4_followRange_48 ?_
            refine lv_iload_n hx hb dX4_followRange_51 rfl (lv_at hl 2 rfl) ?_
            refine lv_aload_n hx hb dX4_followRange_52 rfl (lv_at hl 0 rfl) ?_
            refine xG_X4_ways hx hb hF hown hI (hts _ (List.mem_of_getElem? (i := 1) rfl : (Cond.fieldLink RX4 21 "PlateRoom$TimeGraph" "ways" "[I" : Cond) ∈ wsX4_followRange)) dX4_followRange_53 ?_
            refine lv_iload_n hx hb dX4_followRange_56 rfl (lv_at hl 2 rfl) ?_
            have hin := hw.1
            have hw := hw.2
            refine xR_X4_ways hx hb hI hin dX4_followRange_57 ?_
            refine lv_iload_n hx hb dX4_followRange_58 rfl (lv_at hl 1 rfl) ?_
            refine lv_ldc (own := RX4) hx hb hown (hts _ (List.mem_of_getElem? (i := 6) rfl : (Cond.constant RX4 82 (100000) : Cond) ∈ wsX4_followRange)) dX4_followRange_59 ?_
            refine lv_iadd hx hb dX4_followRange_61 ?_
            refine va_mmin hx hb (hml.trans hl.1.symm) hown (hts _ (List.mem_of_getElem? (i := 2) rfl : (Cond.methodLink RX4 62 Lib.Math.min.name : Cond) ∈ wsX4_followRange)) (hts _ (List.mem_of_getElem? (i := 3) rfl : (Cond.static Lib.Math.min.name : Cond) ∈ wsX4_followRange)) (hts _ (List.mem_of_getElem? (i := 4) rfl : (Cond.initialized "java/lang/Math" : Cond) ∈ wsX4_followRange)) (hts _ (List.mem_of_getElem? (i := 5) rfl : (Cond.code Lib.Math.min.name Lib.Math.min.code 2 (some .int) : Cond) ∈ wsX4_followRange)) (Nat.le_of_ble_eq_true rfl) (Nat.le_of_ble_eq_true rfl) (Nat.zero_le _) (Nat.zero_le _) dX4_followRange_62 ?_
            refine lv_topi (fun m1 em1 => ?_)
            have hw := hw m1 em1
            have hin := hw.1
            have hw := hw.2
            refine xS_X4_ways hx hb hI hS hin dX4_followRange_65 (fun σ2 eσ2 H locs hI hS => ?_)
            have hw := hw σ2 eσ2
            obtain ⟨a3, ea3⟩ : ∃ y : Int32, y = x2 + 1 := ⟨_, rfl⟩
            have hw := hw a3 ea3
            refine lv_iinc (v := a3) (lv' := [(2, .int a3), (0, .ref (g.2.1 5)), (1, .int x1)]) hx hb dX4_followRange_66 hl (k := 2) rfl (by rw [ea3]; rfl) (by decide) rfl (fun ls hl => ?_)
            refine lv_goto (tgt := 41) hx hb dX4_followRange_69 (by decide) ?_
            rw [hK41] at hw
            exact ih41 _ _ _ _ _ _ hI hS (lv_sub hl [1, 2, 0] rfl) hw
        exact key41 n41 _ _ _ _ _ _ hI hS (lv_sub hl [1, 2, 0] rfl) hw
      have hw := hw.2 hc
      refine lv_iload_n hx hb dX4_followRange_15 rfl (lv_at hl 1 rfl) ?_
      refine lv_aload_n hx hb dX4_followRange_16 rfl (lv_at hl 0 rfl) ?_
      refine xG_X4_ways hx hb hF hown hI (hts _ (List.mem_of_getElem? (i := 1) rfl : (Cond.fieldLink RX4 21 "PlateRoom$TimeGraph" "ways" "[I" : Cond) ∈ wsX4_followRange)) dX4_followRange_17 ?_
      refine lv_iload_n hx hb dX4_followRange_20 rfl (lv_at hl 2 rfl) ?_
      have hin := hw.1
      have hw := hw.2
      refine xR_X4_ways hx hb hI hin dX4_followRange_21 ?_
      refine va_mmin hx hb (hml.trans hl.1.symm) hown (hts _ (List.mem_of_getElem? (i := 2) rfl : (Cond.methodLink RX4 62 Lib.Math.min.name : Cond) ∈ wsX4_followRange)) (hts _ (List.mem_of_getElem? (i := 3) rfl : (Cond.static Lib.Math.min.name : Cond) ∈ wsX4_followRange)) (hts _ (List.mem_of_getElem? (i := 4) rfl : (Cond.initialized "java/lang/Math" : Cond) ∈ wsX4_followRange)) (hts _ (List.mem_of_getElem? (i := 5) rfl : (Cond.code Lib.Math.min.name Lib.Math.min.code 2 (some .int) : Cond) ∈ wsX4_followRange)) (Nat.le_of_ble_eq_true rfl) (Nat.le_of_ble_eq_true rfl) (Nat.zero_le _) (Nat.zero_le _) dX4_followRange_22 ?_
      refine lv_topi (fun m2 em2 => ?_)
      have hw := hw m2 em2
      refine lv_istore_n (lv' := [(1, .int m2), (0, .ref (g.2.1 5)), (2, .int x2)]) hx hb dX4_followRange_25 rfl hl (by decide) rfl (fun ls hl => ?_)
      obtain ⟨a3, ea3⟩ : ∃ y : Int32, y = x2 + 1 := ⟨_, rfl⟩
      have hw := hw a3 ea3
      refine lv_iinc (v := a3) (lv' := [(2, .int a3), (1, .int m2), (0, .ref (g.2.1 5))]) hx hb dX4_followRange_26 hl (k := 2) rfl (by rw [ea3]; rfl) (by decide) rfl (fun ls hl => ?_)
      refine lv_goto (tgt := 9) hx hb dX4_followRange_29 (by decide) ?_
      rw [hK9] at hw
      exact ih9 _ _ _ _ _ _ hI hS (lv_sub hl [2, 1, 0] rfl) hw
  exact key9 n9 _ _ _ _ _ _ hI hS (lv_sub hl [2, 1, 0] rfl) hw
set_option maxRecDepth 100000 in
set_option maxHeartbeats 4000000 in
theorem cx_X4_followBounds (l : Launch) (g : wG) {σ : wS} {x1 : Int32} {Q : wS → Prop} (hw : wx_X4_followBounds Q x1 σ) : Met l yX4_followBounds wsX4_followBounds ({ frames := 2, cells := 0, slots := 0, locals := 45 } : Room) (va_Pc [.ref (g.2.1 5), .int x1] (fun U => xIn g σ U.heap U)) (va_Qv Q (fun σ1 t => xIn g σ1 t.heap t) (xA g)) 0 0 (xA g) := by
  refine gOfV (maxL := 3) (xMv g) (by decide) rfl (Nat.le_of_ble_eq_true rfl) ?_
  intro p e s m args below meth c QQ hx hb hml hown hts hret ls hl hI
  have hl : lv_has ls 3 [(0, .ref (g.2.1 5)), (1, .int x1)] := hl
  have hS : va_S (xA g) s.heap s.heap [] := va_S.rf
  have hF : ∀ w ∈ wsX40, w.before args s = true := fun w h => hts w (List.mem_cons_of_mem _ (List.mem_append_right _ h))
  refine lv_bipush (v := 21) hx hb dX4_followBounds_0 (by decide) ?_
  refine lv_istore_n (lv' := [(2, .int 21), (0, .ref (g.2.1 5)), (1, .int x1)]) hx hb dX4_followBounds_2 rfl hl (by decide) rfl (fun ls hl => ?_)
  obtain ⟨n3, hw⟩ := hw
  have key3 : ∀ (n : Nat) (x1 : Int32) (x2 : Int32) (σ : wS) (H : Heap) (locs : List Loc) (ls : Array Slot), xIn g σ H s → va_S (xA g) s.heap H locs → lv_has ls 3 [(0, .ref (g.2.1 5)), (1, .int x1), (2, .int x2)] → wloop (wx_X4_followBounds_L3 Q x1) n (x2, σ) → W p l e ({ frames := 2, cells := 0, slots := 0, locals := 45 } : Room) s m args below meth c H locs 0 0 QQ (F0 m 3 ls []) := by
    intro n
    induction n with
    | zero => intro x1 x2 σ H locs ls hI hS hl hw; exact False.elim hw
    | succ n ih =>
      intro x1 x2 σ H locs ls hI hS hl hw
      obtain ⟨K3, hK3⟩ : ∃ K, K = wloop (wx_X4_followBounds_L3 Q x1) n := ⟨_, rfl⟩
      have hw : wx_X4_followBounds_L3 Q x1 K3 (x2, σ) := by rw [hK3]; exact hw
      dsimp only [wx_X4_followBounds_L3] at hw
      have ih3 := ih
      refine lv_iload_n hx hb dX4_followBounds_3 rfl (lv_at hl 2 rfl) ?_
      refine lv_bipush (v := 52) hx hb dX4_followBounds_4 (by decide) ?_
      refine lv_icmp_ge (tgt := 38) hx hb dX4_followBounds_6 (by decide) (fun hc => ?_) (fun hc => ?_)
      · have hw := hw.1 hc
        refine lv_iload_n hx hb dX4_followBounds_38 rfl (lv_at hl 1 rfl) ?_
        refine lv_if_ne (tgt := 46) hx hb dX4_followBounds_39 (by decide) (fun hc => ?_) (fun hc => ?_)
        · have hw := hw.1 hc
          exact hret _ _ _ _ _ dX4_followBounds_46 hw hI hS
        have hw := hw.2 hc
        refine lv_aload_n hx hb dX4_followBounds_42 rfl (lv_at hl 0 rfl) ?_
        refine gVv (cx_X4_followRange l g (σ := σ) hw) (xMv g) ⟨hx, hb, hml, hown, hts⟩ (cwV 0 hts gX4_followBounds_X4_followRange rfl rfl rfl (by decide +kernel) ⟨Nat.le_of_ble_eq_true rfl, Nat.le_of_ble_eq_true rfl⟩) (xRecv_X4 hI) hI hS hl.1 rfl rfl (Nat.le_of_ble_eq_true rfl) dX4_followBounds_43 (fun σ1 H locs hw hI hS => ?_)
        exact hret _ _ _ _ _ dX4_followBounds_46 hw hI hS
      have hw := hw.2 hc
      refine lv_aload_n hx hb dX4_followBounds_9 rfl (lv_at hl 0 rfl) ?_
      refine xG_X4_ways hx hb hF hown hI (hts _ (List.mem_of_getElem? (i := 1) rfl : (Cond.fieldLink RX4 21 "PlateRoom$TimeGraph" "ways" "[I" : Cond) ∈ wsX4_followBounds)) dX4_followBounds_10 ?_
      refine lv_iload_n hx hb dX4_followBounds_13 rfl (lv_at hl 2 rfl) ?_
      refine lv_aload_n hx hb dX4_followBounds_14 rfl (lv_at hl 0 rfl) ?_
      refine xG_X4_ways hx hb hF hown hI (hts _ (List.mem_of_getElem? (i := 1) rfl : (Cond.fieldLink RX4 21 "PlateRoom$TimeGraph" "ways" "[I" : Cond) ∈ wsX4_followBounds)) dX4_followBounds_15 ?_
      refine lv_iload_n hx hb dX4_followBounds_18 rfl (lv_at hl 2 rfl) ?_
      have hin := hw.1
      have hw := hw.2
      refine xR_X4_ways hx hb hI hin dX4_followBounds_19 ?_
      refine lv_aload_n hx hb dX4_followBounds_20 rfl (lv_at hl 0 rfl) ?_
      refine xG_X4_ways hx hb hF hown hI (hts _ (List.mem_of_getElem? (i := 1) rfl : (Cond.fieldLink RX4 21 "PlateRoom$TimeGraph" "ways" "[I" : Cond) ∈ wsX4_followBounds)) dX4_followBounds_21 ?_
      refine lv_iload_n hx hb dX4_followBounds_24 rfl (lv_at hl 2 rfl) ?_
      refine lv_iconst (v := 1) hx hb dX4_followBounds_25 (by decide) ?_
      refine lv_iadd hx hb dX4_followBounds_26 ?_
      have hin := hw.1
      have hw := hw.2
      refine xR_X4_ways hx hb hI hin dX4_followBounds_27 ?_
      refine va_mmin hx hb (hml.trans hl.1.symm) hown (hts _ (List.mem_of_getElem? (i := 2) rfl : (Cond.methodLink RX4 62 Lib.Math.min.name : Cond) ∈ wsX4_followBounds)) (hts _ (List.mem_of_getElem? (i := 3) rfl : (Cond.static Lib.Math.min.name : Cond) ∈ wsX4_followBounds)) (hts _ (List.mem_of_getElem? (i := 4) rfl : (Cond.initialized "java/lang/Math" : Cond) ∈ wsX4_followBounds)) (hts _ (List.mem_of_getElem? (i := 5) rfl : (Cond.code Lib.Math.min.name Lib.Math.min.code 2 (some .int) : Cond) ∈ wsX4_followBounds)) (Nat.le_of_ble_eq_true rfl) (Nat.le_of_ble_eq_true rfl) (Nat.zero_le _) (Nat.zero_le _) dX4_followBounds_28 ?_
      refine lv_topi (fun m2 em2 => ?_)
      have hw := hw m2 em2
      have hin := hw.1
      have hw := hw.2
      refine xS_X4_ways hx hb hI hS hin dX4_followBounds_31 (fun σ3 eσ3 H locs hI hS => ?_)
      have hw := hw σ3 eσ3
      obtain ⟨a4, ea4⟩ : ∃ y : Int32, y = x2 + 2 := ⟨_, rfl⟩
      have hw := hw a4 ea4
      refine lv_iinc (v := a4) (lv' := [(2, .int a4), (0, .ref (g.2.1 5)), (1, .int x1)]) hx hb dX4_followBounds_32 hl (k := 2) rfl (by rw [ea4]; rfl) (by decide) rfl (fun ls hl => ?_)
      refine lv_goto (tgt := 3) hx hb dX4_followBounds_35 (by decide) ?_
      rw [hK3] at hw
      exact ih3 _ _ _ _ _ _ hI hS (lv_sub hl [1, 2, 0] rfl) hw
  exact key3 n3 _ _ _ _ _ _ hI hS (lv_sub hl [1, 2, 0] rfl) hw
set_option maxRecDepth 100000 in
set_option maxHeartbeats 4000000 in
theorem cx_X4_startAt (l : Launch) (g : wG) {σ : wS} {x1 : Int32} {x2 : Int32} {Q : wS → Prop} (hw : wx_X4_startAt Q x1 x2 σ) : Met l yX4_startAt wsX4_startAt ({ frames := 3, cells := 0, slots := 0, locals := 67 } : Room) (va_Pc [.ref (g.2.1 5), .int x1, .int x2] (fun U => xIn g σ U.heap U)) (va_Qv Q (fun σ1 t => xIn g σ1 t.heap t) (xA g)) 0 0 (xA g) := by
  refine gOfV (maxL := 3) (xMv g) (by decide) rfl (Nat.le_of_ble_eq_true rfl) ?_
  intro p e s m args below meth c QQ hx hb hml hown hts hret ls hl hI
  have hl : lv_has ls 3 [(0, .ref (g.2.1 5)), (1, .int x1), (2, .int x2)] := hl
  have hS : va_S (xA g) s.heap s.heap [] := va_S.rf
  have hF : ∀ w ∈ wsX40, w.before args s = true := fun w h => hts w (List.mem_cons_of_mem _ (List.mem_append_right _ h))
  refine lv_aload_n hx hb dX4_startAt_0 rfl (lv_at hl 0 rfl) ?_
  refine xG_X4_ways hx hb hF hown hI (hts _ (List.mem_of_getElem? (i := 1) rfl : (Cond.fieldLink RX4 21 "PlateRoom$TimeGraph" "ways" "[I" : Cond) ∈ wsX4_startAt)) dX4_startAt_1 ?_
  refine lv_ldc (own := RX4) hx hb hown (hts _ (List.mem_of_getElem? (i := 2) rfl : (Cond.constant RX4 45 (536870912) : Cond) ∈ wsX4_startAt)) dX4_startAt_4 ?_
  refine gSv (cx_J7_fill_53178_ways l g (σ := σ) hw) (xMv g) ⟨hx, hb, hml, hown, hts⟩ (va_cwS 2 hts gX4_startAt_J7_fill_53178 rfl rfl rfl (by decide +kernel) ⟨Nat.le_of_ble_eq_true rfl, Nat.le_of_ble_eq_true rfl⟩) hI hS hl.1 rfl rfl (Nat.le_of_ble_eq_true rfl) dX4_startAt_6 (fun σ1 H locs hw hI hS => ?_)
  refine lv_aload_n hx hb dX4_startAt_9 rfl (lv_at hl 0 rfl) ?_
  refine xG_X4_ways hx hb hF hown hI (hts _ (List.mem_of_getElem? (i := 1) rfl : (Cond.fieldLink RX4 21 "PlateRoom$TimeGraph" "ways" "[I" : Cond) ∈ wsX4_startAt)) dX4_startAt_10 ?_
  refine lv_iload_n hx hb dX4_startAt_13 rfl (lv_at hl 1 rfl) ?_
  refine lv_iconst (v := 0) hx hb dX4_startAt_14 (by decide) ?_
  have hin := hw.1
  have hw := hw.2
  refine xS_X4_ways hx hb hI hS hin dX4_startAt_15 (fun σ2 eσ2 H locs hI hS => ?_)
  have hw := hw σ2 eσ2
  refine lv_aload_n hx hb dX4_startAt_16 rfl (lv_at hl 0 rfl) ?_
  refine lv_iload_n hx hb dX4_startAt_17 rfl (lv_at hl 2 rfl) ?_
  refine gVv (cx_X4_followBounds l g (σ := σ2) hw) (xMv g) ⟨hx, hb, hml, hown, hts⟩ (cwV 1 hts gX4_startAt_X4_followBounds rfl rfl rfl (by decide +kernel) ⟨Nat.le_of_ble_eq_true rfl, Nat.le_of_ble_eq_true rfl⟩) (xRecv_X4 hI) hI hS hl.1 rfl rfl (Nat.le_of_ble_eq_true rfl) dX4_startAt_18 (fun σ3 H locs hw hI hS => ?_)
  exact hret _ _ _ _ _ dX4_startAt_21 hw hI hS
set_option maxRecDepth 100000 in
set_option maxHeartbeats 4000000 in
theorem cx_X4_followLimits_ways (l : Launch) (g : wG) {σ : wS} {x2 : Int32} {Q : Int32 → wS → Prop} (hw : wx_X4_followLimits_ways Q x2 σ) : Met l yX4_followLimits wsX4_followLimits ({ frames := 0, cells := 0, slots := 0, locals := 0 } : Room) (va_Pc [.ref (g.2.1 5), .ref (g.2.1 32), .int x2] (fun U => xIn g σ U.heap U)) (va_Qi Q (fun σ1 t => xIn g σ1 t.heap t) (xA g)) 0 0 (xA g) := by
  refine gOfZ (maxL := 8) (xMv g) (by decide) rfl (Nat.le_of_ble_eq_true rfl) ?_
  intro p e s m args below meth c QQ hx hb hml hown hts hret ls hl hI
  have hl : lv_has ls 8 [(0, .ref (g.2.1 5)), (1, .ref (g.2.1 32)), (2, .int x2)] := hl
  have hS : va_S (xA g) s.heap s.heap [] := va_S.rf
  have hF : ∀ w ∈ wsX40, w.before args s = true := fun w h => hts w (List.mem_cons_of_mem _ (List.mem_append_right _ h))
  refine lv_iconst (v := 0) hx hb dX4_followLimits_0 (by decide) ?_
  refine lv_istore_n (lv' := [(3, .int 0), (0, .ref (g.2.1 5)), (1, .ref (g.2.1 32)), (2, .int x2)]) hx hb dX4_followLimits_1 rfl hl (by decide) rfl (fun ls hl => ?_)
  refine lv_iconst (v := 0) hx hb dX4_followLimits_2 (by decide) ?_
  refine lv_istore (lv' := [(4, .int 0), (3, .int 0), (0, .ref (g.2.1 5)), (1, .ref (g.2.1 32)), (2, .int x2)]) hx hb dX4_followLimits_3 hl (by decide) rfl (fun ls hl => ?_)
  obtain ⟨n5, hw⟩ := hw
  have key5 : ∀ (n : Nat) (x2 : Int32) (x3 : Int32) (x4 : Int32) (σ : wS) (H : Heap) (locs : List Loc) (ls : Array Slot), xIn g σ H s → va_S (xA g) s.heap H locs → lv_has ls 8 [(0, .ref (g.2.1 5)), (1, .ref (g.2.1 32)), (2, .int x2), (3, .int x3), (4, .int x4)] → wloop (wx_X4_followLimits_ways_L5 Q x2) n (x3, x4, σ) → W p l e ({ frames := 0, cells := 0, slots := 0, locals := 0 } : Room) s m args below meth c H locs 0 0 QQ (F0 m 5 ls []) := by
    intro n
    induction n with
    | zero => intro x2 x3 x4 σ H locs ls hI hS hl hw; exact False.elim hw
    | succ n ih =>
      intro x2 x3 x4 σ H locs ls hI hS hl hw
      obtain ⟨K5, hK5⟩ : ∃ K, K = wloop (wx_X4_followLimits_ways_L5 Q x2) n := ⟨_, rfl⟩
      have hw : wx_X4_followLimits_ways_L5 Q x2 K5 (x3, x4, σ) := by rw [hK5]; exact hw
      dsimp only [wx_X4_followLimits_ways_L5] at hw
      have ih5 := ih
      refine lv_iload hx hb dX4_followLimits_5 (lv_at hl 4 rfl) ?_
      refine lv_aload_n hx hb dX4_followLimits_7 rfl (lv_at hl 0 rfl) ?_
      refine xG_X4_limitCount hx hb hF hown hI (hts _ (List.mem_of_getElem? (i := 1) rfl : (Cond.fieldLink RX4 27 "PlateRoom$TimeGraph" "limitCount" "I" : Cond) ∈ wsX4_followLimits)) dX4_followLimits_8 ?_
      refine lv_icmp_ge (tgt := 99) hx hb dX4_followLimits_11 (by decide) (fun hc => ?_) (fun hc => ?_)
      · have hw := hw.1 hc
        refine lv_iload_n hx hb dX4_followLimits_99 rfl (lv_at hl 3 rfl) ?_
        exact hret _ _ _ _ _ _ dX4_followLimits_100 hw.1 hw.2 hI hS
      have hw := hw.2 hc
      refine lv_aload_n hx hb dX4_followLimits_14 rfl (lv_at hl 0 rfl) ?_
      refine xG_X4_tails hx hb hF hown hI (hts _ (List.mem_of_getElem? (i := 2) rfl : (Cond.fieldLink RX4 9 "PlateRoom$TimeGraph" "tails" "[I" : Cond) ∈ wsX4_followLimits)) dX4_followLimits_15 ?_
      refine lv_iload hx hb dX4_followLimits_18 (lv_at hl 4 rfl) ?_
      have hin := hw.1
      have hw := hw.2
      refine xR_X4_tails hx hb hI hin dX4_followLimits_20 ?_
      refine lv_topi (fun a1 ea1 => ?_)
      have hw := hw a1 ea1
      refine lv_istore (lv' := [(5, .int a1), (0, .ref (g.2.1 5)), (1, .ref (g.2.1 32)), (2, .int x2), (3, .int x3), (4, .int x4)]) hx hb dX4_followLimits_21 hl (by decide) rfl (fun ls hl => ?_)
      refine lv_aload_n hx hb dX4_followLimits_23 rfl (lv_at hl 1 rfl) ?_
      refine xG_X4_heads hx hb hF hown hI (hts _ (List.mem_of_getElem? (i := 3) rfl : (Cond.fieldLink RX4 15 "PlateRoom$TimeGraph" "heads" "[I" : Cond) ∈ wsX4_followLimits)) dX4_followLimits_24 ?_
      refine lv_iload hx hb dX4_followLimits_27 (lv_at hl 5 rfl) ?_
      have hin := hw.1
      have hw := hw.2
      refine xR_X4_heads hx hb hI hin dX4_followLimits_29 ?_
      refine lv_topi (fun a2 ea2 => ?_)
      have hw := hw a2 ea2
      refine lv_istore (lv' := [(6, .int a2), (5, .int a1), (0, .ref (g.2.1 5)), (1, .ref (g.2.1 32)), (2, .int x2), (3, .int x3), (4, .int x4)]) hx hb dX4_followLimits_30 hl (by decide) rfl (fun ls hl => ?_)
      refine lv_iload hx hb dX4_followLimits_32 (lv_at hl 1 rfl) ?_
      refine lv_iload_n hx hb dX4_followLimits_34 rfl (lv_at hl 4 rfl) ?_
      refine lv_icmp_lt (tgt := 93) hx hb dX4_followLimits_35 (by decide) (fun hc => ?_) (fun hc => ?_)
      · have hw := hw.1 hc
        obtain ⟨a3, ea3⟩ : ∃ y : Int32, y = x4 + 1 := ⟨_, rfl⟩
        have hw := hw a3 ea3
        refine lv_iinc (v := a3) (lv' := [(4, .int a3), (6, .int a2), (5, .int a1), (0, .ref (g.2.1 5)), (1, .ref (g.2.1 32)), (2, .int x2), (3, .int x3)]) hx hb dX4_followLimits_93 hl (k := 6) rfl (by rw [ea3]; rfl) (by decide) rfl (fun ls hl => ?_)
        refine lv_goto (tgt := 5) hx hb dX4_followLimits_96 (by decide) ?_
        rw [hK5] at hw
        exact ih5 _ _ _ _ _ _ _ hI hS (lv_sub hl [3, 4, 5, 6, 0] rfl) hw
      have hw := hw.2 hc
      refine lv_iload hx hb dX4_followLimits_38 (lv_at hl 0 rfl) ?_
      refine lv_iload_n hx hb dX4_followLimits_40 rfl (lv_at hl 4 rfl) ?_
      refine lv_icmp_lt (tgt := 93) hx hb dX4_followLimits_41 (by decide) (fun hc => ?_) (fun hc => ?_)
      · have hw := hw.1 hc
        obtain ⟨a4, ea4⟩ : ∃ y : Int32, y = x4 + 1 := ⟨_, rfl⟩
        have hw := hw a4 ea4
        refine lv_iinc (v := a4) (lv' := [(4, .int a4), (6, .int a2), (5, .int a1), (0, .ref (g.2.1 5)), (1, .ref (g.2.1 32)), (2, .int x2), (3, .int x3)]) hx hb dX4_followLimits_93 hl (k := 6) rfl (by rw [ea4]; rfl) (by decide) rfl (fun ls hl => ?_)
        refine lv_goto (tgt := 5) hx hb dX4_followLimits_96 (by decide) ?_
        rw [hK5] at hw
        exact ih5 _ _ _ _ _ _ _ hI hS (lv_sub hl [3, 4, 5, 6, 0] rfl) hw
      have hw := hw.2 hc
      refine lv_aload_n hx hb dX4_followLimits_44 rfl (lv_at hl 3 rfl) ?_
      refine lv_iload hx hb dX4_followLimits_45 (lv_at hl 1 rfl) ?_
      have hin := hw.1
      have hw := hw.2
      refine xR_X4_ways hx hb hI hin dX4_followLimits_47 ?_
      refine lv_ldc (own := RX4) hx hb hown (hts _ (List.mem_of_getElem? (i := 4) rfl : (Cond.constant RX4 45 (536870912) : Cond) ∈ wsX4_followLimits)) dX4_followLimits_48 ?_
      refine lv_icmp_lt (tgt := 56) hx hb dX4_followLimits_50 (by decide) (fun hc => ?_) (fun hc => ?_)
      · have hw := hw.1 hc
        refine lv_aload_n hx hb dX4_followLimits_56 rfl (lv_at hl 3 rfl) ?_
        refine lv_iload hx hb dX4_followLimits_57 (lv_at hl 1 rfl) ?_
        have hin := hw.1
        have hw := hw.2
        refine xR_X4_ways hx hb hI hin dX4_followLimits_59 ?_
        refine lv_aload_n hx hb dX4_followLimits_60 rfl (lv_at hl 2 rfl) ?_
        refine xG_X4_lengths hx hb hF hown hI (hts _ (List.mem_of_getElem? (i := 5) rfl : (Cond.fieldLink RX4 18 "PlateRoom$TimeGraph" "lengths" "[I" : Cond) ∈ wsX4_followLimits)) dX4_followLimits_61 ?_
        refine lv_iload hx hb dX4_followLimits_64 (lv_at hl 6 rfl) ?_
        have hin := hw.1
        have hw := hw.2
        refine xR_X4_lengths hx hb hI hin dX4_followLimits_66 ?_
        refine lv_iadd hx hb dX4_followLimits_67 ?_
        refine lv_topi (fun a5 ea5 => ?_)
        have hw := hw a5 ea5
        refine lv_istore (lv' := [(7, .int a5), (6, .int a2), (5, .int a1), (0, .ref (g.2.1 5)), (1, .ref (g.2.1 32)), (2, .int x2), (3, .int x3), (4, .int x4)]) hx hb dX4_followLimits_68 hl (by decide) rfl (fun ls hl => ?_)
        refine lv_iload hx hb dX4_followLimits_70 (lv_at hl 0 rfl) ?_
        refine lv_aload_n hx hb dX4_followLimits_72 rfl (lv_at hl 3 rfl) ?_
        refine xG_X4_ways hx hb hF hown hI (hts _ (List.mem_of_getElem? (i := 6) rfl : (Cond.fieldLink RX4 21 "PlateRoom$TimeGraph" "ways" "[I" : Cond) ∈ wsX4_followLimits)) dX4_followLimits_73 ?_
        refine lv_iload hx hb dX4_followLimits_76 (lv_at hl 1 rfl) ?_
        have hin := hw.1
        have hw := hw.2
        refine xR_X4_ways hx hb hI hin dX4_followLimits_78 ?_
        refine lv_icmp_ge (tgt := 93) hx hb dX4_followLimits_79 (by decide) (fun hc => ?_) (fun hc => ?_)
        · have hw := hw.1 hc
          obtain ⟨a6, ea6⟩ : ∃ y : Int32, y = x4 + 1 := ⟨_, rfl⟩
          have hw := hw a6 ea6
          refine lv_iinc (v := a6) (lv' := [(4, .int a6), (7, .int a5), (6, .int a2), (5, .int a1), (0, .ref (g.2.1 5)), (1, .ref (g.2.1 32)), (2, .int x2), (3, .int x3)]) hx hb dX4_followLimits_93 hl (k := 7) rfl (by rw [ea6]; rfl) (by decide) rfl (fun ls hl => ?_)
          refine lv_goto (tgt := 5) hx hb dX4_followLimits_96 (by decide) ?_
          rw [hK5] at hw
          exact ih5 _ _ _ _ _ _ _ hI hS (lv_sub hl [4, 5, 6, 7, 0] rfl) hw
        have hw := hw.2 hc
        refine lv_aload_n hx hb dX4_followLimits_82 rfl (lv_at hl 3 rfl) ?_
        refine xG_X4_ways hx hb hF hown hI (hts _ (List.mem_of_getElem? (i := 6) rfl : (Cond.fieldLink RX4 21 "PlateRoom$TimeGraph" "ways" "[I" : Cond) ∈ wsX4_followLimits)) dX4_followLimits_83 ?_
        refine lv_iload hx hb dX4_followLimits_86 (lv_at hl 1 rfl) ?_
        refine lv_iload hx hb dX4_followLimits_88 (lv_at hl 0 rfl) ?_
        have hin := hw.1
        have hw := hw.2
        refine xS_X4_ways hx hb hI hS hin dX4_followLimits_90 (fun σ7 eσ7 H locs hI hS => ?_)
        have hw := hw σ7 eσ7
        refine lv_iconst (v := 1) hx hb dX4_followLimits_91 (by decide) ?_
        refine lv_istore_n (lv' := [(3, .int 1), (7, .int a5), (6, .int a2), (5, .int a1), (0, .ref (g.2.1 5)), (1, .ref (g.2.1 32)), (2, .int x2), (4, .int x4)]) hx hb dX4_followLimits_92 rfl hl (by decide) rfl (fun ls hl => ?_)
        obtain ⟨a8, ea8⟩ : ∃ y : Int32, y = x4 + 1 := ⟨_, rfl⟩
        have hw := hw a8 ea8
        refine lv_iinc (v := a8) (lv' := [(4, .int a8), (3, .int 1), (7, .int a5), (6, .int a2), (5, .int a1), (0, .ref (g.2.1 5)), (1, .ref (g.2.1 32)), (2, .int x2)]) hx hb dX4_followLimits_93 hl (k := 7) rfl (by rw [ea8]; rfl) (by decide) rfl (fun ls hl => ?_)
        refine lv_goto (tgt := 5) hx hb dX4_followLimits_96 (by decide) ?_
        rw [hK5] at hw
        exact ih5 _ _ _ _ _ _ _ hI hS (lv_sub hl [5, 6, 7, 1, 0] rfl) hw
      have hw := hw.2 hc
      refine lv_goto (tgt := 93) hx hb dX4_followLimits_53 (by decide) ?_
      obtain ⟨a9, ea9⟩ : ∃ y : Int32, y = x4 + 1 := ⟨_, rfl⟩
      have hw := hw a9 ea9
      refine lv_iinc (v := a9) (lv' := [(4, .int a9), (6, .int a2), (5, .int a1), (0, .ref (g.2.1 5)), (1, .ref (g.2.1 32)), (2, .int x2), (3, .int x3)]) hx hb dX4_followLimits_93 hl (k := 6) rfl (by rw [ea9]; rfl) (by decide) rfl (fun ls hl => ?_)
      refine lv_goto (tgt := 5) hx hb dX4_followLimits_96 (by decide) ?_
      rw [hK5] at hw
      exact ih5 _ _ _ _ _ _ _ hI hS (lv_sub hl [3, 4, 5, 6, 0] rfl) hw
  exact key5 n5 _ _ _ _ _ _ _ hI hS (lv_sub hl [2, 3, 4, 1, 0] rfl) hw
set_option maxRecDepth 100000 in
set_option maxHeartbeats 4000000 in
theorem cx_X4_measureFrom (l : Launch) (g : wG) {σ : wS} {x1 : Int32} {Q : Int32 → wS → Prop} (hw : wx_X4_measureFrom Q x1 σ) : Met l yX4_measureFrom wsX4_measureFrom ({ frames := 4, cells := 0, slots := 0, locals := 89 } : Room) (va_Pc [.ref (g.2.1 5), .int x1] (fun U => xIn g σ U.heap U)) (va_Qi Q (fun σ1 t => xIn g σ1 t.heap t) (xA g)) 0 0 (xA g) := by
  refine gOfZ (maxL := 3) (xMv g) (by decide) rfl (Nat.le_of_ble_eq_true rfl) ?_
  intro p e s m args below meth c QQ hx hb hml hown hts hret ls hl hI
  have hl : lv_has ls 3 [(0, .ref (g.2.1 5)), (1, .int x1)] := hl
  have hS : va_S (xA g) s.heap s.heap [] := va_S.rf
  have hF : ∀ w ∈ wsX40, w.before args s = true := fun w h => hts w (List.mem_cons_of_mem _ (List.mem_append_right _ h))
  refine lv_iload_n hx hb dX4_measureFrom_0 rfl (lv_at hl 1 rfl) ?_
  refine lv_if_lt (tgt := 10) hx hb dX4_measureFrom_1 (by decide) (fun hc => ?_) (fun hc => ?_)
  · have hw := hw.1 hc
    refine lv_iconst (v := 0) hx hb dX4_measureFrom_10 (by decide) ?_
    exact hret _ _ _ _ _ _ dX4_measureFrom_11 isB0 hw hI hS
  have hw := hw.2 hc
  refine lv_iload_n hx hb dX4_measureFrom_4 rfl (lv_at hl 1 rfl) ?_
  refine lv_bipush (v := 53) hx hb dX4_measureFrom_5 (by decide) ?_
  refine lv_icmp_lt (tgt := 12) hx hb dX4_measureFrom_7 (by decide) (fun hc => ?_) (fun hc => ?_)
  · have hw := hw.1 hc
    refine lv_aload_n hx hb dX4_measureFrom_12 rfl (lv_at hl 0 rfl) ?_
    refine lv_iload_n hx hb dX4_measureFrom_13 rfl (lv_at hl 1 rfl) ?_
    refine lv_iconst (v := 0) hx hb dX4_measureFrom_14 (by decide) ?_
    refine gVv (cx_X4_startAt l g (σ := σ) hw) (xMv g) ⟨hx, hb, hml, hown, hts⟩ (cwV 2 hts gX4_measureFrom_X4_startAt rfl rfl rfl (by decide +kernel) ⟨Nat.le_of_ble_eq_true rfl, Nat.le_of_ble_eq_true rfl⟩) (xRecv_X4 hI) hI hS hl.1 rfl rfl (Nat.le_of_ble_eq_true rfl) dX4_measureFrom_15 (fun σ1 H locs hw hI hS => ?_)
    refine lv_iconst (v := 0) hx hb dX4_measureFrom_18 (by decide) ?_
    refine lv_istore_n (lv' := [(2, .int 0), (0, .ref (g.2.1 5)), (1, .int x1)]) hx hb dX4_measureFrom_19 rfl hl (by decide) rfl (fun ls hl => ?_)
    obtain ⟨n20, hw⟩ := hw
    have key20 : ∀ (n : Nat) (x1 : Int32) (x2 : Int32) (σ : wS) (H : Heap) (locs : List Loc) (ls : Array Slot), xIn g σ H s → va_S (xA g) s.heap H locs → lv_has ls 3 [(0, .ref (g.2.1 5)), (1, .int x1), (2, .int x2)] → wloop (wx_X4_measureFrom_L20 Q x1) n (x2, σ) → W p l e ({ frames := 4, cells := 0, slots := 0, locals := 89 } : Room) s m args below meth c H locs 0 0 QQ (F0 m 20 ls []) := by
      intro n
      induction n with
      | zero => intro x1 x2 σ H locs ls hI hS hl hw; exact False.elim hw
      | succ n ih =>
        intro x1 x2 σ H locs ls hI hS hl hw
        obtain ⟨K20, hK20⟩ : ∃ K, K = wloop (wx_X4_measureFrom_L20 Q x1) n := ⟨_, rfl⟩
        have hw : wx_X4_measureFrom_L20 Q x1 K20 (x2, σ) := by rw [hK20]; exact hw
        dsimp only [wx_X4_measureFrom_L20] at hw
        have ih20 := ih
        refine lv_iload_n hx hb dX4_measureFrom_20 rfl (lv_at hl 2 rfl) ?_
        refine lv_bipush (v := 53) hx hb dX4_measureFrom_21 (by decide) ?_
        refine lv_icmp_gt (tgt := 62) hx hb dX4_measureFrom_23 (by decide) (fun hc => ?_) (fun hc => ?_)
        · have hw := hw.1 hc
          refine lv_iconst (v := 0) hx hb dX4_measureFrom_62 (by decide) ?_
          exact hret _ _ _ _ _ _ dX4_measureFrom_63 isB0 hw hI hS
        have hw := hw.2 hc
        refine lv_aload_n hx hb dX4_measureFrom_26 rfl (lv_at hl 0 rfl) ?_
        refine lv_aload_n hx hb dX4_measureFrom_27 rfl (lv_at hl 0 rfl) ?_
        refine xG_X4_ways hx hb hF hown hI (hts _ (List.mem_of_getElem? (i := 1) rfl : (Cond.fieldLink RX4 21 "PlateRoom$TimeGraph" "ways" "[I" : Cond) ∈ wsX4_measureFrom)) dX4_measureFrom_28 ?_
        refine lv_iconst (v := 0) hx hb dX4_measureFrom_31 (by decide) ?_
        refine gVi (cx_X4_followLimits_ways l g (σ := σ) hw) (xMv g) ⟨hx, hb, hml, hown, hts⟩ (cwV 2 hts gX4_measureFrom_X4_followLimits rfl rfl rfl (by decide +kernel) ⟨Nat.le_of_ble_eq_true rfl, Nat.le_of_ble_eq_true rfl⟩) (xRecv_X4 hI) hI hS hl.1 rfl rfl (Nat.le_of_ble_eq_true rfl) dX4_measureFrom_32 (fun r1 σ2 H locs hw hI hS => ?_)
        refine lv_if_ne (tgt := 40) hx hb dX4_measureFrom_35 (by decide) (fun hc => ?_) (fun hc => ?_)
        · have hw := hw.1 hc
          refine lv_aload_n hx hb dX4_measureFrom_40 rfl (lv_at hl 0 rfl) ?_
          refine lv_iconst (v := 0) hx hb dX4_measureFrom_41 (by decide) ?_
          refine gVv (cx_X4_followBounds l g (σ := σ2) hw) (xMv g) ⟨hx, hb, hml, hown, hts⟩ (cwV 1 hts gX4_measureFrom_X4_followBounds rfl rfl rfl (by decide +kernel) ⟨Nat.le_of_ble_eq_true rfl, Nat.le_of_ble_eq_true rfl⟩) (xRecv_X4 hI) hI hS hl.1 rfl rfl (Nat.le_of_ble_eq_true rfl) dX4_measureFrom_42 (fun σ3 H locs hw hI hS => ?_)
          refine lv_aload_n hx hb dX4_measureFrom_45 rfl (lv_at hl 0 rfl) ?_
          refine xG_X4_ways hx hb hF hown hI (hts _ (List.mem_of_getElem? (i := 1) rfl : (Cond.fieldLink RX4 21 "PlateRoom$TimeGraph" "ways" "[I" : Cond) ∈ wsX4_measureFrom)) dX4_measureFrom_46 ?_
          refine lv_iload_n hx hb dX4_measureFrom_49 rfl (lv_at hl 1 rfl) ?_
          have hin := hw.1
          have hw := hw.2
          refine xR_X4_ways hx hb hI hin dX4_measureFrom_50 ?_
          refine lv_if_ge (tgt := 56) hx hb dX4_measureFrom_51 (by decide) (fun hc => ?_) (fun hc => ?_)
          · have hw := hw.1 hc
            obtain ⟨a4, ea4⟩ : ∃ y : Int32, y = x2 + 1 := ⟨_, rfl⟩
            have hw := hw a4 ea4
            refine lv_iinc (v := a4) (lv' := [(2, .int a4), (0, .ref (g.2.1 5)), (1, .int x1)]) hx hb dX4_measureFrom_56 hl (k := 2) rfl (by rw [ea4]; rfl) (by decide) rfl (fun ls hl => ?_)
            refine lv_goto (tgt := 20) hx hb dX4_measureFrom_59 (by decide) ?_
            rw [hK20] at hw
            exact ih20 _ _ _ _ _ _ hI hS (lv_sub hl [1, 2, 0] rfl) hw
          have hw := hw.2 hc
          refine lv_iconst (v := 0) hx hb dX4_measureFrom_54 (by decide) ?_
          exact hret _ _ _ _ _ _ dX4_measureFrom_55 isB0 hw hI hS
        have hw := hw.2 hc
        refine lv_iconst (v := 1) hx hb dX4_measureFrom_38 (by decide) ?_
        exact hret _ _ _ _ _ _ dX4_measureFrom_39 isB1 hw hI hS
    exact key20 n20 _ _ _ _ _ _ hI hS (lv_sub hl [1, 2, 0] rfl) hw
  have hw := hw.2 hc
  refine lv_iconst (v := 0) hx hb dX4_measureFrom_10 (by decide) ?_
  exact hret _ _ _ _ _ _ dX4_measureFrom_11 isB0 hw hI hS
set_option maxRecDepth 100000 in
set_option maxHeartbeats 4000000 in
theorem cx_X4_wayTo (l : Launch) (g : wG) {σ : wS} {x1 : Int32} {Q : Int32 → Prop} (hw : wx_X4_wayTo Q x1 σ) : Met l yX4_wayTo wsX4_wayTo ({ frames := 0, cells := 0, slots := 0, locals := 0 } : Room) (va_Pc [.ref (g.2.1 5), .int x1] (fun U => xIn g σ U.heap U)) (va_Qi (fun r σ1 => Q r ∧ σ1 = σ) (fun σ1 t => xIn g σ1 t.heap t) (xA g)) 0 0 (xA g) := by
  refine gOfI (maxL := 2) (xMv g) (by decide) rfl (Nat.le_of_ble_eq_true rfl) ?_
  intro p e s m args below meth c QQ hx hb hml hown hts hret ls hl hI
  have hl : lv_has ls 2 [(0, .ref (g.2.1 5)), (1, .int x1)] := hl
  have hS : va_S (xA g) s.heap s.heap [] := va_S.rf
  have hF : ∀ w ∈ wsX40, w.before args s = true := fun w h => hts w (List.mem_cons_of_mem _ (List.mem_append_right _ h))
  refine lv_iload_n hx hb dX4_wayTo_0 rfl (lv_at hl 1 rfl) ?_
  refine lv_if_lt (tgt := 19) hx hb dX4_wayTo_1 (by decide) (fun hc => ?_) (fun hc => ?_)
  · have hw := hw.1 hc
    refine lv_ldc (own := RX4) hx hb hown (hts _ (List.mem_of_getElem? (i := 2) rfl : (Cond.constant RX4 45 (536870912) : Cond) ∈ wsX4_wayTo)) dX4_wayTo_19 ?_
    exact hret _ _ _ _ _ _ dX4_wayTo_21 ⟨hw, rfl⟩ hI hS
  have hw := hw.2 hc
  refine lv_iload_n hx hb dX4_wayTo_4 rfl (lv_at hl 1 rfl) ?_
  refine lv_bipush (v := 53) hx hb dX4_wayTo_5 (by decide) ?_
  refine lv_icmp_ge (tgt := 19) hx hb dX4_wayTo_7 (by decide) (fun hc => ?_) (fun hc => ?_)
  · have hw := hw.1 hc
    refine lv_ldc (own := RX4) hx hb hown (hts _ (List.mem_of_getElem? (i := 2) rfl : (Cond.constant RX4 45 (536870912) : Cond) ∈ wsX4_wayTo)) dX4_wayTo_19 ?_
    exact hret _ _ _ _ _ _ dX4_wayTo_21 ⟨hw, rfl⟩ hI hS
  have hw := hw.2 hc
  refine lv_aload_n hx hb dX4_wayTo_10 rfl (lv_at hl 0 rfl) ?_
  refine xG_X4_ways hx hb hF hown hI (hts _ (List.mem_of_getElem? (i := 1) rfl : (Cond.fieldLink RX4 21 "PlateRoom$TimeGraph" "ways" "[I" : Cond) ∈ wsX4_wayTo)) dX4_wayTo_11 ?_
  refine lv_iload_n hx hb dX4_wayTo_14 rfl (lv_at hl 1 rfl) ?_
  have hin := hw.1
  have hw := hw.2
  refine xR_X4_ways hx hb hI hin dX4_wayTo_15 ?_
  refine lv_goto (tgt := 21) hx hb dX4_wayTo_16 (by decide) ?_
  exact hret _ _ _ _ _ _ dX4_wayTo_21 ⟨hw, rfl⟩ hI hS
set_option maxRecDepth 100000 in
set_option maxHeartbeats 4000000 in
theorem cx_X5_endOfSpan (l : Launch) (g : wG) {σ : wS} {x1 : Int32} {x2 : Int32} {x3 : Int32} {Q : Int32 → wS → Prop} (hw : wx_X5_endOfSpan Q x1 x2 x3 σ) : Met l yX5_endOfSpan wsX5_endOfSpan ({ frames := 5, cells := 0, slots := 0, locals := 111 } : Room) (va_Pc [.ref (g.2.1 0), .int x1, .int x2, .int x3] (fun U => xIn g σ U.heap U)) (va_Qi Q (fun σ1 t => xIn g σ1 t.heap t) (xA g)) 0 0 (xA g) := by
  refine gOfI (maxL := 4) (xMv g) (by decide) rfl (Nat.le_of_ble_eq_true rfl) ?_
  intro p e s m args below meth c QQ hx hb hml hown hts hret ls hl hI
  have hl : lv_has ls 4 [(0, .ref (g.2.1 0)), (1, .int x1), (2, .int x2), (3, .int x3)] := hl
  have hS : va_S (xA g) s.heap s.heap [] := va_S.rf
  have hF : ∀ w ∈ wsX50, w.before args s = true := fun w h => hts w (List.mem_cons_of_mem _ (List.mem_append_left _ (List.mem_append_left _ (List.mem_append_right _ h))))
  have j26 : ∀ (x1 : Int32) (x2 : Int32) (s1 : Int32) (σ : wS) (H : Heap) (locs : List Loc) (ls : Array Slot), xIn g σ H s → va_S (xA g) s.heap H locs → lv_has ls 4 [(0, .ref (g.2.1 0)), (1, .int x1), (2, .int x2)] → wx_X5_endOfSpan_J26 Q x1 x2 s1 σ → W p l e ({ frames := 5, cells := 0, slots := 0, locals := 111 } : Room) s m args below meth c H locs 0 0 QQ (F0 m 26 ls [.int s1, .ref (g.2.1 5)]) := by
    intro x1 x2 s1 σ H locs ls hI hS hl hw
    refine gVi (cx_X4_measureFrom l g (σ := σ) hw) (xMv g) ⟨hx, hb, hml, hown, hts⟩ (cwV 1 hts gX5_endOfSpan_X4_measureFrom rfl rfl rfl (by decide +kernel) ⟨Nat.le_of_ble_eq_true rfl, Nat.le_of_ble_eq_true rfl⟩) (xRecv_X4 hI) hI hS hl.1 rfl rfl (Nat.le_of_ble_eq_true rfl) dX5_endOfSpan_26 (fun r1 σ2 H locs hw hI hS => ?_)
    refine lv_if_ne (tgt := 38) hx hb dX5_endOfSpan_29 (by decide) (fun hc => ?_) (fun hc => ?_)
    · have hw := hw.1 hc
      refine lv_aload_n hx hb dX5_endOfSpan_38 rfl (lv_at hl 0 rfl) ?_
      refine lv_iload_n hx hb dX5_endOfSpan_39 rfl (lv_at hl 2 rfl) ?_
      refine lv_if_eq (tgt := 54) hx hb dX5_endOfSpan_40 (by decide) (fun hc => ?_) (fun hc => ?_)
      · have hw := hw.1 hc
        refine lv_aload_n hx hb dX5_endOfSpan_54 rfl (lv_at hl 0 rfl) ?_
        refine xG_X5_graph hx hb hF hown hI (hts _ (List.mem_of_getElem? (i := 1) rfl : (Cond.fieldLink RX5 19 "PlateRoom" "graph" "LPlateRoom$TimeGraph;" : Cond) ∈ wsX5_endOfSpan)) dX5_endOfSpan_55 ?_
        refine lv_iconst (v := 0) hx hb dX5_endOfSpan_58 (by decide) ?_
        refine gVi (cx_X4_wayTo l g (σ := σ2) hw) (xMv g) ⟨hx, hb, hml, hown, hts⟩ (cwV 1 hts gX5_endOfSpan_X4_wayTo rfl rfl rfl (by decide +kernel) ⟨Nat.le_of_ble_eq_true rfl, Nat.le_of_ble_eq_true rfl⟩) (xRecv_X4 hI) hI hS hl.1 rfl rfl (Nat.le_of_ble_eq_true rfl) dX5_endOfSpan_59 (fun r3 σ4 H locs hw hI hS => ?_)
        obtain ⟨hw, hq⟩ := hw
        rw [hq] at hI
        refine lv_ineg hx hb dX5_endOfSpan_62 ?_
        refine gVi (cx_X5_answer l g (σ := σ2) hw) (xMv g) ⟨hx, hb, hml, hown, hts⟩ (cwV 1 hts gX5_endOfSpan_X5_answer rfl rfl rfl (by decide +kernel) ⟨Nat.le_of_ble_eq_true rfl, Nat.le_of_ble_eq_true rfl⟩) (xRecv_X5 hI) hI hS hl.1 rfl rfl (Nat.le_of_ble_eq_true rfl) dX5_endOfSpan_63 (fun r5 σ6 H locs hw hI hS => ?_)
        exact hret _ _ _ _ _ _ dX5_endOfSpan_66 hw hI hS
      have hw := hw.2 hc
      refine lv_aload_n hx hb dX5_endOfSpan_43 rfl (lv_at hl 0 rfl) ?_
      refine xG_X5_graph hx hb hF hown hI (hts _ (List.mem_of_getElem? (i := 1) rfl : (Cond.fieldLink RX5 19 "PlateRoom" "graph" "LPlateRoom$TimeGraph;" : Cond) ∈ wsX5_endOfSpan)) dX5_endOfSpan_44 ?_
      refine lv_iload_n hx hb dX5_endOfSpan_47 rfl (lv_at hl 1 rfl) ?_
      refine gVi (cx_X4_wayTo l g (σ := σ2) hw) (xMv g) ⟨hx, hb, hml, hown, hts⟩ (cwV 1 hts gX5_endOfSpan_X4_wayTo rfl rfl rfl (by decide +kernel) ⟨Nat.le_of_ble_eq_true rfl, Nat.le_of_ble_eq_true rfl⟩) (xRecv_X4 hI) hI hS hl.1 rfl rfl (Nat.le_of_ble_eq_true rfl) dX5_endOfSpan_48 (fun r7 σ8 H locs hw hI hS => ?_)
      obtain ⟨hw, hq⟩ := hw
      rw [hq] at hI
      refine lv_goto (tgt := 63) hx hb dX5_endOfSpan_51 (by decide) ?_
      refine gVi (cx_X5_answer l g (σ := σ2) hw) (xMv g) ⟨hx, hb, hml, hown, hts⟩ (cwV 1 hts gX5_endOfSpan_X5_answer rfl rfl rfl (by decide +kernel) ⟨Nat.le_of_ble_eq_true rfl, Nat.le_of_ble_eq_true rfl⟩) (xRecv_X5 hI) hI hS hl.1 rfl rfl (Nat.le_of_ble_eq_true rfl) dX5_endOfSpan_63 (fun r9 σ10 H locs hw hI hS => ?_)
      exact hret _ _ _ _ _ _ dX5_endOfSpan_66 hw hI hS
    have hw := hw.2 hc
    refine lv_aload_n hx hb dX5_endOfSpan_32 rfl (lv_at hl 0 rfl) ?_
    refine lv_iconst (v := 5) hx hb dX5_endOfSpan_33 (by decide) ?_
    refine gVi (cx_X5_refuse l g (σ := σ2) hw) (xMv g) ⟨hx, hb, hml, hown, hts⟩ (cwV 1 hts gX5_endOfSpan_X5_refuse rfl rfl rfl (by decide +kernel) ⟨Nat.le_of_ble_eq_true rfl, Nat.le_of_ble_eq_true rfl⟩) (xRecv_X5 hI) hI hS hl.1 rfl rfl (Nat.le_of_ble_eq_true rfl) dX5_endOfSpan_34 (fun r11 σ12 H locs hw hI hS => ?_)
    exact hret _ _ _ _ _ _ dX5_endOfSpan_37 hw hI hS
  refine lv_aload_n hx hb dX5_endOfSpan_0 rfl (lv_at hl 0 rfl) ?_
  refine xG_X5_graph hx hb hF hown hI (hts _ (List.mem_of_getElem? (i := 1) rfl : (Cond.fieldLink RX5 19 "PlateRoom" "graph" "LPlateRoom$TimeGraph;" : Cond) ∈ wsX5_endOfSpan)) dX5_endOfSpan_1 ?_
  refine lv_aload_n hx hb dX5_endOfSpan_4 rfl (lv_at hl 0 rfl) ?_
  refine xG_X5_facts hx hb hF hown hI (hts _ (List.mem_of_getElem? (i := 2) rfl : (Cond.fieldLink RX5 12 "PlateRoom" "facts" "LPlateRoom$FactBook;" : Cond) ∈ wsX5_endOfSpan)) dX5_endOfSpan_5 ?_
  refine lv_iload_n hx hb dX5_endOfSpan_8 rfl (lv_at hl 3 rfl) ?_
  refine lv_iconst (v := (-1)) hx hb dX5_endOfSpan_9 (by decide) ?_
  refine gVv (cx_X4_gather l g (σ := σ) hw) (xMv g) ⟨hx, hb, hml, hown, hts⟩ (cwV 3 hts gX5_endOfSpan_X4_gather rfl rfl rfl (by decide +kernel) ⟨Nat.le_of_ble_eq_true rfl, Nat.le_of_ble_eq_true rfl⟩) (xRecv_X4 hI) hI hS hl.1 rfl rfl (Nat.le_of_ble_eq_true rfl) dX5_endOfSpan_10 (fun σ1 H locs hw hI hS => ?_)
  refine lv_aload_n hx hb dX5_endOfSpan_13 rfl (lv_at hl 0 rfl) ?_
  refine xG_X5_graph hx hb hF hown hI (hts _ (List.mem_of_getElem? (i := 1) rfl : (Cond.fieldLink RX5 19 "PlateRoom" "graph" "LPlateRoom$TimeGraph;" : Cond) ∈ wsX5_endOfSpan)) dX5_endOfSpan_14 ?_
  refine lv_iload_n hx hb dX5_endOfSpan_17 rfl (lv_at hl 2 rfl) ?_
  refine lv_if_eq (tgt := 25) hx hb dX5_endOfSpan_18 (by decide) (fun hc => ?_) (fun hc => ?_)
  · have hw := hw.1 hc
    refine lv_iload_n hx hb dX5_endOfSpan_25 rfl (lv_at hl 1 rfl) ?_
    exact j26 _ _ _ _ _ _ _ hI hS (lv_sub hl [0, 1, 2] rfl) hw
  have hw := hw.2 hc
  refine lv_iconst (v := 0) hx hb dX5_endOfSpan_21 (by decide) ?_
  refine lv_goto (tgt := 26) hx hb dX5_endOfSpan_22 (by decide) ?_
  exact j26 _ _ _ _ _ _ _ hI hS (lv_sub hl [0, 1, 2] rfl) hw
