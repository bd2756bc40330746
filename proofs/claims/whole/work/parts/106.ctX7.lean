set_option maxRecDepth 100000 in
set_option maxHeartbeats 4000000 in
theorem cx_X0_sortTurns (l : Launch) (g : wG) {σ : wS} {x1 : Int32} {Q : wS → Prop} (hw : wx_X0_sortTurns Q x1 σ) : Met l yX0_sortTurns wsX0_sortTurns ({ frames := 0, cells := 0, slots := 0, locals := 0 } : Room) (va_Pc [.ref (g.2.1 1), .int x1] (fun U => xIn g σ U.heap U)) (va_Qv Q (fun σ1 t => xIn g σ1 t.heap t) (xA g)) 0 0 (xA g) := by
  refine gOfV (maxL := 4) (xMv g) (by decide) rfl (Nat.le_of_ble_eq_true rfl) ?_
  intro p e s m args below meth c QQ hx hb hml hown hts hret ls hl hI
  have hl : lv_has ls 4 [(0, .ref (g.2.1 1)), (1, .int x1)] := hl
  have hS : va_S (xA g) s.heap s.heap [] := va_S.rf
  have hF : ∀ w ∈ wsX00, w.before args s = true := fun w h => hts w (List.mem_cons_of_mem _ (List.mem_append_right _ h))
  refine lv_iconst (v := 0) hx hb dX0_sortTurns_0 (by decide) ?_
  refine lv_istore_n (lv' := [(2, .int 0), (0, .ref (g.2.1 1)), (1, .int x1)]) hx hb dX0_sortTurns_1 rfl hl (by decide) rfl (fun ls hl => ?_)
  obtain ⟨n2, hw⟩ := hw
  have key2 : ∀ (n : Nat) (x1 : Int32) (x2 : Int32) (σ : wS) (H : Heap) (locs : List Loc) (ls : Array Slot), xIn g σ H s → va_S (xA g) s.heap H locs → lv_has ls 4 [(0, .ref (g.2.1 1)), (1, .int x1), (2, .int x2)] → wloop (wx_X0_sortTurns_L2 Q x1) n (x2, σ) → W p l e ({ frames := 0, cells := 0, slots := 0, locals := 0 } : Room) s m args below meth c H locs 0 0 QQ (F0 m 2 ls []) := by
    intro n
    induction n with
    | zero => intro x1 x2 σ H locs ls hI hS hl hw; exact False.elim hw
    | succ n ih =>
      intro x1 x2 σ H locs ls hI hS hl hw
      obtain ⟨K2, hK2⟩ : ∃ K, K = wloop (wx_X0_sortTurns_L2 Q x1) n := ⟨_, rfl⟩
      have hw : wx_X0_sortTurns_L2 Q x1 K2 (x2, σ) := by rw [hK2]; exact hw
      dsimp only [wx_X0_sortTurns_L2] at hw
      have ih2 := ih
      have j55 : ∀ (x2 : Int32) (x3 : Int32) (σ : wS) (H : Heap) (locs : List Loc) (ls : Array Slot), xIn g σ H s → va_S (xA g) s.heap H locs → lv_has ls 4 [(0, .ref (g.2.1 1)), (1, .int x1), (2, .int x2), (3, .int x3)] → wx_X0_sortTurns_J55 Q K2 x1 x2 x3 σ → W p l e ({ frames := 0, cells := 0, slots := 0, locals := 0 } : Room) s m args below meth c H locs 0 0 QQ (F0 m 55 ls []) := by
        intro x2 x3 σ H locs ls hI hS hl hw
        refine lv_aload_n hx hb dX0_sortTurns_55 rfl (lv_at hl 0 rfl) ?_
        refine xG_X0_turns hx hb hF hown hI (hts _ (List.mem_of_getElem? (i := 2) rfl : (Cond.fieldLink RX0 21 "PlateRoom$CopyPlan" "turns" "[I" : Cond) ∈ wsX0_sortTurns)) dX0_sortTurns_56 ?_
        refine lv_iload_n hx hb dX0_sortTurns_59 rfl (lv_at hl 3 rfl) ?_
        refine lv_iload_n hx hb dX0_sortTurns_60 rfl (lv_at hl 2 rfl) ?_
        have hin := hw.1
        have hw := hw.2
        refine xS_X0_turns hx hb hI hS hin dX0_sortTurns_61 (fun σ1 eσ1 H locs hI hS => ?_)
        have hw := hw σ1 eσ1
        obtain ⟨a2, ea2⟩ : ∃ y : Int32, y = x2 + 1 := ⟨_, rfl⟩
        have hw := hw a2 ea2
        refine lv_iinc (v := a2) (lv' := [(2, .int a2), (0, .ref (g.2.1 1)), (1, .int x1), (3, .int x3)]) hx hb dX0_sortTurns_62 hl (k := 2) rfl (by rw [ea2]; rfl) (by decide) rfl (fun ls hl => ?_)
        refine lv_goto (tgt := 2) hx hb dX0_sortTurns_65 (by decide) ?_
        rw [hK2] at hw
        exact ih2 _ _ _ _ _ _ hI hS (lv_sub hl [1, 2, 0] rfl) hw
      refine lv_iload_n hx hb dX0_sortTurns_2 rfl (lv_at hl 2 rfl) ?_
      refine lv_iload_n hx hb dX0_sortTurns_3 rfl (lv_at hl 1 rfl) ?_
      refine lv_icmp_ge (tgt := 68) hx hb dX0_sortTurns_4 (by decide) (fun hc => ?_) (fun hc => ?_)
      · have hw := hw.1 hc
        exact hret _ _ _ _ _ dX0_sortTurns_68 hw hI hS
      have hw := hw.2 hc
      refine lv_iload_n hx hb dX0_sortTurns_7 rfl (lv_at hl 2 rfl) ?_
      refine lv_istore_n (lv' := [(3, .int x2), (0, .ref (g.2.1 1)), (1, .int x1), (2, .int x2)]) hx hb dX0_sortTurns_8 rfl hl (by decide) rfl (fun ls hl => ?_)
      obtain ⟨n9, hw⟩ := hw
      have key9 : ∀ (n : Nat) (x2 : Int32) (x3 : Int32) (σ : wS) (H : Heap) (locs : List Loc) (ls : Array Slot), xIn g σ H s → va_S (xA g) s.heap H locs → lv_has ls 4 [(0, .ref (g.2.1 1)), (1, .int x1), (2, .int x2), (3, .int x3)] → wloop (wx_X0_sortTurns_L9 Q K2 x1 x2) n (x3, σ) → W p l e ({ frames := 0, cells := 0, slots := 0, locals := 0 } : Room) s m args below meth c H locs 0 0 QQ (F0 m 9 ls []) := by
        intro n
        induction n with
        | zero => intro x2 x3 σ H locs ls hI hS hl hw; exact False.elim hw
        | succ n ih =>
          intro x2 x3 σ H locs ls hI hS hl hw
          obtain ⟨K9, hK9⟩ : ∃ K, K = wloop (wx_X0_sortTurns_L9 Q K2 x1 x2) n := ⟨_, rfl⟩
          have hw : wx_X0_sortTurns_L9 Q K2 x1 x2 K9 (x3, σ) := by rw [hK9]; exact hw
          dsimp only [wx_X0_sortTurns_L9] at hw
          have ih9 := ih
          refine lv_iload_n hx hb dX0_sortTurns_9 rfl (lv_at hl 3 rfl) ?_
          refine lv_if_le (tgt := 55) hx hb dX0_sortTurns_10 (by decide) (fun hc => ?_) (fun hc => ?_)
          · have hw := hw.1 hc
            exact j55 _ _ _ _ _ _ hI hS (lv_sub hl [0, 1, 2, 3] rfl) hw
          have hw := hw.2 hc
          refine lv_aload_n hx hb dX0_sortTurns_13 rfl (lv_at hl 0 rfl) ?_
          refine xG_X0_lost hx hb hF hown hI (hts _ (List.mem_of_getElem? (i := 1) rfl : (Cond.fieldLink RX0 18 "PlateRoom$CopyPlan" "lost" "[I" : Cond) ∈ wsX0_sortTurns)) dX0_sortTurns_14 ?_
          refine lv_aload_n hx hb dX0_sortTurns_17 rfl (lv_at hl 0 rfl) ?_
          refine xG_X0_turns hx hb hF hown hI (hts _ (List.mem_of_getElem? (i := 2) rfl : (Cond.fieldLink RX0 21 "PlateRoom$CopyPlan" "turns" "[I" : Cond) ∈ wsX0_sortTurns)) dX0_sortTurns_18 ?_
          refine lv_iload_n hx hb dX0_sortTurns_21 rfl (lv_at hl 3 rfl) ?_
          refine lv_iconst (v := 1) hx hb dX0_sortTurns_22 (by decide) ?_
          refine lv_isub hx hb dX0_sortTurns_23 ?_
          have hin := hw.1
          have hw := hw.2
          refine xR_X0_turns hx hb hI hin dX0_sortTurns_24 ?_
          have hin := hw.1
          have hw := hw.2
          refine xR_X0_lost hx hb hI hin dX0_sortTurns_25 ?_
          refine lv_aload_n hx hb dX0_sortTurns_26 rfl (lv_at hl 0 rfl) ?_
          refine xG_X0_lost hx hb hF hown hI (hts _ (List.mem_of_getElem? (i := 1) rfl : (Cond.fieldLink RX0 18 "PlateRoom$CopyPlan" "lost" "[I" : Cond) ∈ wsX0_sortTurns)) dX0_sortTurns_27 ?_
          refine lv_iload_n hx hb dX0_sortTurns_30 rfl (lv_at hl 2 rfl) ?_
          have hin := hw.1
          have hw := hw.2
          refine xR_X0_lost hx hb hI hin dX0_sortTurns_31 ?_
          refine lv_icmp_le (tgt := 55) hx hb dX0_sortTurns_32 (by decide) (fun hc => ?_) (fun hc => ?_)
          · have hw := hw.1 hc
            exact j55 _ _ _ _ _ _ hI hS (lv_sub hl [0, 1, 2, 3] rfl) hw
          have hw := hw.2 hc
          refine lv_aload_n hx hb dX0_sortTurns_35 rfl (lv_at hl 0 rfl) ?_
          refine xG_X0_turns hx hb hF hown hI (hts _ (List.mem_of_getElem? (i := 2) rfl : (Cond.fieldLink RX0 21 "PlateRoom$CopyPlan" "turns" "[I" : Cond) ∈ wsX0_sortTurns)) dX0_sortTurns_36 ?_
          refine lv_iload_n hx hb dX0_sortTurns_39 rfl (lv_at hl 3 rfl) ?_
          refine lv_aload_n hx hb dX0_sortTurns_40 rfl (lv_at hl 0 rfl) ?_
          refine xG_X0_turns hx hb hF hown hI (hts _ (List.mem_of_getElem? (i := 2) rfl : (Cond.fieldLink RX0 21 "PlateRoom$CopyPlan" "turns" "[I" : Cond) ∈ wsX0_sortTurns)) dX0_sortTurns_41 ?_
          refine lv_iload_n hx hb dX0_sortTurns_44 rfl (lv_at hl 3 rfl) ?_
          refine lv_iconst (v := 1) hx hb dX0_sortTurns_45 (by decide) ?_
          refine lv_isub hx hb dX0_sortTurns_46 ?_
          have hin := hw.1
          have hw := hw.2
          refine xR_X0_turns hx hb hI hin dX0_sortTurns_47 ?_
          have hin := hw.1
          have hw := hw.2
          refine xS_X0_turns hx hb hI hS hin dX0_sortTurns_48 (fun σ1 eσ1 H locs hI hS => ?_)
          have hw := hw σ1 eσ1
          obtain ⟨a2, ea2⟩ : ∃ y : Int32, y = x3 + (-1) := ⟨_, rfl⟩
          have hw := hw a2 ea2
          refine lv_iinc (v := a2) (lv' := [(3, .int a2), (0, .ref (g.2.1 1)), (1, .int x1), (2, .int x2)]) hx hb dX0_sortTurns_49 hl (k := 3) rfl (by rw [ea2]; rfl) (by decide) rfl (fun ls hl => ?_)
          refine lv_goto (tgt := 9) hx hb dX0_sortTurns_52 (by decide) ?_
          rw [hK9] at hw
          exact ih9 _ _ _ _ _ _ hI hS (lv_sub hl [1, 2, 3, 0] rfl) hw
      exact key9 n9 _ _ _ _ _ _ hI hS (lv_sub hl [1, 2, 3, 0] rfl) hw
  exact key2 n2 _ _ _ _ _ _ hI hS (lv_sub hl [1, 2, 0] rfl) hw
set_option maxRecDepth 100000 in
set_option maxHeartbeats 4000000 in
theorem cx_J7_fill_d0a16_worths (l : Launch) (g : wG) {σ : wS} {x1 : Int64} {Q : wS → Prop} (hw : wx_J7_fill_d0a16_worths Q x1 σ) : Met l yJ7_fill_d0a16 wsJ7_fill_d0a16 ({ frames := 0, cells := 0, slots := 0, locals := 0 } : Room) (va_Pc [.ref (g.2.1 11), .long x1] (fun U => xIn g σ U.heap U)) (va_Qv Q (fun σ1 t => xIn g σ1 t.heap t) (xA g)) 0 0 (xA g) := by
  refine gOfV (maxL := 5) (xMv g) (by decide) rfl (Nat.le_of_ble_eq_true rfl) ?_
  intro p e s m args below meth c QQ hx hb hml hown hts hret ls hl hI
  have hl : lv_has ls 5 [(0, .ref (g.2.1 11)), (1, .long x1)] := hl
  have hS : va_S (xA g) s.heap s.heap [] := va_S.rf
  refine lv_iconst (v := 0) hx hb dJ7_fill_d0a16_0 (by decide) ?_
  refine lv_istore_n (lv' := [(3, .int 0), (0, .ref (g.2.1 11)), (1, .long x1)]) hx hb dJ7_fill_d0a16_1 rfl hl (by decide) rfl (fun ls hl => ?_)
  refine lv_aload_n hx hb dJ7_fill_d0a16_2 rfl (lv_at hl 1 rfl) ?_
  refine xN_X0_worths hx hb hI dJ7_fill_d0a16_3 ?_
  refine lv_istore (lv' := [(4, .int 501), (3, .int 0), (0, .ref (g.2.1 11)), (1, .long x1)]) hx hb dJ7_fill_d0a16_4 hl (by decide) rfl (fun ls hl => ?_)
  obtain ⟨n6, hw⟩ := hw
  have key6 : ∀ (n : Nat) (x1 : Int64) (x3 : Int32) (x4 : Int32) (σ : wS) (H : Heap) (locs : List Loc) (ls : Array Slot), xIn g σ H s → va_S (xA g) s.heap H locs → lv_has ls 5 [(0, .ref (g.2.1 11)), (1, .long x1), (3, .int x3), (4, .int x4)] → wloop (wx_J7_fill_d0a16_worths_L6 Q x1 x4) n (x3, σ) → W p l e ({ frames := 0, cells := 0, slots := 0, locals := 0 } : Room) s m args below meth c H locs 0 0 QQ (F0 m 6 ls []) := by
    intro n
    induction n with
    | zero => intro x1 x3 x4 σ H locs ls hI hS hl hw; exact False.elim hw
    | succ n ih =>
      intro x1 x3 x4 σ H locs ls hI hS hl hw
      obtain ⟨K6, hK6⟩ : ∃ K, K = wloop (wx_J7_fill_d0a16_worths_L6 Q x1 x4) n := ⟨_, rfl⟩
      have hw : wx_J7_fill_d0a16_worths_L6 Q x1 x4 K6 (x3, σ) := by rw [hK6]; exact hw
      dsimp only [wx_J7_fill_d0a16_worths_L6] at hw
      have ih6 := ih
      refine lv_iload_n hx hb dJ7_fill_d0a16_6 rfl (lv_at hl 2 rfl) ?_
      refine lv_iload hx hb dJ7_fill_d0a16_7 (lv_at hl 3 rfl) ?_
      refine lv_icmp_ge (tgt := 22) hx hb dJ7_fill_d0a16_9 (by decide) (fun hc => ?_) (fun hc => ?_)
      · have hw := hw.1 hc
        exact hret _ _ _ _ _ dJ7_fill_d0a16_22 hw hI hS
      have hw := hw.2 hc
      refine lv_aload_n hx hb dJ7_fill_d0a16_12 rfl (lv_at hl 0 rfl) ?_
      refine lv_iload_n hx hb dJ7_fill_d0a16_13 rfl (lv_at hl 2 rfl) ?_
      refine lv_lload_n hx hb dJ7_fill_d0a16_14 rfl (lv_at hl 1 rfl) ?_
      have hin := hw.1
      have hw := hw.2
      refine xS_X0_worths hx hb hI hS hin dJ7_fill_d0a16_15 (fun σ1 eσ1 H locs hI hS => ?_)
      have hw := hw σ1 eσ1
      obtain ⟨a2, ea2⟩ : ∃ y : Int32, y = x3 + 1 := ⟨_, rfl⟩
      have hw := hw a2 ea2
      refine lv_iinc (v := a2) (lv' := [(3, .int a2), (0, .ref (g.2.1 11)), (1, .long x1), (4, .int x4)]) hx hb dJ7_fill_d0a16_16 hl (k := 2) rfl (by rw [ea2]; rfl) (by decide) rfl (fun ls hl => ?_)
      refine lv_goto (tgt := 6) hx hb dJ7_fill_d0a16_19 (by decide) ?_
      rw [hK6] at hw
      exact ih6 _ _ _ _ _ _ _ hI hS (lv_sub hl [1, 2, 0, 3] rfl) hw
  exact key6 n6 _ _ _ _ _ _ _ hI hS (lv_sub hl [2, 3, 1, 0] rfl) hw
set_option maxRecDepth 100000 in
set_option maxHeartbeats 4000000 in
theorem cx_X0_bitOf (l : Launch) (g : wG) {σ : wS} {x0 : Int32} {Q : Int64 → Prop} (hw : wx_X0_bitOf Q x0) : Met l yX0_bitOf wsX0_bitOf ({ frames := 0, cells := 0, slots := 0, locals := 0 } : Room) (va_Pc [.int x0] (fun U => xIn g σ U.heap U)) (va_Ql (fun r σ1 => Q r ∧ σ1 = σ) (fun σ1 t => xIn g σ1 t.heap t) (xA g)) 0 0 (xA g) := by
  refine gOfL (maxL := 1) (xMv g) (by decide) rfl (Nat.le_of_ble_eq_true rfl) ?_
  intro p e s m args below meth c QQ hx hb hml hown hts hret ls hl hI
  have hl : lv_has ls 1 [(0, .int x0)] := hl
  have hS : va_S (xA g) s.heap s.heap [] := va_S.rf
  refine lv_lconst (v := 1) hx hb dX0_bitOf_0 (by decide) ?_
  refine lv_bipush (v := 19) hx hb dX0_bitOf_1 (by decide) ?_
  refine lv_iload_n hx hb dX0_bitOf_3 rfl (lv_at hl 0 rfl) ?_
  refine lv_isub hx hb dX0_bitOf_4 ?_
  refine lv_lshl hx hb dX0_bitOf_5 rfl ?_
  exact hret _ _ _ _ _ _ dX0_bitOf_6 ⟨hw, rfl⟩ hI hS
set_option maxRecDepth 100000 in
set_option maxHeartbeats 4000000 in
theorem cx_X0_worthOf (l : Launch) (g : wG) {σ : wS} {x1 : Int32} {Q : Int64 → Prop} (hw : wx_X0_worthOf Q x1 σ) : Met l yX0_worthOf wsX0_worthOf ({ frames := 1, cells := 0, slots := 0, locals := 20 } : Room) (va_Pc [.ref (g.2.1 1), .int x1] (fun U => xIn g σ U.heap U)) (va_Ql (fun r σ1 => Q r ∧ σ1 = σ) (fun σ1 t => xIn g σ1 t.heap t) (xA g)) 0 0 (xA g) := by
  refine gOfL (maxL := 2) (xMv g) (by decide) rfl (Nat.le_of_ble_eq_true rfl) ?_
  intro p e s m args below meth c QQ hx hb hml hown hts hret ls hl hI
  have hl : lv_has ls 2 [(0, .ref (g.2.1 1)), (1, .int x1)] := hl
  have hS : va_S (xA g) s.heap s.heap [] := va_S.rf
  have hF : ∀ w ∈ wsX00, w.before args s = true := fun w h => hts w (List.mem_cons_of_mem _ (List.mem_append_right _ h))
  refine lv_aload_n hx hb dX0_worthOf_0 rfl (lv_at hl 0 rfl) ?_
  refine xG_X0_wanted hx hb hF hown hI (hts _ (List.mem_of_getElem? (i := 1) rfl : (Cond.fieldLink RX0 9 "PlateRoom$CopyPlan" "wanted" "[I" : Cond) ∈ wsX0_worthOf)) dX0_worthOf_1 ?_
  refine lv_iload_n hx hb dX0_worthOf_4 rfl (lv_at hl 1 rfl) ?_
  have hin := hw.1
  have hw := hw.2
  refine xR_X0_wanted hx hb hI hin dX0_worthOf_5 ?_
  refine lv_i2l hx hb dX0_worthOf_6 rfl ?_
  refine lv_bipush (v := 20) hx hb dX0_worthOf_7 (by decide) ?_
  refine lv_lshl hx hb dX0_worthOf_9 rfl ?_
  refine lv_iload_n hx hb dX0_worthOf_10 rfl (lv_at hl 1 rfl) ?_
  refine gSl (cx_X0_bitOf l g (σ := σ) hw) (xMv g) ⟨hx, hb, hml, hown, hts⟩ (va_cwS 1 hts gX0_worthOf_X0_bitOf rfl rfl rfl (by decide +kernel) ⟨Nat.le_of_ble_eq_true rfl, Nat.le_of_ble_eq_true rfl⟩) hI hS hl.1 rfl rfl (Nat.le_of_ble_eq_true rfl) dX0_worthOf_11 (fun r1 σ2 H locs hw hI hS => ?_)
  obtain ⟨hw, hq⟩ := hw
  rw [hq] at hI
  refine lv_ladd hx hb dX0_worthOf_14 ?_
  exact hret _ _ _ _ _ _ dX0_worthOf_15 ⟨hw, rfl⟩ hI hS
set_option maxRecDepth 100000 in
set_option maxHeartbeats 4000000 in
theorem cx_X0_offer (l : Launch) (g : wG) {σ : wS} {x1 : Int32} {x2 : Int32} {Q : wS → Prop} (hw : wx_X0_offer Q x1 x2 σ) : Met l yX0_offer wsX0_offer ({ frames := 2, cells := 0, slots := 0, locals := 41 } : Room) (va_Pc [.ref (g.2.1 1), .int x1, .int x2] (fun U => xIn g σ U.heap U)) (va_Qv Q (fun σ1 t => xIn g σ1 t.heap t) (xA g)) 0 0 (xA g) := by
  refine gOfV (maxL := 6) (xMv g) (by decide) rfl (Nat.le_of_ble_eq_true rfl) ?_
  intro p e s m args below meth c QQ hx hb hml hown hts hret ls hl hI
  have hl : lv_has ls 6 [(0, .ref (g.2.1 1)), (1, .int x1), (2, .int x2)] := hl
  have hS : va_S (xA g) s.heap s.heap [] := va_S.rf
  have hF : ∀ w ∈ wsX00, w.before args s = true := fun w h => hts w (List.mem_cons_of_mem _ (List.mem_append_right _ h))
  refine lv_iload_n hx hb dX0_offer_0 rfl (lv_at hl 2 rfl) ?_
  refine lv_sipush (v := 500) hx hb dX0_offer_1 (by decide) ?_
  refine va_mmin hx hb (hml.trans hl.1.symm) hown (hts _ (List.mem_of_getElem? (i := 1) rfl : (Cond.methodLink RX0 34 Lib.Math.min.name : Cond) ∈ wsX0_offer)) (hts _ (List.mem_of_getElem? (i := 2) rfl : (Cond.static Lib.Math.min.name : Cond) ∈ wsX0_offer)) (hts _ (List.mem_of_getElem? (i := 3) rfl : (Cond.initialized "java/lang/Math" : Cond) ∈ wsX0_offer)) (hts _ (List.mem_of_getElem? (i := 4) rfl : (Cond.code Lib.Math.min.name Lib.Math.min.code 2 (some .int) : Cond) ∈ wsX0_offer)) (Nat.le_of_ble_eq_true rfl) (Nat.le_of_ble_eq_true rfl) (Nat.zero_le _) (Nat.zero_le _) dX0_offer_4 ?_
  refine lv_topi (fun m1 em1 => ?_)
  have hw := hw m1 em1
  refine lv_istore_n (lv' := [(3, .int m1), (0, .ref (g.2.1 1)), (1, .int x1), (2, .int x2)]) hx hb dX0_offer_7 rfl hl (by decide) rfl (fun ls hl => ?_)
  obtain ⟨n8, hw⟩ := hw
  have key8 : ∀ (n : Nat) (x1 : Int32) (x3 : Int32) (σ : wS) (H : Heap) (locs : List Loc) (ls : Array Slot), xIn g σ H s → va_S (xA g) s.heap H locs → lv_has ls 6 [(0, .ref (g.2.1 1)), (1, .int x1), (3, .int x3)] → wloop (wx_X0_offer_L8 Q x1) n (x3, σ) → W p l e ({ frames := 2, cells := 0, slots := 0, locals := 41 } : Room) s m args below meth c H locs 0 0 QQ (F0 m 8 ls []) := by
    intro n
    induction n with
    | zero => intro x1 x3 σ H locs ls hI hS hl hw; exact False.elim hw
    | succ n ih =>
      intro x1 x3 σ H locs ls hI hS hl hw
      obtain ⟨K8, hK8⟩ : ∃ K, K = wloop (wx_X0_offer_L8 Q x1) n := ⟨_, rfl⟩
      have hw : wx_X0_offer_L8 Q x1 K8 (x3, σ) := by rw [hK8]; exact hw
      dsimp only [wx_X0_offer_L8] at hw
      have ih8 := ih
      refine lv_iload_n hx hb dX0_offer_8 rfl (lv_at hl 2 rfl) ?_
      refine lv_aload_n hx hb dX0_offer_9 rfl (lv_at hl 0 rfl) ?_
      refine xG_X0_hours hx hb hF hown hI (hts _ (List.mem_of_getElem? (i := 5) rfl : (Cond.fieldLink RX0 15 "PlateRoom$CopyPlan" "hours" "[I" : Cond) ∈ wsX0_offer)) dX0_offer_10 ?_
      refine lv_iload_n hx hb dX0_offer_13 rfl (lv_at hl 1 rfl) ?_
      have hin := hw.1
      have hw := hw.2
      refine xR_X0_hours hx hb hI hin dX0_offer_14 ?_
      refine lv_icmp_lt (tgt := 71) hx hb dX0_offer_15 (by decide) (fun hc => ?_) (fun hc => ?_)
      · have hw := hw.1 hc
        exact hret _ _ _ _ _ dX0_offer_71 hw hI hS
      have hw := hw.2 hc
      refine lv_aload_n hx hb dX0_offer_18 rfl (lv_at hl 0 rfl) ?_
      refine xG_X0_worths hx hb hF hown hI (hts _ (List.mem_of_getElem? (i := 6) rfl : (Cond.fieldLink RX0 24 "PlateRoom$CopyPlan" "worths" "[J" : Cond) ∈ wsX0_offer)) dX0_offer_19 ?_
      refine lv_iload_n hx hb dX0_offer_22 rfl (lv_at hl 2 rfl) ?_
      refine lv_aload_n hx hb dX0_offer_23 rfl (lv_at hl 0 rfl) ?_
      refine xG_X0_hours hx hb hF hown hI (hts _ (List.mem_of_getElem? (i := 5) rfl : (Cond.fieldLink RX0 15 "PlateRoom$CopyPlan" "hours" "[I" : Cond) ∈ wsX0_offer)) dX0_offer_24 ?_
      refine lv_iload_n hx hb dX0_offer_27 rfl (lv_at hl 1 rfl) ?_
      have hin := hw.1
      have hw := hw.2
      refine xR_X0_hours hx hb hI hin dX0_offer_28 ?_
      refine lv_isub hx hb dX0_offer_29 ?_
      have hin := hw.1
      have hw := hw.2
      refine xR_X0_worths hx hb hI hin dX0_offer_30 ?_
      refine lv_topl (fun a1 ea1 => ?_)
      have hw := hw a1 ea1
      refine lv_lstore (lv' := [(4, .long a1), (0, .ref (g.2.1 1)), (1, .int x1), (3, .int x3)]) hx hb dX0_offer_31 hl (by decide) rfl (fun ls hl => ?_)
      refine lv_lload hx hb dX0_offer_33 (lv_at hl 0 rfl) ?_
      refine lv_ldc2 (own := RX0) hx hb hown (hts _ (List.mem_of_getElem? (i := 7) rfl : (Cond.constantLong RX0 44 (-1) : Cond) ∈ wsX0_offer)) dX0_offer_35 ?_
      refine W.lcmp hx hb dX0_offer_38 ?_
      refine lv_if_eq (tgt := 65) hx hb dX0_offer_39 (by decide) (fun hc => ?_) (fun hc => ?_)
      · have hw := hw.1 ((lg_cmp_eq _ _).mp hc)
        obtain ⟨a2, ea2⟩ : ∃ y : Int32, y = x3 + (-1) := ⟨_, rfl⟩
        have hw := hw a2 ea2
        refine lv_iinc (v := a2) (lv' := [(3, .int a2), (4, .long a1), (0, .ref (g.2.1 1)), (1, .int x1)]) hx hb dX0_offer_65 hl (k := 3) rfl (by rw [ea2]; rfl) (by decide) rfl (fun ls hl => ?_)
        refine lv_goto (tgt := 8) hx hb dX0_offer_68 (by decide) ?_
        rw [hK8] at hw
        exact ih8 _ _ _ _ _ _ hI hS (lv_sub hl [2, 3, 0] rfl) hw
      have hw := hw.2 (fun h => hc ((lg_cmp_eq _ _).mpr h))
      refine lv_aload_n hx hb dX0_offer_42 rfl (lv_at hl 1 rfl) ?_
      refine xG_X0_worths hx hb hF hown hI (hts _ (List.mem_of_getElem? (i := 6) rfl : (Cond.fieldLink RX0 24 "PlateRoom$CopyPlan" "worths" "[J" : Cond) ∈ wsX0_offer)) dX0_offer_43 ?_
      refine lv_iload_n hx hb dX0_offer_46 rfl (lv_at hl 3 rfl) ?_
      refine lv_aload_n hx hb dX0_offer_47 rfl (lv_at hl 1 rfl) ?_
      refine xG_X0_worths hx hb hF hown hI (hts _ (List.mem_of_getElem? (i := 6) rfl : (Cond.fieldLink RX0 24 "PlateRoom$CopyPlan" "worths" "[J" : Cond) ∈ wsX0_offer)) dX0_offer_48 ?_
      refine lv_iload_n hx hb dX0_offer_51 rfl (lv_at hl 3 rfl) ?_
      have hin := hw.1
      have hw := hw.2
      refine xR_X0_worths hx hb hI hin dX0_offer_52 ?_
      refine lv_lload hx hb dX0_offer_53 (lv_at hl 0 rfl) ?_
      refine lv_aload_n hx hb dX0_offer_55 rfl (lv_at hl 1 rfl) ?_
      refine lv_iload_n hx hb dX0_offer_56 rfl (lv_at hl 2 rfl) ?_
      refine gVl (cx_X0_worthOf l g (σ := σ) hw) (xMv g) ⟨hx, hb, hml, hown, hts⟩ (cwV 1 hts gX0_offer_X0_worthOf rfl rfl rfl (by decide +kernel) ⟨Nat.le_of_ble_eq_true rfl, Nat.le_of_ble_eq_true rfl⟩) (xRecv_X0 hI) hI hS hl.1 rfl rfl (Nat.le_of_ble_eq_true rfl) dX0_offer_57 (fun r3 σ4 H locs hw hI hS => ?_)
      obtain ⟨hw, hq⟩ := hw
      rw [hq] at hI
      refine lv_ladd hx hb dX0_offer_60 ?_
      refine va_mmax_long hx hb (hml.trans hl.1.symm) hown (hts _ (List.mem_of_getElem? (i := 8) rfl : (Cond.methodLink RX0 57 Lib.MathLoose.max_long.x : Cond) ∈ wsX0_offer)) (hts _ (List.mem_of_getElem? (i := 9) rfl : (Cond.static Lib.MathLoose.max_long.x : Cond) ∈ wsX0_offer)) (hts _ (List.mem_of_getElem? (i := 3) rfl : (Cond.initialized "java/lang/Math" : Cond) ∈ wsX0_offer)) (hts _ (List.mem_of_getElem? (i := 10) rfl : (Cond.code Lib.MathLoose.max_long.x Lib.MathLoose.max_long.code 4 (some .long) : Cond) ∈ wsX0_offer)) (Nat.le_of_ble_eq_true rfl) (Nat.le_of_ble_eq_true rfl) (Nat.zero_le _) (Nat.zero_le _) dX0_offer_61 ?_
      refine lv_topl (fun m5 em5 => ?_)
      have hw := hw m5 em5
      have hin := hw.1
      have hw := hw.2
      refine xS_X0_worths hx hb hI hS hin dX0_offer_64 (fun σ6 eσ6 H locs hI hS => ?_)
      have hw := hw σ6 eσ6
      obtain ⟨a7, ea7⟩ : ∃ y : Int32, y = x3 + (-1) := ⟨_, rfl⟩
      have hw := hw a7 ea7
      refine lv_iinc (v := a7) (lv' := [(3, .int a7), (4, .long a1), (0, .ref (g.2.1 1)), (1, .int x1)]) hx hb dX0_offer_65 hl (k := 3) rfl (by rw [ea7]; rfl) (by decide) rfl (fun ls hl => ?_)
      refine lv_goto (tgt := 8) hx hb dX0_offer_68 (by decide) ?_
      rw [hK8] at hw
      exact ih8 _ _ _ _ _ _ hI hS (lv_sub hl [2, 3, 0] rfl) hw
  exact key8 n8 _ _ _ _ _ _ hI hS (lv_sub hl [1, 2, 0] rfl) hw
set_option maxRecDepth 100000 in
set_option maxHeartbeats 4000000 in
theorem cx_X0_choose (l : Launch) (g : wG) {σ : wS} {x1 : Int32} {Q : wS → Prop} (hw : wx_X0_choose Q x1 σ) : Met l yX0_choose wsX0_choose ({ frames := 3, cells := 0, slots := 0, locals := 66 } : Room) (va_Pc [.ref (g.2.1 1), .int x1] (fun U => xIn g σ U.heap U)) (va_Qv Q (fun σ1 t => xIn g σ1 t.heap t) (xA g)) 0 0 (xA g) := by
  refine gOfV (maxL := 6) (xMv g) (by decide) rfl (Nat.le_of_ble_eq_true rfl) ?_
  intro p e s m args below meth c QQ hx hb hml hown hts hret ls hl hI
  have hl : lv_has ls 6 [(0, .ref (g.2.1 1)), (1, .int x1)] := hl
  have hS : va_S (xA g) s.heap s.heap [] := va_S.rf
  have hF : ∀ w ∈ wsX00, w.before args s = true := fun w h => hts w (List.mem_cons_of_mem _ (List.mem_append_right _ h))
  refine lv_iload_n hx hb dX0_choose_0 rfl (lv_at hl 1 rfl) ?_
  refine lv_bipush (v := 20) hx hb dX0_choose_1 (by decide) ?_
  refine va_mmin hx hb (hml.trans hl.1.symm) hown (hts _ (List.mem_of_getElem? (i := 1) rfl : (Cond.methodLink RX0 34 Lib.Math.min.name : Cond) ∈ wsX0_choose)) (hts _ (List.mem_of_getElem? (i := 2) rfl : (Cond.static Lib.Math.min.name : Cond) ∈ wsX0_choose)) (hts _ (List.mem_of_getElem? (i := 3) rfl : (Cond.initialized "java/lang/Math" : Cond) ∈ wsX0_choose)) (hts _ (List.mem_of_getElem? (i := 4) rfl : (Cond.code Lib.Math.min.name Lib.Math.min.code 2 (some .int) : Cond) ∈ wsX0_choose)) (Nat.le_of_ble_eq_true rfl) (Nat.le_of_ble_eq_true rfl) (Nat.zero_le _) (Nat.zero_le _) dX0_choose_3 ?_
  refine lv_topi (fun m1 em1 => ?_)
  have hw := hw m1 em1
  refine lv_istore_n (lv' := [(2, .int m1), (0, .ref (g.2.1 1)), (1, .int x1)]) hx hb dX0_choose_6 rfl hl (by decide) rfl (fun ls hl => ?_)
  refine lv_aload_n hx hb dX0_choose_7 rfl (lv_at hl 1 rfl) ?_
  refine lv_iload_n hx hb dX0_choose_8 rfl (lv_at hl 0 rfl) ?_
  refine gVv (cx_X0_sortTurns l g (σ := σ) hw) (xMv g) ⟨hx, hb, hml, hown, hts⟩ (cwV 1 hts gX0_choose_X0_sortTurns rfl rfl rfl (by decide +kernel) ⟨Nat.le_of_ble_eq_true rfl, Nat.le_of_ble_eq_true rfl⟩) (xRecv_X0 hI) hI hS hl.1 rfl rfl (Nat.le_of_ble_eq_true rfl) dX0_choose_9 (fun σ2 H locs hw hI hS => ?_)
  refine lv_aload_n hx hb dX0_choose_12 rfl (lv_at hl 1 rfl) ?_
  refine xG_X0_worths hx hb hF hown hI (hts _ (List.mem_of_getElem? (i := 5) rfl : (Cond.fieldLink RX0 24 "PlateRoom$CopyPlan" "worths" "[J" : Cond) ∈ wsX0_choose)) dX0_choose_13 ?_
  refine lv_ldc2 (own := RX0) hx hb hown (hts _ (List.mem_of_getElem? (i := 6) rfl : (Cond.constantLong RX0 44 (-1) : Cond) ∈ wsX0_choose)) dX0_choose_16 ?_
  refine gSv (cx_J7_fill_d0a16_worths l g (σ := σ2) hw) (xMv g) ⟨hx, hb, hml, hown, hts⟩ (va_cwS 2 hts gX0_choose_J7_fill_d0a16 rfl rfl rfl (by decide +kernel) ⟨Nat.le_of_ble_eq_true rfl, Nat.le_of_ble_eq_true rfl⟩) hI hS hl.1 rfl rfl (Nat.le_of_ble_eq_true rfl) dX0_choose_19 (fun σ3 H locs hw hI hS => ?_)
  refine lv_aload_n hx hb dX0_choose_22 rfl (lv_at hl 1 rfl) ?_
  refine xG_X0_worths hx hb hF hown hI (hts _ (List.mem_of_getElem? (i := 5) rfl : (Cond.fieldLink RX0 24 "PlateRoom$CopyPlan" "worths" "[J" : Cond) ∈ wsX0_choose)) dX0_choose_23 ?_
  refine lv_iconst (v := 0) hx hb dX0_choose_26 (by decide) ?_
  refine lv_lconst (v := 0) hx hb dX0_choose_27 (by decide) ?_
  have hin := hw.1
  have hw := hw.2
  refine xS_X0_worths hx hb hI hS hin dX0_choose_28 (fun σ4 eσ4 H locs hI hS => ?_)
  have hw := hw σ4 eσ4
  refine lv_iconst (v := 0) hx hb dX0_choose_29 (by decide) ?_
  refine lv_istore_n (lv' := [(3, .int 0), (2, .int m1), (0, .ref (g.2.1 1)), (1, .int x1)]) hx hb dX0_choose_30 rfl hl (by decide) rfl (fun ls hl => ?_)
  refine lv_iconst (v := 0) hx hb dX0_choose_31 (by decide) ?_
  refine lv_istore (lv' := [(4, .int 0), (3, .int 0), (2, .int m1), (0, .ref (g.2.1 1)), (1, .int x1)]) hx hb dX0_choose_32 hl (by decide) rfl (fun ls hl => ?_)
  obtain ⟨n34, hw⟩ := hw
  have key34 : ∀ (n : Nat) (x2 : Int32) (x3 : Int32) (x4 : Int32) (σ : wS) (H : Heap) (locs : List Loc) (ls : Array Slot), xIn g σ H s → va_S (xA g) s.heap H locs → lv_has ls 6 [(0, .ref (g.2.1 1)), (2, .int x2), (3, .int x3), (4, .int x4)] → wloop (wx_X0_choose_L34 Q x2) n (x3, x4, σ) → W p l e ({ frames := 3, cells := 0, slots := 0, locals := 66 } : Room) s m args below meth c H locs 0 0 QQ (F0 m 34 ls []) := by
    intro n
    induction n with
    | zero => intro x2 x3 x4 σ H locs ls hI hS hl hw; exact False.elim hw
    | succ n ih =>
      intro x2 x3 x4 σ H locs ls hI hS hl hw
      obtain ⟨K34, hK34⟩ : ∃ K, K = wloop (wx_X0_choose_L34 Q x2) n := ⟨_, rfl⟩
      have hw : wx_X0_choose_L34 Q x2 K34 (x3, x4, σ) := by rw [hK34]; exact hw
      dsimp only [wx_X0_choose_L34] at hw
      have ih34 := ih
      refine lv_iload hx hb dX0_choose_34 (lv_at hl 3 rfl) ?_
      refine lv_iload_n hx hb dX0_choose_36 rfl (lv_at hl 1 rfl) ?_
      refine lv_icmp_ge (tgt := 82) hx hb dX0_choose_37 (by decide) (fun hc => ?_) (fun hc => ?_)
      · have hw := hw.1 hc
        refine lv_aload_n hx hb dX0_choose_82 rfl (lv_at hl 0 rfl) ?_
        refine lv_lconst (v := 0) hx hb dX0_choose_83 (by decide) ?_
        refine xP_X0_bestWorth hx hb hF hown hI hS (hts _ (List.mem_of_getElem? (i := 10) rfl : (Cond.fieldLink RX0 53 "PlateRoom$CopyPlan" "bestWorth" "J" : Cond) ∈ wsX0_choose)) dX0_choose_84 (fun σ1 eσ1 H locs hI hS => ?_)
        have hw := hw σ1 eσ1
        refine lv_iconst (v := 0) hx hb dX0_choose_87 (by decide) ?_
        refine lv_istore (lv' := [(4, .int 0), (0, .ref (g.2.1 1)), (2, .int x2), (3, .int x3)]) hx hb dX0_choose_88 hl (by decide) rfl (fun ls hl => ?_)
        obtain ⟨n90, hw⟩ := hw
        have key90 : ∀ (n : Nat) (x4 : Int32) (σ : wS) (H : Heap) (locs : List Loc) (ls : Array Slot), xIn g σ H s → va_S (xA g) s.heap H locs → lv_has ls 6 [(0, .ref (g.2.1 1)), (4, .int x4)] → wloop (wx_X0_choose_L90 Q) n (x4, σ) → W p l e ({ frames := 3, cells := 0, slots := 0, locals := 66 } : Room) s m args below meth c H locs 0 0 QQ (F0 m 90 ls []) := by
          intro n
          induction n with
          | zero => intro x4 σ H locs ls hI hS hl hw; exact False.elim hw
          | succ n ih =>
            intro x4 σ H locs ls hI hS hl hw
            obtain ⟨K90, hK90⟩ : ∃ K, K = wloop (wx_X0_choose_L90 Q) n := ⟨_, rfl⟩
            have hw : wx_X0_choose_L90 Q K90 (x4, σ) := by rw [hK90]; exact hw
            dsimp only [wx_X0_choose_L90] at hw
            have ih90 := ih
            refine lv_iload hx hb dX0_choose_90 (lv_at hl 1 rfl) ?_
            refine lv_sipush (v := 500) hx hb dX0_choose_92 (by decide) ?_
            refine lv_icmp_gt (tgt := 122) hx hb dX0_choose_95 (by decide) (fun hc => ?_) (fun hc => ?_)
            · have hw := hw.1 hc
              exact hret _ _ _ _ _ dX0_choose_122 hw hI hS
            have hw := hw.2 hc
            refine lv_aload_n hx hb dX0_choose_98 rfl (lv_at hl 0 rfl) ?_
            refine lv_aload_n hx hb dX0_choose_99 rfl (lv_at hl 0 rfl) ?_
            refine xG_X0_bestWorth hx hb hF hown hI (hts _ (List.mem_of_getElem? (i := 10) rfl : (Cond.fieldLink RX0 53 "PlateRoom$CopyPlan" "bestWorth" "J" : Cond) ∈ wsX0_choose)) dX0_choose_100 ?_
            refine lv_aload_n hx hb dX0_choose_103 rfl (lv_at hl 0 rfl) ?_
            refine xG_X0_worths hx hb hF hown hI (hts _ (List.mem_of_getElem? (i := 5) rfl : (Cond.fieldLink RX0 24 "PlateRoom$CopyPlan" "worths" "[J" : Cond) ∈ wsX0_choose)) dX0_choose_104 ?_
            refine lv_iload hx hb dX0_choose_107 (lv_at hl 1 rfl) ?_
            have hin := hw.1
            have hw := hw.2
            refine xR_X0_worths hx hb hI hin dX0_choose_109 ?_
            refine va_mmax_long hx hb (hml.trans hl.1.symm) hown (hts _ (List.mem_of_getElem? (i := 11) rfl : (Cond.methodLink RX0 57 Lib.MathLoose.max_long.x : Cond) ∈ wsX0_choose)) (hts _ (List.mem_of_getElem? (i := 12) rfl : (Cond.static Lib.MathLoose.max_long.x : Cond) ∈ wsX0_choose)) (hts _ (List.mem_of_getElem? (i := 3) rfl : (Cond.initialized "java/lang/Math" : Cond) ∈ wsX0_choose)) (hts _ (List.mem_of_getElem? (i := 13) rfl : (Cond.code Lib.MathLoose.max_long.x Lib.MathLoose.max_long.code 4 (some .long) : Cond) ∈ wsX0_choose)) (Nat.le_of_ble_eq_true rfl) (Nat.le_of_ble_eq_true rfl) (Nat.zero_le _) (Nat.zero_le _) dX0_choose_110 ?_
            refine lv_topl (fun m1 em1 => ?_)
            have hw := hw m1 em1
            refine xP_X0_bestWorth hx hb hF hown hI hS (hts _ (List.mem_of_getElem? (i := 10) rfl : (Cond.fieldLink RX0 53 "PlateRoom$CopyPlan" "bestWorth" "J" : Cond) ∈ wsX0_choose)) dX0_choose_113 (fun σ2 eσ2 H locs hI hS => ?_)
            have hw := hw σ2 eσ2
            obtain ⟨a3, ea3⟩ : ∃ y : Int32, y = x4 + 1 := ⟨_, rfl⟩
            have hw := hw a3 ea3
            refine lv_iinc (v := a3) (lv' := [(4, .int a3), (0, .ref (g.2.1 1))]) hx hb dX0_choose_116 hl (k := 1) rfl (by rw [ea3]; rfl) (by decide) rfl (fun ls hl => ?_)
            refine lv_goto (tgt := 90) hx hb dX0_choose_119 (by decide) ?_
            rw [hK90] at hw
            exact ih90 _ _ _ _ _ hI hS (lv_sub hl [1, 0] rfl) hw
        exact key90 n90 _ _ _ _ _ hI hS (lv_sub hl [1, 0] rfl) hw
      have hw := hw.2 hc
      refine lv_aload_n hx hb dX0_choose_40 rfl (lv_at hl 0 rfl) ?_
      refine xG_X0_turns hx hb hF hown hI (hts _ (List.mem_of_getElem? (i := 7) rfl : (Cond.fieldLink RX0 21 "PlateRoom$CopyPlan" "turns" "[I" : Cond) ∈ wsX0_choose)) dX0_choose_41 ?_
      refine lv_iload hx hb dX0_choose_44 (lv_at hl 3 rfl) ?_
      have hin := hw.1
      have hw := hw.2
      refine xR_X0_turns hx hb hI hin dX0_choose_46 ?_
      refine lv_topi (fun a2 ea2 => ?_)
      have hw := hw a2 ea2
      refine lv_istore (lv' := [(5, .int a2), (0, .ref (g.2.1 1)), (2, .int x2), (3, .int x3), (4, .int x4)]) hx hb dX0_choose_47 hl (by decide) rfl (fun ls hl => ?_)
      refine lv_iload_n hx hb dX0_choose_49 rfl (lv_at hl 3 rfl) ?_
      refine lv_aload_n hx hb dX0_choose_50 rfl (lv_at hl 1 rfl) ?_
      refine xG_X0_hours hx hb hF hown hI (hts _ (List.mem_of_getElem? (i := 8) rfl : (Cond.fieldLink RX0 15 "PlateRoom$CopyPlan" "hours" "[I" : Cond) ∈ wsX0_choose)) dX0_choose_51 ?_
      refine lv_iload hx hb dX0_choose_54 (lv_at hl 0 rfl) ?_
      have hin := hw.1
      have hw := hw.2
      refine xR_X0_hours hx hb hI hin dX0_choose_56 ?_
      refine lv_iadd hx hb dX0_choose_57 ?_
      refine lv_topi (fun a3 ea3 => ?_)
      have hw := hw a3 ea3
      refine lv_istore_n (lv' := [(3, .int a3), (5, .int a2), (0, .ref (g.2.1 1)), (2, .int x2), (4, .int x4)]) hx hb dX0_choose_58 rfl hl (by decide) rfl (fun ls hl => ?_)
      refine lv_aload_n hx hb dX0_choose_59 rfl (lv_at hl 2 rfl) ?_
      refine lv_iload hx hb dX0_choose_60 (lv_at hl 1 rfl) ?_
      refine lv_iload_n hx hb dX0_choose_62 rfl (lv_at hl 0 rfl) ?_
      refine lv_aload_n hx hb dX0_choose_63 rfl (lv_at hl 2 rfl) ?_
      refine xG_X0_lost hx hb hF hown hI (hts _ (List.mem_of_getElem? (i := 9) rfl : (Cond.fieldLink RX0 18 "PlateRoom$CopyPlan" "lost" "[I" : Cond) ∈ wsX0_choose)) dX0_choose_64 ?_
      refine lv_iload hx hb dX0_choose_67 (lv_at hl 1 rfl) ?_
      have hin := hw.1
      have hw := hw.2
      refine xR_X0_lost hx hb hI hin dX0_choose_69 ?_
      refine va_mmin hx hb (hml.trans hl.1.symm) hown (hts _ (List.mem_of_getElem? (i := 1) rfl : (Cond.methodLink RX0 34 Lib.Math.min.name : Cond) ∈ wsX0_choose)) (hts _ (List.mem_of_getElem? (i := 2) rfl : (Cond.static Lib.Math.min.name : Cond) ∈ wsX0_choose)) (hts _ (List.mem_of_getElem? (i := 3) rfl : (Cond.initialized "java/lang/Math" : Cond) ∈ wsX0_choose)) (hts _ (List.mem_of_getElem? (i := 4) rfl : (Cond.code Lib.Math.min.name Lib.Math.min.code 2 (some .int) : Cond) ∈ wsX0_choose)) (Nat.le_of_ble_eq_true rfl) (Nat.le_of_ble_eq_true rfl) (Nat.zero_le _) (Nat.zero_le _) dX0_choose_70 ?_
      refine lv_topi (fun m4 em4 => ?_)
      have hw := hw m4 em4
      refine gVv (cx_X0_offer l g (σ := σ) hw) (xMv g) ⟨hx, hb, hml, hown, hts⟩ (cwV 2 hts gX0_choose_X0_offer rfl rfl rfl (by decide +kernel) ⟨Nat.le_of_ble_eq_true rfl, Nat.le_of_ble_eq_true rfl⟩) (xRecv_X0 hI) hI hS hl.1 rfl rfl (Nat.le_of_ble_eq_true rfl) dX0_choose_73 (fun σ5 H locs hw hI hS => ?_)
      obtain ⟨a6, ea6⟩ : ∃ y : Int32, y = x4 + 1 := ⟨_, rfl⟩
      have hw := hw a6 ea6
      refine lv_iinc (v := a6) (lv' := [(4, .int a6), (3, .int a3), (5, .int a2), (0, .ref (g.2.1 1)), (2, .int x2)]) hx hb dX0_choose_76 hl (k := 4) rfl (by rw [ea6]; rfl) (by decide) rfl (fun ls hl => ?_)
      refine lv_goto (tgt := 34) hx hb dX0_choose_79 (by decide) ?_
      rw [hK34] at hw
      exact ih34 _ _ _ _ _ _ _ hI hS (lv_sub hl [3, 4, 1, 0] rfl) hw
  exact key34 n34 _ _ _ _ _ _ _ hI hS (lv_sub hl [3, 2, 1, 0] rfl) hw
set_option maxRecDepth 100000 in
set_option maxHeartbeats 4000000 in
theorem cx_X0_wantedTogether (l : Launch) (g : wG) {σ : wS} {Q : Int32 → Prop} (hw : wx_X0_wantedTogether Q σ) : Met l yX0_wantedTogether wsX0_wantedTogether ({ frames := 0, cells := 0, slots := 0, locals := 0 } : Room) (va_Pc [.ref (g.2.1 1)] (fun U => xIn g σ U.heap U)) (va_Qi (fun r σ1 => Q r ∧ σ1 = σ) (fun σ1 t => xIn g σ1 t.heap t) (xA g)) 0 0 (xA g) := by
  refine gOfI (maxL := 1) (xMv g) (by decide) rfl (Nat.le_of_ble_eq_true rfl) ?_
  intro p e s m args below meth c QQ hx hb hml hown hts hret ls hl hI
  have hl : lv_has ls 1 [(0, .ref (g.2.1 1))] := hl
  have hS : va_S (xA g) s.heap s.heap [] := va_S.rf
  have hF : ∀ w ∈ wsX00, w.before args s = true := fun w h => hts w (List.mem_cons_of_mem _ (List.mem_append_right _ h))
  refine lv_aload_n hx hb dX0_wantedTogether_0 rfl (lv_at hl 0 rfl) ?_
  refine xG_X0_bestWorth hx hb hF hown hI (hts _ (List.mem_of_getElem? (i := 1) rfl : (Cond.fieldLink RX0 53 "PlateRoom$CopyPlan" "bestWorth" "J" : Cond) ∈ wsX0_wantedTogether)) dX0_wantedTogether_1 ?_
  refine lv_bipush (v := 20) hx hb dX0_wantedTogether_4 (by decide) ?_
  refine lv_lshr hx hb dX0_wantedTogether_6 rfl ?_
  refine lv_l2i hx hb dX0_wantedTogether_7 rfl ?_
  exact hret _ _ _ _ _ _ dX0_wantedTogether_8 ⟨hw, rfl⟩ hI hS
set_option maxRecDepth 100000 in
set_option maxHeartbeats 4000000 in
theorem cx_X5_best (l : Launch) (g : wG) {σ : wS} {Q : Int32 → wS → Prop} (hw : wx_X5_best Q σ) : Met l yX5_best wsX5_best ({ frames := 4, cells := 0, slots := 0, locals := 91 } : Room) (va_Pc [.ref (g.2.1 0)] (fun U => xIn g σ U.heap U)) (va_Qi Q (fun σ1 t => xIn g σ1 t.heap t) (xA g)) 0 0 (xA g) := by
  refine gOfI (maxL := 1) (xMv g) (by decide) rfl (Nat.le_of_ble_eq_true rfl) ?_
  intro p e s m args below meth c QQ hx hb hml hown hts hret ls hl hI
  have hl : lv_has ls 1 [(0, .ref (g.2.1 0))] := hl
  have hS : va_S (xA g) s.heap s.heap [] := va_S.rf
  have hF : ∀ w ∈ wsX50, w.before args s = true := fun w h => hts w (List.mem_cons_of_mem _ (List.mem_append_left _ (List.mem_append_right _ h)))
  refine lv_aload_n hx hb dX5_best_0 rfl (lv_at hl 0 rfl) ?_
  refine xG_X5_plan hx hb hF hown hI (hts _ (List.mem_of_getElem? (i := 1) rfl : (Cond.fieldLink RX5 33 "PlateRoom" "plan" "LPlateRoom$CopyPlan;" : Cond) ∈ wsX5_best)) dX5_best_1 ?_
  refine lv_aload_n hx hb dX5_best_4 rfl (lv_at hl 0 rfl) ?_
  refine xG_X5_plateCount hx hb hF hown hI (hts _ (List.mem_of_getElem? (i := 2) rfl : (Cond.fieldLink RX5 52 "PlateRoom" "plateCount" "I" : Cond) ∈ wsX5_best)) dX5_best_5 ?_
  refine gVv (cx_X0_choose l g (σ := σ) hw) (xMv g) ⟨hx, hb, hml, hown, hts⟩ (cwV 1 hts gX5_best_X0_choose rfl rfl rfl (by decide +kernel) ⟨Nat.le_of_ble_eq_true rfl, Nat.le_of_ble_eq_true rfl⟩) (xRecv_X0 hI) hI hS hl.1 rfl rfl (Nat.le_of_ble_eq_true rfl) dX5_best_8 (fun σ1 H locs hw hI hS => ?_)
  refine lv_aload_n hx hb dX5_best_11 rfl (lv_at hl 0 rfl) ?_
  refine lv_aload_n hx hb dX5_best_12 rfl (lv_at hl 0 rfl) ?_
  refine xG_X5_plan hx hb hF hown hI (hts _ (List.mem_of_getElem? (i := 1) rfl : (Cond.fieldLink RX5 33 "PlateRoom" "plan" "LPlateRoom$CopyPlan;" : Cond) ∈ wsX5_best)) dX5_best_13 ?_
  refine gVi (cx_X0_wantedTogether l g (σ := σ1) hw) (xMv g) ⟨hx, hb, hml, hown, hts⟩ (cwV 0 hts gX5_best_X0_wantedTogether rfl rfl rfl (by decide +kernel) ⟨Nat.le_of_ble_eq_true rfl, Nat.le_of_ble_eq_true rfl⟩) (xRecv_X0 hI) hI hS hl.1 rfl rfl (Nat.le_of_ble_eq_true rfl) dX5_best_16 (fun r2 σ3 H locs hw hI hS => ?_)
  obtain ⟨hw, hq⟩ := hw
  rw [hq] at hI
  refine gVi (cx_X5_answer l g (σ := σ1) hw) (xMv g) ⟨hx, hb, hml, hown, hts⟩ (cwV 1 hts gX5_best_X5_answer rfl rfl rfl (by decide +kernel) ⟨Nat.le_of_ble_eq_true rfl, Nat.le_of_ble_eq_true rfl⟩) (xRecv_X5 hI) hI hS hl.1 rfl rfl (Nat.le_of_ble_eq_true rfl) dX5_best_19 (fun r4 σ5 H locs hw hI hS => ?_)
  exact hret _ _ _ _ _ _ dX5_best_22 hw hI hS
set_option maxRecDepth 100000 in
set_option maxHeartbeats 4000000 in
theorem cx_X0_isChosen (l : Launch) (g : wG) {σ : wS} {x1 : Int32} {Q : Int32 → Prop} (hw : wx_X0_isChosen Q x1 σ) : Met l yX0_isChosen wsX0_isChosen ({ frames := 1, cells := 0, slots := 0, locals := 20 } : Room) (va_Pc [.ref (g.2.1 1), .int x1] (fun U => xIn g σ U.heap U)) (va_Qi (fun r σ1 => Q r ∧ σ1 = σ) (fun σ1 t => xIn g σ1 t.heap t) (xA g)) 0 0 (xA g) := by
  refine gOfZ (maxL := 2) (xMv g) (by decide) rfl (Nat.le_of_ble_eq_true rfl) ?_
  intro p e s m args below meth c QQ hx hb hml hown hts hret ls hl hI
  have hl : lv_has ls 2 [(0, .ref (g.2.1 1)), (1, .int x1)] := hl
  have hS : va_S (xA g) s.heap s.heap [] := va_S.rf
  have hF : ∀ w ∈ wsX00, w.before args s = true := fun w h => hts w (List.mem_cons_of_mem _ (List.mem_append_right _ h))
  refine lv_iload_n hx hb dX0_isChosen_0 rfl (lv_at hl 1 rfl) ?_
  refine lv_if_lt (tgt := 28) hx hb dX0_isChosen_1 (by decide) (fun hc => ?_) (fun hc => ?_)
  · have hw := hw.1 hc
    refine lv_iconst (v := 0) hx hb dX0_isChosen_28 (by decide) ?_
    exact hret _ _ _ _ _ _ dX0_isChosen_29 isB0 ⟨hw, rfl⟩ hI hS
  have hw := hw.2 hc
  refine lv_iload_n hx hb dX0_isChosen_4 rfl (lv_at hl 1 rfl) ?_
  refine lv_bipush (v := 20) hx hb dX0_isChosen_5 (by decide) ?_
  refine lv_icmp_ge (tgt := 28) hx hb dX0_isChosen_7 (by decide) (fun hc => ?_) (fun hc => ?_)
  · have hw := hw.1 hc
    refine lv_iconst (v := 0) hx hb dX0_isChosen_28 (by decide) ?_
    exact hret _ _ _ _ _ _ dX0_isChosen_29 isB0 ⟨hw, rfl⟩ hI hS
  have hw := hw.2 hc
  refine lv_aload_n hx hb dX0_isChosen_10 rfl (lv_at hl 0 rfl) ?_
  refine xG_X0_bestWorth hx hb hF hown hI (hts _ (List.mem_of_getElem? (i := 1) rfl : (Cond.fieldLink RX0 53 "PlateRoom$CopyPlan" "bestWorth" "J" : Cond) ∈ wsX0_isChosen)) dX0_isChosen_11 ?_
  refine lv_iload_n hx hb dX0_isChosen_14 rfl (lv_at hl 1 rfl) ?_
  refine gSl (cx_X0_bitOf l g (σ := σ) hw) (xMv g) ⟨hx, hb, hml, hown, hts⟩ (va_cwS 1 hts gX0_isChosen_X0_bitOf rfl rfl rfl (by decide +kernel) ⟨Nat.le_of_ble_eq_true rfl, Nat.le_of_ble_eq_true rfl⟩) hI hS hl.1 rfl rfl (Nat.le_of_ble_eq_true rfl) dX0_isChosen_15 (fun r1 σ2 H locs hw hI hS => ?_)
  obtain ⟨hw, hq⟩ := hw
  rw [hq] at hI
  refine lv_land hx hb dX0_isChosen_18 ?_
  refine lv_lconst (v := 0) hx hb dX0_isChosen_19 (by decide) ?_
  refine W.lcmp hx hb dX0_isChosen_20 ?_
  refine lv_if_eq (tgt := 28) hx hb dX0_isChosen_21 (by decide) (fun hc => ?_) (fun hc => ?_)
  · have hw := hw.1 ((lg_cmp_eq _ _).mp hc)
    refine lv_iconst (v := 0) hx hb dX0_isChosen_28 (by decide) ?_
    exact hret _ _ _ _ _ _ dX0_isChosen_29 isB0 ⟨hw, rfl⟩ hI hS
  have hw := hw.2 (fun h => hc ((lg_cmp_eq _ _).mpr h))
  refine lv_iconst (v := 1) hx hb dX0_isChosen_24 (by decide) ?_
  refine lv_goto (tgt := 29) hx hb dX0_isChosen_25 (by decide) ?_
  exact hret _ _ _ _ _ _ dX0_isChosen_29 isB1 ⟨hw, rfl⟩ hI hS
set_option maxRecDepth 100000 in
set_option maxHeartbeats 4000000 in
theorem cx_X0_beginningOf (l : Launch) (g : wG) {σ : wS} {x1 : Int32} {x2 : Int32} {Q : Int32 → Prop} (hw : wx_X0_beginningOf Q x1 x2 σ) : Met l yX0_beginningOf wsX0_beginningOf ({ frames := 2, cells := 0, slots := 0, locals := 41 } : Room) (va_Pc [.ref (g.2.1 1), .int x1, .int x2] (fun U => xIn g σ U.heap U)) (va_Qi (fun r σ1 => Q r ∧ σ1 = σ) (fun σ1 t => xIn g σ1 t.heap t) (xA g)) 0 0 (xA g) := by
  refine gOfI (maxL := 6) (xMv g) (by decide) rfl (Nat.le_of_ble_eq_true rfl) ?_
  intro p e s m args below meth c QQ hx hb hml hown hts hret ls hl hI
  have hl : lv_has ls 6 [(0, .ref (g.2.1 1)), (1, .int x1), (2, .int x2)] := hl
  have hS : va_S (xA g) s.heap s.heap [] := va_S.rf
  have hF : ∀ w ∈ wsX00, w.before args s = true := fun w h => hts w (List.mem_cons_of_mem _ (List.mem_append_right _ h))
  refine lv_iconst (v := 0) hx hb dX0_beginningOf_0 (by decide) ?_
  refine lv_istore_n (lv' := [(3, .int 0), (0, .ref (g.2.1 1)), (1, .int x1), (2, .int x2)]) hx hb dX0_beginningOf_1 rfl hl (by decide) rfl (fun ls hl => ?_)
  refine lv_iconst (v := 0) hx hb dX0_beginningOf_2 (by decide) ?_
  refine lv_istore (lv' := [(4, .int 0), (3, .int 0), (0, .ref (g.2.1 1)), (1, .int x1), (2, .int x2)]) hx hb dX0_beginningOf_3 hl (by decide) rfl (fun ls hl => ?_)
  obtain ⟨n5, hw⟩ := hw
  have key5 : ∀ (n : Nat) (x1 : Int32) (x2 : Int32) (x3 : Int32) (x4 : Int32) (H : Heap) (locs : List Loc) (ls : Array Slot), xIn g σ H s → va_S (xA g) s.heap H locs → lv_has ls 6 [(0, .ref (g.2.1 1)), (1, .int x1), (2, .int x2), (3, .int x3), (4, .int x4)] → wloop (wx_X0_beginningOf_L5 Q x1 x2 σ) n (x3, x4) → W p l e ({ frames := 2, cells := 0, slots := 0, locals := 41 } : Room) s m args below meth c H locs 0 0 QQ (F0 m 5 ls []) := by
    intro n
    induction n with
    | zero => intro x1 x2 x3 x4  H locs ls hI hS hl hw; exact False.elim hw
    | succ n ih =>
      intro x1 x2 x3 x4  H locs ls hI hS hl hw
      obtain ⟨K5, hK5⟩ : ∃ K, K = wloop (wx_X0_beginningOf_L5 Q x1 x2 σ) n := ⟨_, rfl⟩
      have hw : wx_X0_beginningOf_L5 Q x1 x2 σ K5 (x3, x4) := by rw [hK5]; exact hw
      dsimp only [wx_X0_beginningOf_L5] at hw
      have ih5 := ih
      refine lv_iload hx hb dX0_beginningOf_5 (lv_at hl 4 rfl) ?_
      refine lv_iload_n hx hb dX0_beginningOf_7 rfl (lv_at hl 2 rfl) ?_
      refine lv_icmp_ge (tgt := 60) hx hb dX0_beginningOf_8 (by decide) (fun hc => ?_) (fun hc => ?_)
      · have hw := hw.1 hc
        refine lv_iload_n hx hb dX0_beginningOf_60 rfl (lv_at hl 3 rfl) ?_
        exact hret _ _ _ _ _ _ dX0_beginningOf_61 ⟨hw, rfl⟩ hI hS
      have hw := hw.2 hc
      refine lv_iload hx hb dX0_beginningOf_11 (lv_at hl 4 rfl) ?_
      refine lv_bipush (v := 20) hx hb dX0_beginningOf_13 (by decide) ?_
      refine lv_icmp_ge (tgt := 60) hx hb dX0_beginningOf_15 (by decide) (fun hc => ?_) (fun hc => ?_)
      · have hw := hw.1 hc
        refine lv_iload_n hx hb dX0_beginningOf_60 rfl (lv_at hl 3 rfl) ?_
        exact hret _ _ _ _ _ _ dX0_beginningOf_61 ⟨hw, rfl⟩ hI hS
      have hw := hw.2 hc
      refine lv_aload_n hx hb dX0_beginningOf_18 rfl (lv_at hl 0 rfl) ?_
      refine xG_X0_turns hx hb hF hown hI (hts _ (List.mem_of_getElem? (i := 1) rfl : (Cond.fieldLink RX0 21 "PlateRoom$CopyPlan" "turns" "[I" : Cond) ∈ wsX0_beginningOf)) dX0_beginningOf_19 ?_
      refine lv_iload hx hb dX0_beginningOf_22 (lv_at hl 4 rfl) ?_
      have hin := hw.1
      have hw := hw.2
      refine xR_X0_turns hx hb hI hin dX0_beginningOf_24 ?_
      refine lv_topi (fun a1 ea1 => ?_)
      have hw := hw a1 ea1
      refine lv_istore (lv' := [(5, .int a1), (0, .ref (g.2.1 1)), (1, .int x1), (2, .int x2), (3, .int x3), (4, .int x4)]) hx hb dX0_beginningOf_25 hl (by decide) rfl (fun ls hl => ?_)
      refine lv_iload hx hb dX0_beginningOf_27 (lv_at hl 0 rfl) ?_
      refine lv_iload_n hx hb dX0_beginningOf_29 rfl (lv_at hl 2 rfl) ?_
      refine lv_icmp_ne (tgt := 35) hx hb dX0_beginningOf_30 (by decide) (fun hc => ?_) (fun hc => ?_)
      · have hw := hw.1 hc
        refine lv_aload_n hx hb dX0_beginningOf_35 rfl (lv_at hl 1 rfl) ?_
        refine lv_iload hx hb dX0_beginningOf_36 (lv_at hl 0 rfl) ?_
        refine gVi (cx_X0_isChosen l g (σ := σ) hw) (xMv g) ⟨hx, hb, hml, hown, hts⟩ (cwV 1 hts gX0_beginningOf_X0_isChosen rfl rfl rfl (by decide +kernel) ⟨Nat.le_of_ble_eq_true rfl, Nat.le_of_ble_eq_true rfl⟩) (xRecv_X0 hI) hI hS hl.1 rfl rfl (Nat.le_of_ble_eq_true rfl) dX0_beginningOf_38 (fun r2 σ3 H locs hw hI hS => ?_)
        obtain ⟨hw, hq⟩ := hw
        rw [hq] at hI
        refine lv_if_eq (tgt := 54) hx hb dX0_beginningOf_41 (by decide) (fun hc => ?_) (fun hc => ?_)
        · have hw := hw.1 hc
          obtain ⟨a4, ea4⟩ : ∃ y : Int32, y = x4 + 1 := ⟨_, rfl⟩
          have hw := hw a4 ea4
          refine lv_iinc (v := a4) (lv' := [(4, .int a4), (5, .int a1), (0, .ref (g.2.1 1)), (1, .int x1), (2, .int x2), (3, .int x3)]) hx hb dX0_beginningOf_54 hl (k := 5) rfl (by rw [ea4]; rfl) (by decide) rfl (fun ls hl => ?_)
          refine lv_goto (tgt := 5) hx hb dX0_beginningOf_57 (by decide) ?_
          rw [hK5] at hw
          exact ih5 _ _ _ _ _ _ _ hI hS (lv_sub hl [2, 3, 4, 5, 0] rfl) hw
        have hw := hw.2 hc
        refine lv_iload_n hx hb dX0_beginningOf_44 rfl (lv_at hl 4 rfl) ?_
        refine lv_aload_n hx hb dX0_beginningOf_45 rfl (lv_at hl 1 rfl) ?_
        refine xG_X0_hours hx hb hF hown hI (hts _ (List.mem_of_getElem? (i := 2) rfl : (Cond.fieldLink RX0 15 "PlateRoom$CopyPlan" "hours" "[I" : Cond) ∈ wsX0_beginningOf)) dX0_beginningOf_46 ?_
        refine lv_iload hx hb dX0_beginningOf_49 (lv_at hl 0 rfl) ?_
        have hin := hw.1
        have hw := hw.2
        refine xR_X0_hours hx hb hI hin dX0_beginningOf_51 ?_
        refine lv_iadd hx hb dX0_beginningOf_52 ?_
        refine lv_topi (fun a5 ea5 => ?_)
        have hw := hw a5 ea5
        refine lv_istore_n (lv' := [(3, .int a5), (5, .int a1), (0, .ref (g.2.1 1)), (1, .int x1), (2, .int x2), (4, .int x4)]) hx hb dX0_beginningOf_53 rfl hl (by decide) rfl (fun ls hl => ?_)
        obtain ⟨a6, ea6⟩ : ∃ y : Int32, y = x4 + 1 := ⟨_, rfl⟩
        have hw := hw a6 ea6
        refine lv_iinc (v := a6) (lv' := [(4, .int a6), (3, .int a5), (5, .int a1), (0, .ref (g.2.1 1)), (1, .int x1), (2, .int x2)]) hx hb dX0_beginningOf_54 hl (k := 5) rfl (by rw [ea6]; rfl) (by decide) rfl (fun ls hl => ?_)
        refine lv_goto (tgt := 5) hx hb dX0_beginningOf_57 (by decide) ?_
        rw [hK5] at hw
        exact ih5 _ _ _ _ _ _ _ hI hS (lv_sub hl [3, 4, 5, 1, 0] rfl) hw
      have hw := hw.2 hc
      refine lv_iload_n hx hb dX0_beginningOf_33 rfl (lv_at hl 4 rfl) ?_
      exact hret _ _ _ _ _ _ dX0_beginningOf_34 ⟨hw, rfl⟩ hI hS
  exact key5 n5 _ _ _ _ _ _ _ hI hS (lv_sub hl [2, 3, 4, 1, 0] rfl) hw
set_option maxRecDepth 100000 in
set_option maxHeartbeats 4000000 in
theorem cx_X5_hour (l : Launch) (g : wG) {σ : wS} {x1 : Int32} {Q : Int32 → wS → Prop} (hw : wx_X5_hour Q x1 σ) : Met l yX5_hour wsX5_hour ({ frames := 4, cells := 0, slots := 0, locals := 91 } : Room) (va_Pc [.ref (g.2.1 0), .int x1] (fun U => xIn g σ U.heap U)) (va_Qi Q (fun σ1 t => xIn g σ1 t.heap t) (xA g)) 0 0 (xA g) := by
  refine gOfI (maxL := 2) (xMv g) (by decide) rfl (Nat.le_of_ble_eq_true rfl) ?_
  intro p e s m args below meth c QQ hx hb hml hown hts hret ls hl hI
  have hl : lv_has ls 2 [(0, .ref (g.2.1 0)), (1, .int x1)] := hl
  have hS : va_S (xA g) s.heap s.heap [] := va_S.rf
  have hF : ∀ w ∈ wsX50, w.before args s = true := fun w h => hts w (List.mem_cons_of_mem _ (List.mem_append_left _ (List.mem_append_right _ h)))
  refine lv_aload_n hx hb dX5_hour_0 rfl (lv_at hl 0 rfl) ?_
  refine lv_iload_n hx hb dX5_hour_1 rfl (lv_at hl 1 rfl) ?_
  refine gVi (cx_X5_isPlate l g (σ := σ) hw) (xMv g) ⟨hx, hb, hml, hown, hts⟩ (cwV 1 hts gX5_hour_X5_isPlate rfl rfl rfl (by decide +kernel) ⟨Nat.le_of_ble_eq_true rfl, Nat.le_of_ble_eq_true rfl⟩) (xRecv_X5 hI) hI hS hl.1 rfl rfl (Nat.le_of_ble_eq_true rfl) dX5_hour_2 (fun r1 σ2 H locs hw hI hS => ?_)
  obtain ⟨hw, hq⟩ := hw
  rw [hq] at hI
  refine lv_if_ne (tgt := 14) hx hb dX5_hour_5 (by decide) (fun hc => ?_) (fun hc => ?_)
  · have hw := hw.1 hc
    refine lv_aload_n hx hb dX5_hour_14 rfl (lv_at hl 0 rfl) ?_
    refine xG_X5_plan hx hb hF hown hI (hts _ (List.mem_of_getElem? (i := 1) rfl : (Cond.fieldLink RX5 33 "PlateRoom" "plan" "LPlateRoom$CopyPlan;" : Cond) ∈ wsX5_hour)) dX5_hour_15 ?_
    refine lv_aload_n hx hb dX5_hour_18 rfl (lv_at hl 0 rfl) ?_
    refine xG_X5_plateCount hx hb hF hown hI (hts _ (List.mem_of_getElem? (i := 2) rfl : (Cond.fieldLink RX5 52 "PlateRoom" "plateCount" "I" : Cond) ∈ wsX5_hour)) dX5_hour_19 ?_
    refine gVv (cx_X0_choose l g (σ := σ) hw) (xMv g) ⟨hx, hb, hml, hown, hts⟩ (cwV 1 hts gX5_hour_X0_choose rfl rfl rfl (by decide +kernel) ⟨Nat.le_of_ble_eq_true rfl, Nat.le_of_ble_eq_true rfl⟩) (xRecv_X0 hI) hI hS hl.1 rfl rfl (Nat.le_of_ble_eq_true rfl) dX5_hour_22 (fun σ3 H locs hw hI hS => ?_)
    refine lv_aload_n hx hb dX5_hour_25 rfl (lv_at hl 0 rfl) ?_
    refine xG_X5_plan hx hb hF hown hI (hts _ (List.mem_of_getElem? (i := 1) rfl : (Cond.fieldLink RX5 33 "PlateRoom" "plan" "LPlateRoom$CopyPlan;" : Cond) ∈ wsX5_hour)) dX5_hour_26 ?_
    refine lv_iload_n hx hb dX5_hour_29 rfl (lv_at hl 1 rfl) ?_
    refine gVi (cx_X0_isChosen l g (σ := σ3) hw) (xMv g) ⟨hx, hb, hml, hown, hts⟩ (cwV 1 hts gX5_hour_X0_isChosen rfl rfl rfl (by decide +kernel) ⟨Nat.le_of_ble_eq_true rfl, Nat.le_of_ble_eq_true rfl⟩) (xRecv_X0 hI) hI hS hl.1 rfl rfl (Nat.le_of_ble_eq_true rfl) dX5_hour_30 (fun r4 σ5 H locs hw hI hS => ?_)
    obtain ⟨hw, hq⟩ := hw
    rw [hq] at hI
    refine lv_if_ne (tgt := 43) hx hb dX5_hour_33 (by decide) (fun hc => ?_) (fun hc => ?_)
    · have hw := hw.1 hc
      refine lv_aload_n hx hb dX5_hour_43 rfl (lv_at hl 0 rfl) ?_
      refine lv_aload_n hx hb dX5_hour_44 rfl (lv_at hl 0 rfl) ?_
      refine xG_X5_plan hx hb hF hown hI (hts _ (List.mem_of_getElem? (i := 1) rfl : (Cond.fieldLink RX5 33 "PlateRoom" "plan" "LPlateRoom$CopyPlan;" : Cond) ∈ wsX5_hour)) dX5_hour_45 ?_
      refine lv_iload_n hx hb dX5_hour_48 rfl (lv_at hl 1 rfl) ?_
      refine lv_aload_n hx hb dX5_hour_49 rfl (lv_at hl 0 rfl) ?_
      refine xG_X5_plateCount hx hb hF hown hI (hts _ (List.mem_of_getElem? (i := 2) rfl : (Cond.fieldLink RX5 52 "PlateRoom" "plateCount" "I" : Cond) ∈ wsX5_hour)) dX5_hour_50 ?_
      refine gVi (cx_X0_beginningOf l g (σ := σ3) hw) (xMv g) ⟨hx, hb, hml, hown, hts⟩ (cwV 2 hts gX5_hour_X0_beginningOf rfl rfl rfl (by decide +kernel) ⟨Nat.le_of_ble_eq_true rfl, Nat.le_of_ble_eq_true rfl⟩) (xRecv_X0 hI) hI hS hl.1 rfl rfl (Nat.le_of_ble_eq_true rfl) dX5_hour_53 (fun r6 σ7 H locs hw hI hS => ?_)
      obtain ⟨hw, hq⟩ := hw
      rw [hq] at hI
      refine gVi (cx_X5_answer l g (σ := σ3) hw) (xMv g) ⟨hx, hb, hml, hown, hts⟩ (cwV 1 hts gX5_hour_X5_answer rfl rfl rfl (by decide +kernel) ⟨Nat.le_of_ble_eq_true rfl, Nat.le_of_ble_eq_true rfl⟩) (xRecv_X5 hI) hI hS hl.1 rfl rfl (Nat.le_of_ble_eq_true rfl) dX5_hour_56 (fun r8 σ9 H locs hw hI hS => ?_)
      exact hret _ _ _ _ _ _ dX5_hour_59 hw hI hS
    have hw := hw.2 hc
    refine lv_aload_n hx hb dX5_hour_36 rfl (lv_at hl 0 rfl) ?_
    refine lv_bipush (v := 8) hx hb dX5_hour_37 (by decide) ?_
    refine gVi (cx_X5_refuse l g (σ := σ3) hw) (xMv g) ⟨hx, hb, hml, hown, hts⟩ (cwV 1 hts gX5_hour_X5_refuse rfl rfl rfl (by decide +kernel) ⟨Nat.le_of_ble_eq_true rfl, Nat.le_of_ble_eq_true rfl⟩) (xRecv_X5 hI) hI hS hl.1 rfl rfl (Nat.le_of_ble_eq_true rfl) dX5_hour_39 (fun r10 σ11 H locs hw hI hS => ?_)
    exact hret _ _ _ _ _ _ dX5_hour_42 hw hI hS
  have hw := hw.2 hc
  refine lv_aload_n hx hb dX5_hour_8 rfl (lv_at hl 0 rfl) ?_
  refine lv_iconst (v := 1) hx hb dX5_hour_9 (by decide) ?_
  refine gVi (cx_X5_refuse l g (σ := σ) hw) (xMv g) ⟨hx, hb, hml, hown, hts⟩ (cwV 1 hts gX5_hour_X5_refuse rfl rfl rfl (by decide +kernel) ⟨Nat.le_of_ble_eq_true rfl, Nat.le_of_ble_eq_true rfl⟩) (xRecv_X5 hI) hI hS hl.1 rfl rfl (Nat.le_of_ble_eq_true rfl) dX5_hour_10 (fun r12 σ13 H locs hw hI hS => ?_)
  exact hret _ _ _ _ _ _ dX5_hour_13 hw hI hS
set_option maxRecDepth 100000 in
set_option maxHeartbeats 4000000 in
theorem cx_X3_hasAllLaws (l : Launch) (g : wG) {σ : wS} {Q : Int32 → Prop} (hw : wx_X3_hasAllLaws Q σ) : Met l yX3_hasAllLaws wsX3_hasAllLaws ({ frames := 0, cells := 0, slots := 0, locals := 0 } : Room) (va_Pc [.ref (g.2.1 4)] (fun U => xIn g σ U.heap U)) (va_Qi (fun r σ1 => Q r ∧ σ1 = σ) (fun σ1 t => xIn g σ1 t.heap t) (xA g)) 0 0 (xA g) := by
  refine gOfZ (maxL := 1) (xMv g) (by decide) rfl (Nat.le_of_ble_eq_true rfl) ?_
  intro p e s m args below meth c QQ hx hb hml hown hts hret ls hl hI
  have hl : lv_has ls 1 [(0, .ref (g.2.1 4))] := hl
  have hS : va_S (xA g) s.heap s.heap [] := va_S.rf
  have hF : ∀ w ∈ wsX30, w.before args s = true := fun w h => hts w (List.mem_cons_of_mem _ (List.mem_append_right _ h))
  refine lv_aload_n hx hb dX3_hasAllLaws_0 rfl (lv_at hl 0 rfl) ?_
  refine xG_X3_lawCount hx hb hF hown hI (hts _ (List.mem_of_getElem? (i := 1) rfl : (Cond.fieldLink RX3 27 "PlateRoom$RightsBook" "lawCount" "I" : Cond) ∈ wsX3_hasAllLaws)) dX3_hasAllLaws_1 ?_
  refine lv_bipush (v := 10) hx hb dX3_hasAllLaws_4 (by decide) ?_
  refine lv_icmp_lt (tgt := 13) hx hb dX3_hasAllLaws_6 (by decide) (fun hc => ?_) (fun hc => ?_)
  · have hw := hw.1 hc
    refine lv_iconst (v := 0) hx hb dX3_hasAllLaws_13 (by decide) ?_
    exact hret _ _ _ _ _ _ dX3_hasAllLaws_14 isB0 ⟨hw, rfl⟩ hI hS
  have hw := hw.2 hc
  refine lv_iconst (v := 1) hx hb dX3_hasAllLaws_9 (by decide) ?_
  refine lv_goto (tgt := 14) hx hb dX3_hasAllLaws_10 (by decide) ?_
  exact hret _ _ _ _ _ _ dX3_hasAllLaws_14 isB1 ⟨hw, rfl⟩ hI hS
set_option maxRecDepth 100000 in
set_option maxHeartbeats 4000000 in
theorem cx_X3_addLaw (l : Launch) (g : wG) {σ : wS} {x1 : Int32} {x2 : Int32} {Q : wS → Prop} (hw : wx_X3_addLaw Q x1 x2 σ) : Met l yX3_addLaw wsX3_addLaw ({ frames := 1, cells := 0, slots := 0, locals := 20 } : Room) (va_Pc [.ref (g.2.1 4), .int x1, .int x2] (fun U => xIn g σ U.heap U)) (va_Qv Q (fun σ1 t => xIn g σ1 t.heap t) (xA g)) 0 0 (xA g) := by
  refine gOfV (maxL := 3) (xMv g) (by decide) rfl (Nat.le_of_ble_eq_true rfl) ?_
  intro p e s m args below meth c QQ hx hb hml hown hts hret ls hl hI
  have hl : lv_has ls 3 [(0, .ref (g.2.1 4)), (1, .int x1), (2, .int x2)] := hl
  have hS : va_S (xA g) s.heap s.heap [] := va_S.rf
  have hF : ∀ w ∈ wsX30, w.before args s = true := fun w h => hts w (List.mem_cons_of_mem _ (List.mem_append_right _ h))
  refine lv_aload_n hx hb dX3_addLaw_0 rfl (lv_at hl 0 rfl) ?_
  refine gVi (cx_X3_hasAllLaws l g (σ := σ) hw) (xMv g) ⟨hx, hb, hml, hown, hts⟩ (cwV 0 hts gX3_addLaw_X3_hasAllLaws rfl rfl rfl (by decide +kernel) ⟨Nat.le_of_ble_eq_true rfl, Nat.le_of_ble_eq_true rfl⟩) (xRecv_X3 hI) hI hS hl.1 rfl rfl (Nat.le_of_ble_eq_true rfl) dX3_addLaw_1 (fun r1 σ2 H locs hw hI hS => ?_)
  obtain ⟨hw, hq⟩ := hw
  rw [hq] at hI
  refine lv_if_eq (tgt := 8) hx hb dX3_addLaw_4 (by decide) (fun hc => ?_) (fun hc => ?_)
  · have hw := hw.1 hc
    refine lv_aload_n hx hb dX3_addLaw_8 rfl (lv_at hl 0 rfl) ?_
    refine xG_X3_lawStarts hx hb hF hown hI (hts _ (List.mem_of_getElem? (i := 1) rfl : (Cond.fieldLink RX3 9 "PlateRoom$RightsBook" "lawStarts" "[I" : Cond) ∈ wsX3_addLaw)) dX3_addLaw_9 ?_
    refine lv_aload_n hx hb dX3_addLaw_12 rfl (lv_at hl 0 rfl) ?_
    refine xG_X3_lawCount hx hb hF hown hI (hts _ (List.mem_of_getElem? (i := 2) rfl : (Cond.fieldLink RX3 27 "PlateRoom$RightsBook" "lawCount" "I" : Cond) ∈ wsX3_addLaw)) dX3_addLaw_13 ?_
    refine lv_iload_n hx hb dX3_addLaw_16 rfl (lv_at hl 1 rfl) ?_
    have hin := hw.1
    have hw := hw.2
    refine xS_X3_lawStarts hx hb hI hS hin dX3_addLaw_17 (fun σ3 eσ3 H locs hI hS => ?_)
    have hw := hw σ3 eσ3
    refine lv_aload_n hx hb dX3_addLaw_18 rfl (lv_at hl 0 rfl) ?_
    refine xG_X3_lawDays hx hb hF hown hI (hts _ (List.mem_of_getElem? (i := 3) rfl : (Cond.fieldLink RX3 15 "PlateRoom$RightsBook" "lawDays" "[I" : Cond) ∈ wsX3_addLaw)) dX3_addLaw_19 ?_
    refine lv_aload_n hx hb dX3_addLaw_22 rfl (lv_at hl 0 rfl) ?_
    refine xG_X3_lawCount hx hb hF hown hI (hts _ (List.mem_of_getElem? (i := 2) rfl : (Cond.fieldLink RX3 27 "PlateRoom$RightsBook" "lawCount" "I" : Cond) ∈ wsX3_addLaw)) dX3_addLaw_23 ?_
    refine lv_iload_n hx hb dX3_addLaw_26 rfl (lv_at hl 2 rfl) ?_
    have hin := hw.1
    have hw := hw.2
    refine xS_X3_lawDays hx hb hI hS hin dX3_addLaw_27 (fun σ4 eσ4 H locs hI hS => ?_)
    have hw := hw σ4 eσ4
    refine lv_aload_n hx hb dX3_addLaw_28 rfl (lv_at hl 0 rfl) ?_
    refine lv_dup hx hb dX3_addLaw_29 rfl ?_
    refine xG_X3_lawCount hx hb hF hown hI (hts _ (List.mem_of_getElem? (i := 2) rfl : (Cond.fieldLink RX3 27 "PlateRoom$RightsBook" "lawCount" "I" : Cond) ∈ wsX3_addLaw)) dX3_addLaw_30 ?_
    refine lv_iconst (v := 1) hx hb dX3_addLaw_33 (by decide) ?_
    refine lv_iadd hx hb dX3_addLaw_34 ?_
    refine xP_X3_lawCount hx hb hF hown hI hS (hts _ (List.mem_of_getElem? (i := 2) rfl : (Cond.fieldLink RX3 27 "PlateRoom$RightsBook" "lawCount" "I" : Cond) ∈ wsX3_addLaw)) dX3_addLaw_35 (fun σ5 eσ5 H locs hI hS => ?_)
    have hw := hw σ5 eσ5
    exact hret _ _ _ _ _ dX3_addLaw_38 hw hI hS
  have hw := hw.2 hc
  exact hret _ _ _ _ _ dX3_addLaw_7 hw hI hS
