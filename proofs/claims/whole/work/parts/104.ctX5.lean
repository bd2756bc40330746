set_option maxRecDepth 100000 in
set_option maxHeartbeats 4000000 in
theorem cx_X1_compare (l : Launch) (g : wG) {σ : wS} {x1 : Int32} {Q : wS → Prop} (hw : wx_X1_compare Q x1 σ) : Met l yX1_compare wsX1_compare ({ frames := 1, cells := 0, slots := 0, locals := 21 } : Room) (va_Pc [.ref (g.2.1 2), .int x1] (fun U => xIn g σ U.heap U)) (va_Qv Q (fun σ1 t => xIn g σ1 t.heap t) (xA g)) 0 0 (xA g) := by
  refine gOfV (maxL := 4) (xMv g) (by decide) rfl (Nat.le_of_ble_eq_true rfl) ?_
  intro p e s m args below meth c QQ hx hb hml hown hts hret ls hl hI
  have hl : lv_has ls 4 [(0, .ref (g.2.1 2)), (1, .int x1)] := hl
  have hS : va_S (xA g) s.heap s.heap [] := va_S.rf
  have hF : ∀ w ∈ wsX10, w.before args s = true := fun w h => hts w (List.mem_cons_of_mem _ (List.mem_append_right _ h))
  refine lv_aload_n hx hb dX1_compare_0 rfl (lv_at hl 0 rfl) ?_
  refine xG_X1_likeLeft hx hb hF hown hI (hts _ (List.mem_of_getElem? (i := 1) rfl : (Cond.fieldLink RX1 18 "PlateRoom$EdgeTable" "likeLeft" "[I" : Cond) ∈ wsX1_compare)) dX1_compare_1 ?_
  refine lv_iload_n hx hb dX1_compare_4 rfl (lv_at hl 1 rfl) ?_
  refine lv_iconst (v := 1) hx hb dX1_compare_5 (by decide) ?_
  refine lv_iload_n hx hb dX1_compare_6 rfl (lv_at hl 1 rfl) ?_
  refine lv_ishl hx hb dX1_compare_7 ?_
  have hin := hw.1
  have hw := hw.2
  refine xS_X1_likeLeft hx hb hI hS hin dX1_compare_8 (fun σ1 eσ1 H locs hI hS => ?_)
  have hw := hw σ1 eσ1
  refine lv_aload_n hx hb dX1_compare_9 rfl (lv_at hl 0 rfl) ?_
  refine xG_X1_leftOf hx hb hF hown hI (hts _ (List.mem_of_getElem? (i := 2) rfl : (Cond.fieldLink RX1 21 "PlateRoom$EdgeTable" "leftOf" "[I" : Cond) ∈ wsX1_compare)) dX1_compare_10 ?_
  refine lv_iload_n hx hb dX1_compare_13 rfl (lv_at hl 1 rfl) ?_
  refine lv_iconst (v := 0) hx hb dX1_compare_14 (by decide) ?_
  have hin := hw.1
  have hw := hw.2
  refine xS_X1_leftOf hx hb hI hS hin dX1_compare_15 (fun σ2 eσ2 H locs hI hS => ?_)
  have hw := hw σ2 eσ2
  refine lv_aload_n hx hb dX1_compare_16 rfl (lv_at hl 0 rfl) ?_
  refine xG_X1_rightOf hx hb hF hown hI (hts _ (List.mem_of_getElem? (i := 3) rfl : (Cond.fieldLink RX1 24 "PlateRoom$EdgeTable" "rightOf" "[I" : Cond) ∈ wsX1_compare)) dX1_compare_17 ?_
  refine lv_iload_n hx hb dX1_compare_20 rfl (lv_at hl 1 rfl) ?_
  refine lv_iconst (v := 0) hx hb dX1_compare_21 (by decide) ?_
  have hin := hw.1
  have hw := hw.2
  refine xS_X1_rightOf hx hb hI hS hin dX1_compare_22 (fun σ3 eσ3 H locs hI hS => ?_)
  have hw := hw σ3 eσ3
  refine lv_iconst (v := 0) hx hb dX1_compare_23 (by decide) ?_
  refine lv_istore_n (lv' := [(2, .int 0), (0, .ref (g.2.1 2)), (1, .int x1)]) hx hb dX1_compare_24 rfl hl (by decide) rfl (fun ls hl => ?_)
  obtain ⟨n25, hw⟩ := hw
  have key25 : ∀ (n : Nat) (x1 : Int32) (x2 : Int32) (σ : wS) (H : Heap) (locs : List Loc) (ls : Array Slot), xIn g σ H s → va_S (xA g) s.heap H locs → lv_has ls 4 [(0, .ref (g.2.1 2)), (1, .int x1), (2, .int x2)] → wloop (wx_X1_compare_L25 Q x1) n (x2, σ) → W p l e ({ frames := 1, cells := 0, slots := 0, locals := 21 } : Room) s m args below meth c H locs 0 0 QQ (F0 m 25 ls []) := by
    intro n
    induction n with
    | zero => intro x1 x2 σ H locs ls hI hS hl hw; exact False.elim hw
    | succ n ih =>
      intro x1 x2 σ H locs ls hI hS hl hw
      obtain ⟨K25, hK25⟩ : ∃ K, K = wloop (wx_X1_compare_L25 Q x1) n := ⟨_, rfl⟩
      have hw : wx_X1_compare_L25 Q x1 K25 (x2, σ) := by rw [hK25]; exact hw
      dsimp only [wx_X1_compare_L25] at hw
      have ih25 := ih
      have j91 : ∀ (x2 : Int32) (x3 : Int32) (σ : wS) (H : Heap) (locs : List Loc) (ls : Array Slot), xIn g σ H s → va_S (xA g) s.heap H locs → lv_has ls 4 [(0, .ref (g.2.1 2)), (1, .int x1), (2, .int x2), (3, .int x3)] → wx_X1_compare_J91 Q K25 x1 x2 x3 σ → W p l e ({ frames := 1, cells := 0, slots := 0, locals := 21 } : Room) s m args below meth c H locs 0 0 QQ (F0 m 91 ls []) := by
        intro x2 x3 σ H locs ls hI hS hl hw
        refine lv_aload_n hx hb dX1_compare_91 rfl (lv_at hl 0 rfl) ?_
        refine xG_X1_rights hx hb hF hown hI (hts _ (List.mem_of_getElem? (i := 5) rfl : (Cond.fieldLink RX1 15 "PlateRoom$EdgeTable" "rights" "[I" : Cond) ∈ wsX1_compare)) dX1_compare_92 ?_
        refine lv_iload_n hx hb dX1_compare_95 rfl (lv_at hl 1 rfl) ?_
        have hin := hw.1
        have hw := hw.2
        refine xR_X1_rights hx hb hI hin dX1_compare_96 ?_
        refine lv_aload_n hx hb dX1_compare_97 rfl (lv_at hl 0 rfl) ?_
        refine xG_X1_lefts hx hb hF hown hI (hts _ (List.mem_of_getElem? (i := 4) rfl : (Cond.fieldLink RX1 9 "PlateRoom$EdgeTable" "lefts" "[I" : Cond) ∈ wsX1_compare)) dX1_compare_98 ?_
        refine lv_iload_n hx hb dX1_compare_101 rfl (lv_at hl 2 rfl) ?_
        have hin := hw.1
        have hw := hw.2
        refine xR_X1_lefts hx hb hI hin dX1_compare_102 ?_
        refine gSi (cx_X1_fits l g (σ := σ) hw) (xMv g) ⟨hx, hb, hml, hown, hts⟩ (va_cwS 2 hts gX1_compare_X1_fits rfl rfl rfl (by decide +kernel) ⟨Nat.le_of_ble_eq_true rfl, Nat.le_of_ble_eq_true rfl⟩) hI hS hl.1 rfl rfl (Nat.le_of_ble_eq_true rfl) dX1_compare_103 (fun r1 σ2 H locs hw hI hS => ?_)
        obtain ⟨hw, hq⟩ := hw
        rw [hq] at hI
        refine lv_if_eq (tgt := 119) hx hb dX1_compare_106 (by decide) (fun hc => ?_) (fun hc => ?_)
        · have hw := hw.1 hc
          obtain ⟨a3, ea3⟩ : ∃ y : Int32, y = x2 + 1 := ⟨_, rfl⟩
          have hw := hw a3 ea3
          refine lv_iinc (v := a3) (lv' := [(2, .int a3), (0, .ref (g.2.1 2)), (1, .int x1), (3, .int x3)]) hx hb dX1_compare_119 hl (k := 2) rfl (by rw [ea3]; rfl) (by decide) rfl (fun ls hl => ?_)
          refine lv_goto (tgt := 25) hx hb dX1_compare_122 (by decide) ?_
          rw [hK25] at hw
          exact ih25 _ _ _ _ _ _ hI hS (lv_sub hl [1, 2, 0] rfl) hw
        have hw := hw.2 hc
        refine lv_aload_n hx hb dX1_compare_109 rfl (lv_at hl 0 rfl) ?_
        refine xG_X1_rightOf hx hb hF hown hI (hts _ (List.mem_of_getElem? (i := 3) rfl : (Cond.fieldLink RX1 24 "PlateRoom$EdgeTable" "rightOf" "[I" : Cond) ∈ wsX1_compare)) dX1_compare_110 ?_
        refine lv_iload_n hx hb dX1_compare_113 rfl (lv_at hl 1 rfl) ?_
        refine lv_dup2_11 hx hb dX1_compare_114 rfl rfl ?_
        have hin := hw.1
        have hw := hw.2
        refine xR_X1_rightOf hx hb hI hin dX1_compare_115 ?_
        refine lv_iload_n hx hb dX1_compare_116 rfl (lv_at hl 3 rfl) ?_
        refine lv_ior hx hb dX1_compare_117 ?_
        have hin := hw.1
        have hw := hw.2
        refine xS_X1_rightOf hx hb hI hS hin dX1_compare_118 (fun σ4 eσ4 H locs hI hS => ?_)
        have hw := hw σ4 eσ4
        obtain ⟨a5, ea5⟩ : ∃ y : Int32, y = x2 + 1 := ⟨_, rfl⟩
        have hw := hw a5 ea5
        refine lv_iinc (v := a5) (lv' := [(2, .int a5), (0, .ref (g.2.1 2)), (1, .int x1), (3, .int x3)]) hx hb dX1_compare_119 hl (k := 2) rfl (by rw [ea5]; rfl) (by decide) rfl (fun ls hl => ?_)
        refine lv_goto (tgt := 25) hx hb dX1_compare_122 (by decide) ?_
        rw [hK25] at hw
        exact ih25 _ _ _ _ _ _ hI hS (lv_sub hl [1, 2, 0] rfl) hw
      have j63 : ∀ (x2 : Int32) (x3 : Int32) (σ : wS) (H : Heap) (locs : List Loc) (ls : Array Slot), xIn g σ H s → va_S (xA g) s.heap H locs → lv_has ls 4 [(0, .ref (g.2.1 2)), (1, .int x1), (2, .int x2), (3, .int x3)] → wx_X1_compare_J63 Q K25 x1 x2 x3 σ → W p l e ({ frames := 1, cells := 0, slots := 0, locals := 21 } : Room) s m args below meth c H locs 0 0 QQ (F0 m 63 ls []) := by
        intro x2 x3 σ H locs ls hI hS hl hw
        refine lv_aload_n hx hb dX1_compare_63 rfl (lv_at hl 0 rfl) ?_
        refine xG_X1_lefts hx hb hF hown hI (hts _ (List.mem_of_getElem? (i := 4) rfl : (Cond.fieldLink RX1 9 "PlateRoom$EdgeTable" "lefts" "[I" : Cond) ∈ wsX1_compare)) dX1_compare_64 ?_
        refine lv_iload_n hx hb dX1_compare_67 rfl (lv_at hl 1 rfl) ?_
        have hin := hw.1
        have hw := hw.2
        refine xR_X1_lefts hx hb hI hin dX1_compare_68 ?_
        refine lv_aload_n hx hb dX1_compare_69 rfl (lv_at hl 0 rfl) ?_
        refine xG_X1_rights hx hb hF hown hI (hts _ (List.mem_of_getElem? (i := 5) rfl : (Cond.fieldLink RX1 15 "PlateRoom$EdgeTable" "rights" "[I" : Cond) ∈ wsX1_compare)) dX1_compare_70 ?_
        refine lv_iload_n hx hb dX1_compare_73 rfl (lv_at hl 2 rfl) ?_
        have hin := hw.1
        have hw := hw.2
        refine xR_X1_rights hx hb hI hin dX1_compare_74 ?_
        refine gSi (cx_X1_fits l g (σ := σ) hw) (xMv g) ⟨hx, hb, hml, hown, hts⟩ (va_cwS 2 hts gX1_compare_X1_fits rfl rfl rfl (by decide +kernel) ⟨Nat.le_of_ble_eq_true rfl, Nat.le_of_ble_eq_true rfl⟩) hI hS hl.1 rfl rfl (Nat.le_of_ble_eq_true rfl) dX1_compare_75 (fun r1 σ2 H locs hw hI hS => ?_)
        obtain ⟨hw, hq⟩ := hw
        rw [hq] at hI
        refine lv_if_eq (tgt := 91) hx hb dX1_compare_78 (by decide) (fun hc => ?_) (fun hc => ?_)
        · have hw := hw.1 hc
          exact j91 _ _ _ _ _ _ hI hS (lv_sub hl [0, 1, 2, 3] rfl) hw
        have hw := hw.2 hc
        refine lv_aload_n hx hb dX1_compare_81 rfl (lv_at hl 0 rfl) ?_
        refine xG_X1_leftOf hx hb hF hown hI (hts _ (List.mem_of_getElem? (i := 2) rfl : (Cond.fieldLink RX1 21 "PlateRoom$EdgeTable" "leftOf" "[I" : Cond) ∈ wsX1_compare)) dX1_compare_82 ?_
        refine lv_iload_n hx hb dX1_compare_85 rfl (lv_at hl 1 rfl) ?_
        refine lv_dup2_11 hx hb dX1_compare_86 rfl rfl ?_
        have hin := hw.1
        have hw := hw.2
        refine xR_X1_leftOf hx hb hI hin dX1_compare_87 ?_
        refine lv_iload_n hx hb dX1_compare_88 rfl (lv_at hl 3 rfl) ?_
        refine lv_ior hx hb dX1_compare_89 ?_
        have hin := hw.1
        have hw := hw.2
        refine xS_X1_leftOf hx hb hI hS hin dX1_compare_90 (fun σ3 eσ3 H locs hI hS => ?_)
        have hw := hw σ3 eσ3
        exact j91 _ _ _ _ _ _ hI hS (lv_sub hl [0, 1, 2, 3] rfl) hw
      refine lv_iload_n hx hb dX1_compare_25 rfl (lv_at hl 2 rfl) ?_
      refine lv_bipush (v := 20) hx hb dX1_compare_26 (by decide) ?_
      refine lv_icmp_ge (tgt := 125) hx hb dX1_compare_28 (by decide) (fun hc => ?_) (fun hc => ?_)
      · have hw := hw.1 hc
        exact hret _ _ _ _ _ dX1_compare_125 hw hI hS
      have hw := hw.2 hc
      refine lv_iconst (v := 1) hx hb dX1_compare_31 (by decide) ?_
      refine lv_iload_n hx hb dX1_compare_32 rfl (lv_at hl 2 rfl) ?_
      refine lv_ishl hx hb dX1_compare_33 ?_
      refine lv_topi (fun a1 ea1 => ?_)
      have hw := hw a1 ea1
      refine lv_istore_n (lv' := [(3, .int a1), (0, .ref (g.2.1 2)), (1, .int x1), (2, .int x2)]) hx hb dX1_compare_34 rfl hl (by decide) rfl (fun ls hl => ?_)
      refine lv_aload_n hx hb dX1_compare_35 rfl (lv_at hl 1 rfl) ?_
      refine xG_X1_lefts hx hb hF hown hI (hts _ (List.mem_of_getElem? (i := 4) rfl : (Cond.fieldLink RX1 9 "PlateRoom$EdgeTable" "lefts" "[I" : Cond) ∈ wsX1_compare)) dX1_compare_36 ?_
      refine lv_iload_n hx hb dX1_compare_39 rfl (lv_at hl 2 rfl) ?_
      have hin := hw.1
      have hw := hw.2
      refine xR_X1_lefts hx hb hI hin dX1_compare_40 ?_
      refine lv_aload_n hx hb dX1_compare_41 rfl (lv_at hl 1 rfl) ?_
      refine xG_X1_lefts hx hb hF hown hI (hts _ (List.mem_of_getElem? (i := 4) rfl : (Cond.fieldLink RX1 9 "PlateRoom$EdgeTable" "lefts" "[I" : Cond) ∈ wsX1_compare)) dX1_compare_42 ?_
      refine lv_iload_n hx hb dX1_compare_45 rfl (lv_at hl 3 rfl) ?_
      have hin := hw.1
      have hw := hw.2
      refine xR_X1_lefts hx hb hI hin dX1_compare_46 ?_
      refine gSi (cx_X1_fits l g (σ := σ) hw) (xMv g) ⟨hx, hb, hml, hown, hts⟩ (va_cwS 2 hts gX1_compare_X1_fits rfl rfl rfl (by decide +kernel) ⟨Nat.le_of_ble_eq_true rfl, Nat.le_of_ble_eq_true rfl⟩) hI hS hl.1 rfl rfl (Nat.le_of_ble_eq_true rfl) dX1_compare_47 (fun r2 σ3 H locs hw hI hS => ?_)
      obtain ⟨hw, hq⟩ := hw
      rw [hq] at hI
      refine lv_if_eq (tgt := 63) hx hb dX1_compare_50 (by decide) (fun hc => ?_) (fun hc => ?_)
      · have hw := hw.1 hc
        exact j63 _ _ _ _ _ _ hI hS (lv_sub hl [1, 2, 3, 0] rfl) hw
      have hw := hw.2 hc
      refine lv_aload_n hx hb dX1_compare_53 rfl (lv_at hl 1 rfl) ?_
      refine xG_X1_likeLeft hx hb hF hown hI (hts _ (List.mem_of_getElem? (i := 1) rfl : (Cond.fieldLink RX1 18 "PlateRoom$EdgeTable" "likeLeft" "[I" : Cond) ∈ wsX1_compare)) dX1_compare_54 ?_
      refine lv_iload_n hx hb dX1_compare_57 rfl (lv_at hl 2 rfl) ?_
      refine lv_dup2_11 hx hb dX1_compare_58 rfl rfl ?_
      have hin := hw.1
      have hw := hw.2
      refine xR_X1_likeLeft hx hb hI hin dX1_compare_59 ?_
      refine lv_iload_n hx hb dX1_compare_60 rfl (lv_at hl 0 rfl) ?_
      refine lv_ior hx hb dX1_compare_61 ?_
      have hin := hw.1
      have hw := hw.2
      refine xS_X1_likeLeft hx hb hI hS hin dX1_compare_62 (fun σ4 eσ4 H locs hI hS => ?_)
      have hw := hw σ4 eσ4
      exact j63 _ _ _ _ _ _ hI hS (lv_sub hl [1, 2, 3, 0] rfl) hw
  exact key25 n25 _ _ _ _ _ _ hI hS (lv_sub hl [1, 2, 0] rfl) hw
set_option maxRecDepth 100000 in
set_option maxHeartbeats 4000000 in
theorem cx_X1_setEdges (l : Launch) (g : wG) {σ : wS} {x1 : Int32} {x2 : Int32} {x3 : Int32} {Q : wS → Prop} (hw : wx_X1_setEdges Q x1 x2 x3 σ) : Met l yX1_setEdges wsX1_setEdges ({ frames := 2, cells := 0, slots := 0, locals := 44 } : Room) (va_Pc [.ref (g.2.1 2), .int x1, .int x2, .int x3] (fun U => xIn g σ U.heap U)) (va_Qv Q (fun σ1 t => xIn g σ1 t.heap t) (xA g)) 0 0 (xA g) := by
  refine gOfV (maxL := 5) (xMv g) (by decide) rfl (Nat.le_of_ble_eq_true rfl) ?_
  intro p e s m args below meth c QQ hx hb hml hown hts hret ls hl hI
  have hl : lv_has ls 5 [(0, .ref (g.2.1 2)), (1, .int x1), (2, .int x2), (3, .int x3)] := hl
  have hS : va_S (xA g) s.heap s.heap [] := va_S.rf
  have hF : ∀ w ∈ wsX10, w.before args s = true := fun w h => hts w (List.mem_cons_of_mem _ (List.mem_append_right _ h))
  refine lv_iload_n hx hb dX1_setEdges_0 rfl (lv_at hl 1 rfl) ?_
  refine lv_if_lt (tgt := 10) hx hb dX1_setEdges_1 (by decide) (fun hc => ?_) (fun hc => ?_)
  · have hw := hw.1 hc
    exact hret _ _ _ _ _ dX1_setEdges_10 hw hI hS
  have hw := hw.2 hc
  refine lv_iload_n hx hb dX1_setEdges_4 rfl (lv_at hl 1 rfl) ?_
  refine lv_bipush (v := 20) hx hb dX1_setEdges_5 (by decide) ?_
  refine lv_icmp_lt (tgt := 11) hx hb dX1_setEdges_7 (by decide) (fun hc => ?_) (fun hc => ?_)
  · have hw := hw.1 hc
    refine lv_aload_n hx hb dX1_setEdges_11 rfl (lv_at hl 0 rfl) ?_
    refine xG_X1_lefts hx hb hF hown hI (hts _ (List.mem_of_getElem? (i := 1) rfl : (Cond.fieldLink RX1 9 "PlateRoom$EdgeTable" "lefts" "[I" : Cond) ∈ wsX1_setEdges)) dX1_setEdges_12 ?_
    refine lv_iload_n hx hb dX1_setEdges_15 rfl (lv_at hl 1 rfl) ?_
    refine lv_iload_n hx hb dX1_setEdges_16 rfl (lv_at hl 2 rfl) ?_
    have hin := hw.1
    have hw := hw.2
    refine xS_X1_lefts hx hb hI hS hin dX1_setEdges_17 (fun σ1 eσ1 H locs hI hS => ?_)
    have hw := hw σ1 eσ1
    refine lv_aload_n hx hb dX1_setEdges_18 rfl (lv_at hl 0 rfl) ?_
    refine xG_X1_rights hx hb hF hown hI (hts _ (List.mem_of_getElem? (i := 2) rfl : (Cond.fieldLink RX1 15 "PlateRoom$EdgeTable" "rights" "[I" : Cond) ∈ wsX1_setEdges)) dX1_setEdges_19 ?_
    refine lv_iload_n hx hb dX1_setEdges_22 rfl (lv_at hl 1 rfl) ?_
    refine lv_iload_n hx hb dX1_setEdges_23 rfl (lv_at hl 3 rfl) ?_
    have hin := hw.1
    have hw := hw.2
    refine xS_X1_rights hx hb hI hS hin dX1_setEdges_24 (fun σ2 eσ2 H locs hI hS => ?_)
    have hw := hw σ2 eσ2
    refine lv_iconst (v := 0) hx hb dX1_setEdges_25 (by decide) ?_
    refine lv_istore (lv' := [(4, .int 0), (0, .ref (g.2.1 2)), (1, .int x1), (2, .int x2), (3, .int x3)]) hx hb dX1_setEdges_26 hl (by decide) rfl (fun ls hl => ?_)
    obtain ⟨n28, hw⟩ := hw
    have key28 : ∀ (n : Nat) (x4 : Int32) (σ : wS) (H : Heap) (locs : List Loc) (ls : Array Slot), xIn g σ H s → va_S (xA g) s.heap H locs → lv_has ls 5 [(0, .ref (g.2.1 2)), (4, .int x4)] → wloop (wx_X1_setEdges_L28 Q) n (x4, σ) → W p l e ({ frames := 2, cells := 0, slots := 0, locals := 44 } : Room) s m args below meth c H locs 0 0 QQ (F0 m 28 ls []) := by
      intro n
      induction n with
      | zero => intro x4 σ H locs ls hI hS hl hw; exact False.elim hw
      | succ n ih =>
        intro x4 σ H locs ls hI hS hl hw
        obtain ⟨K28, hK28⟩ : ∃ K, K = wloop (wx_X1_setEdges_L28 Q) n := ⟨_, rfl⟩
        have hw : wx_X1_setEdges_L28 Q K28 (x4, σ) := by rw [hK28]; exact hw
        dsimp only [wx_X1_setEdges_L28] at hw
        have ih28 := ih
        refine lv_iload hx hb dX1_setEdges_28 (lv_at hl 1 rfl) ?_
        refine lv_bipush (v := 20) hx hb dX1_setEdges_30 (by decide) ?_
        refine lv_icmp_ge (tgt := 47) hx hb dX1_setEdges_32 (by decide) (fun hc => ?_) (fun hc => ?_)
        · have hw := hw.1 hc
          exact hret _ _ _ _ _ dX1_setEdges_47 hw hI hS
        have hw := hw.2 hc
        refine lv_aload_n hx hb dX1_setEdges_35 rfl (lv_at hl 0 rfl) ?_
        refine lv_iload hx hb dX1_setEdges_36 (lv_at hl 1 rfl) ?_
        refine gVv (cx_X1_compare l g (σ := σ) hw) (xMv g) ⟨hx, hb, hml, hown, hts⟩ (cwV 1 hts gX1_setEdges_X1_compare rfl rfl rfl (by decide +kernel) ⟨Nat.le_of_ble_eq_true rfl, Nat.le_of_ble_eq_true rfl⟩) (xRecv_X1 hI) hI hS hl.1 rfl rfl (Nat.le_of_ble_eq_true rfl) dX1_setEdges_38 (fun σ1 H locs hw hI hS => ?_)
        obtain ⟨a2, ea2⟩ : ∃ y : Int32, y = x4 + 1 := ⟨_, rfl⟩
        have hw := hw a2 ea2
        refine lv_iinc (v := a2) (lv' := [(4, .int a2), (0, .ref (g.2.1 2))]) hx hb dX1_setEdges_41 hl (k := 1) rfl (by rw [ea2]; rfl) (by decide) rfl (fun ls hl => ?_)
        refine lv_goto (tgt := 28) hx hb dX1_setEdges_44 (by decide) ?_
        rw [hK28] at hw
        exact ih28 _ _ _ _ _ hI hS (lv_sub hl [1, 0] rfl) hw
    exact key28 n28 _ _ _ _ _ hI hS (lv_sub hl [1, 0] rfl) hw
  have hw := hw.2 hc
  exact hret _ _ _ _ _ dX1_setEdges_10 hw hI hS
set_option maxRecDepth 100000 in
set_option maxHeartbeats 4000000 in
theorem cx_X5_edges (l : Launch) (g : wG) {σ : wS} {x1 : Int32} {x2 : Int32} {x3 : Int32} {Q : Int32 → wS → Prop} (hw : wx_X5_edges Q x1 x2 x3 σ) : Met l yX5_edges wsX5_edges ({ frames := 3, cells := 0, slots := 0, locals := 68 } : Room) (va_Pc [.ref (g.2.1 0), .int x1, .int x2, .int x3] (fun U => xIn g σ U.heap U)) (va_Qi Q (fun σ1 t => xIn g σ1 t.heap t) (xA g)) 0 0 (xA g) := by
  refine gOfZ (maxL := 5) (xMv g) (by decide) rfl (Nat.le_of_ble_eq_true rfl) ?_
  intro p e s m args below meth c QQ hx hb hml hown hts hret ls hl hI
  have hl : lv_has ls 5 [(0, .ref (g.2.1 0)), (1, .int x1), (2, .int x2), (3, .int x3)] := hl
  have hS : va_S (xA g) s.heap s.heap [] := va_S.rf
  have hF : ∀ w ∈ wsX50, w.before args s = true := fun w h => hts w (List.mem_cons_of_mem _ (List.mem_append_left _ (List.mem_append_right _ h)))
  have j25 : ∀ (x1 : Int32) (x2 : Int32) (x3 : Int32) (s0 : Int32) (σ : wS) (H : Heap) (locs : List Loc) (ls : Array Slot), xIn g σ H s → va_S (xA g) s.heap H locs → lv_has ls 5 [(0, .ref (g.2.1 0)), (1, .int x1), (2, .int x2), (3, .int x3)] → wx_X5_edges_J25 Q x1 x2 x3 s0 σ → W p l e ({ frames := 3, cells := 0, slots := 0, locals := 68 } : Room) s m args below meth c H locs 0 0 QQ (F0 m 25 ls [.int s0]) := by
    intro x1 x2 x3 s0 σ H locs ls hI hS hl hw
    refine lv_istore (lv' := [(4, .int s0), (0, .ref (g.2.1 0)), (1, .int x1), (2, .int x2), (3, .int x3)]) hx hb dX5_edges_25 hl (by decide) rfl (fun ls hl => ?_)
    refine lv_aload_n hx hb dX5_edges_27 rfl (lv_at hl 1 rfl) ?_
    refine lv_aload_n hx hb dX5_edges_28 rfl (lv_at hl 1 rfl) ?_
    refine lv_iload_n hx hb dX5_edges_29 rfl (lv_at hl 2 rfl) ?_
    refine gVi (cx_X5_isPlate l g (σ := σ) hw) (xMv g) ⟨hx, hb, hml, hown, hts⟩ (cwV 1 hts gX5_edges_X5_isPlate rfl rfl rfl (by decide +kernel) ⟨Nat.le_of_ble_eq_true rfl, Nat.le_of_ble_eq_true rfl⟩) (xRecv_X5 hI) hI hS hl.1 rfl rfl (Nat.le_of_ble_eq_true rfl) dX5_edges_30 (fun r1 σ2 H locs hw hI hS => ?_)
    obtain ⟨hw, hq⟩ := hw
    rw [hq] at hI
    refine lv_iload hx hb dX5_edges_33 (lv_at hl 0 rfl) ?_
    refine gSi (cx_X5_whyNot l g (σ := σ) hw) (xMv g) ⟨hx, hb, hml, hown, hts⟩ (va_cwS 2 hts gX5_edges_X5_whyNot rfl rfl rfl (by decide +kernel) ⟨Nat.le_of_ble_eq_true rfl, Nat.le_of_ble_eq_true rfl⟩) hI hS hl.1 rfl rfl (Nat.le_of_ble_eq_true rfl) dX5_edges_35 (fun r3 σ4 H locs hw hI hS => ?_)
    obtain ⟨hw, hq⟩ := hw
    rw [hq] at hI
    refine xP_X5_lastStatus hx hb hF hown hI hS (hts _ (List.mem_of_getElem? (i := 1) rfl : (Cond.fieldLink RX5 48 "PlateRoom" "lastStatus" "I" : Cond) ∈ wsX5_edges)) dX5_edges_38 (fun σ5 eσ5 H locs hI hS => ?_)
    have hw := hw σ5 eσ5
    refine lv_aload_n hx hb dX5_edges_41 rfl (lv_at hl 1 rfl) ?_
    refine xG_X5_lastStatus hx hb hF hown hI (hts _ (List.mem_of_getElem? (i := 1) rfl : (Cond.fieldLink RX5 48 "PlateRoom" "lastStatus" "I" : Cond) ∈ wsX5_edges)) dX5_edges_42 ?_
    refine lv_if_eq (tgt := 50) hx hb dX5_edges_45 (by decide) (fun hc => ?_) (fun hc => ?_)
    · have hw := hw.1 hc
      refine lv_aload_n hx hb dX5_edges_50 rfl (lv_at hl 1 rfl) ?_
      refine xG_X5_table hx hb hF hown hI (hts _ (List.mem_of_getElem? (i := 2) rfl : (Cond.fieldLink RX5 26 "PlateRoom" "table" "LPlateRoom$EdgeTable;" : Cond) ∈ wsX5_edges)) dX5_edges_51 ?_
      refine lv_iload_n hx hb dX5_edges_54 rfl (lv_at hl 2 rfl) ?_
      refine lv_iload_n hx hb dX5_edges_55 rfl (lv_at hl 3 rfl) ?_
      refine lv_iload_n hx hb dX5_edges_56 rfl (lv_at hl 4 rfl) ?_
      refine gVv (cx_X1_setEdges l g (σ := σ5) hw) (xMv g) ⟨hx, hb, hml, hown, hts⟩ (cwV 3 hts gX5_edges_X1_setEdges rfl rfl rfl (by decide +kernel) ⟨Nat.le_of_ble_eq_true rfl, Nat.le_of_ble_eq_true rfl⟩) (xRecv_X1 hI) hI hS hl.1 rfl rfl (Nat.le_of_ble_eq_true rfl) dX5_edges_57 (fun σ6 H locs hw hI hS => ?_)
      refine lv_iconst (v := 1) hx hb dX5_edges_60 (by decide) ?_
      exact hret _ _ _ _ _ _ dX5_edges_61 isB1 hw hI hS
    have hw := hw.2 hc
    refine lv_iconst (v := 0) hx hb dX5_edges_48 (by decide) ?_
    exact hret _ _ _ _ _ _ dX5_edges_49 isB0 hw hI hS
  have j24 : ∀ (x1 : Int32) (x2 : Int32) (x3 : Int32) (σ : wS) (H : Heap) (locs : List Loc) (ls : Array Slot), xIn g σ H s → va_S (xA g) s.heap H locs → lv_has ls 5 [(0, .ref (g.2.1 0)), (1, .int x1), (2, .int x2), (3, .int x3)] → wx_X5_edges_J24 Q x1 x2 x3 σ → W p l e ({ frames := 3, cells := 0, slots := 0, locals := 68 } : Room) s m args below meth c H locs 0 0 QQ (F0 m 24 ls []) := by
    intro x1 x2 x3 σ H locs ls hI hS hl hw
    refine lv_iconst (v := 0) hx hb dX5_edges_24 (by decide) ?_
    exact j25 _ _ _ _ _ _ _ _ hI hS (lv_sub hl [0, 1, 2, 3] rfl) hw
  refine lv_iload_n hx hb dX5_edges_0 rfl (lv_at hl 2 rfl) ?_
  refine lv_iconst (v := 0) hx hb dX5_edges_1 (by decide) ?_
  refine lv_bipush (v := 99) hx hb dX5_edges_2 (by decide) ?_
  refine gSi (cx_X5_isWithin l g (σ := σ) hw) (xMv g) ⟨hx, hb, hml, hown, hts⟩ (va_cwS 3 hts gX5_edges_X5_isWithin rfl rfl rfl (by decide +kernel) ⟨Nat.le_of_ble_eq_true rfl, Nat.le_of_ble_eq_true rfl⟩) hI hS hl.1 rfl rfl (Nat.le_of_ble_eq_true rfl) dX5_edges_4 (fun r1 σ2 H locs hw hI hS => ?_)
  obtain ⟨hw, hq⟩ := hw
  rw [hq] at hI
  refine lv_if_eq (tgt := 24) hx hb dX5_edges_7 (by decide) (fun hc => ?_) (fun hc => ?_)
  · have hw := hw.1 hc
    exact j24 _ _ _ _ _ _ _ hI hS (lv_sub hl [0, 1, 2, 3] rfl) hw
  have hw := hw.2 hc
  refine lv_iload_n hx hb dX5_edges_10 rfl (lv_at hl 3 rfl) ?_
  refine lv_iconst (v := 0) hx hb dX5_edges_11 (by decide) ?_
  refine lv_bipush (v := 99) hx hb dX5_edges_12 (by decide) ?_
  refine gSi (cx_X5_isWithin l g (σ := σ) hw) (xMv g) ⟨hx, hb, hml, hown, hts⟩ (va_cwS 3 hts gX5_edges_X5_isWithin rfl rfl rfl (by decide +kernel) ⟨Nat.le_of_ble_eq_true rfl, Nat.le_of_ble_eq_true rfl⟩) hI hS hl.1 rfl rfl (Nat.le_of_ble_eq_true rfl) dX5_edges_14 (fun r3 σ4 H locs hw hI hS => ?_)
  obtain ⟨hw, hq⟩ := hw
  rw [hq] at hI
  refine lv_if_eq (tgt := 24) hx hb dX5_edges_17 (by decide) (fun hc => ?_) (fun hc => ?_)
  · have hw := hw.1 hc
    exact j24 _ _ _ _ _ _ _ hI hS (lv_sub hl [0, 1, 2, 3] rfl) hw
  have hw := hw.2 hc
  refine lv_iconst (v := 1) hx hb dX5_edges_20 (by decide) ?_
  refine lv_goto (tgt := 25) hx hb dX5_edges_21 (by decide) ?_
  exact j25 _ _ _ _ _ _ _ _ hI hS (lv_sub hl [0, 1, 2, 3] rfl) hw
set_option maxRecDepth 100000 in
set_option maxHeartbeats 4000000 in
theorem cx_X5_isSet (l : Launch) (g : wG) {σ : wS} {x1 : Int32} {Q : Int32 → Prop} (hw : wx_X5_isSet Q x1 σ) : Met l yX5_isSet wsX5_isSet ({ frames := 0, cells := 0, slots := 0, locals := 0 } : Room) (va_Pc [.ref (g.2.1 0), .int x1] (fun U => xIn g σ U.heap U)) (va_Qi (fun r σ1 => Q r ∧ σ1 = σ) (fun σ1 t => xIn g σ1 t.heap t) (xA g)) 0 0 (xA g) := by
  refine gOfZ (maxL := 3) (xMv g) (by decide) rfl (Nat.le_of_ble_eq_true rfl) ?_
  intro p e s m args below meth c QQ hx hb hml hown hts hret ls hl hI
  have hl : lv_has ls 3 [(0, .ref (g.2.1 0)), (1, .int x1)] := hl
  have hS : va_S (xA g) s.heap s.heap [] := va_S.rf
  have hF : ∀ w ∈ wsX50, w.before args s = true := fun w h => hts w (List.mem_cons_of_mem _ (List.mem_append_right _ h))
  refine lv_iconst (v := 1) hx hb dX5_isSet_0 (by decide) ?_
  refine lv_aload_n hx hb dX5_isSet_1 rfl (lv_at hl 0 rfl) ?_
  refine xG_X5_plateCount hx hb hF hown hI (hts _ (List.mem_of_getElem? (i := 1) rfl : (Cond.fieldLink RX5 52 "PlateRoom" "plateCount" "I" : Cond) ∈ wsX5_isSet)) dX5_isSet_2 ?_
  refine lv_ishl hx hb dX5_isSet_5 ?_
  refine lv_iconst (v := 1) hx hb dX5_isSet_6 (by decide) ?_
  refine lv_isub hx hb dX5_isSet_7 ?_
  refine lv_topi (fun a1 ea1 => ?_)
  have hw := hw a1 ea1
  refine lv_istore_n (lv' := [(2, .int a1), (0, .ref (g.2.1 0)), (1, .int x1)]) hx hb dX5_isSet_8 rfl hl (by decide) rfl (fun ls hl => ?_)
  refine lv_iload_n hx hb dX5_isSet_9 rfl (lv_at hl 2 rfl) ?_
  refine lv_iload_n hx hb dX5_isSet_10 rfl (lv_at hl 0 rfl) ?_
  refine lv_iconst (v := (-1)) hx hb dX5_isSet_11 (by decide) ?_
  refine lv_ixor hx hb dX5_isSet_12 ?_
  refine lv_iand hx hb dX5_isSet_13 ?_
  refine lv_if_ne (tgt := 21) hx hb dX5_isSet_14 (by decide) (fun hc => ?_) (fun hc => ?_)
  · have hw := hw.1 hc
    refine lv_iconst (v := 0) hx hb dX5_isSet_21 (by decide) ?_
    exact hret _ _ _ _ _ _ dX5_isSet_22 isB0 ⟨hw, rfl⟩ hI hS
  have hw := hw.2 hc
  refine lv_iconst (v := 1) hx hb dX5_isSet_17 (by decide) ?_
  refine lv_goto (tgt := 22) hx hb dX5_isSet_18 (by decide) ?_
  exact hret _ _ _ _ _ _ dX5_isSet_22 isB1 ⟨hw, rfl⟩ hI hS
set_option maxRecDepth 100000 in
set_option maxHeartbeats 4000000 in
theorem cx_X1_holds (l : Launch) (g : wG) {σ : wS} {x0 : Int32} {x1 : Int32} {Q : Int32 → Prop} (hw : wx_X1_holds Q x0 x1) : Met l yX1_holds wsX1_holds ({ frames := 0, cells := 0, slots := 0, locals := 0 } : Room) (va_Pc [.int x0, .int x1] (fun U => xIn g σ U.heap U)) (va_Qi (fun r σ1 => Q r ∧ σ1 = σ) (fun σ1 t => xIn g σ1 t.heap t) (xA g)) 0 0 (xA g) := by
  refine gOfZ (maxL := 2) (xMv g) (by decide) rfl (Nat.le_of_ble_eq_true rfl) ?_
  intro p e s m args below meth c QQ hx hb hml hown hts hret ls hl hI
  have hl : lv_has ls 2 [(0, .int x0), (1, .int x1)] := hl
  have hS : va_S (xA g) s.heap s.heap [] := va_S.rf
  refine lv_iload_n hx hb dX1_holds_0 rfl (lv_at hl 0 rfl) ?_
  refine lv_iconst (v := 1) hx hb dX1_holds_1 (by decide) ?_
  refine lv_iload_n hx hb dX1_holds_2 rfl (lv_at hl 1 rfl) ?_
  refine lv_ishl hx hb dX1_holds_3 ?_
  refine lv_iand hx hb dX1_holds_4 ?_
  refine lv_if_eq (tgt := 12) hx hb dX1_holds_5 (by decide) (fun hc => ?_) (fun hc => ?_)
  · have hw := hw.1 hc
    refine lv_iconst (v := 0) hx hb dX1_holds_12 (by decide) ?_
    exact hret _ _ _ _ _ _ dX1_holds_13 isB0 ⟨hw, rfl⟩ hI hS
  have hw := hw.2 hc
  refine lv_iconst (v := 1) hx hb dX1_holds_8 (by decide) ?_
  refine lv_goto (tgt := 13) hx hb dX1_holds_9 (by decide) ?_
  exact hret _ _ _ _ _ _ dX1_holds_13 isB1 ⟨hw, rfl⟩ hI hS
set_option maxRecDepth 100000 in
set_option maxHeartbeats 4000000 in
theorem cx_X1_partOf (l : Launch) (g : wG) {σ : wS} {x1 : Int32} {Q : Int32 → Prop} (hw : wx_X1_partOf Q x1 σ) : Met l yX1_partOf wsX1_partOf ({ frames := 1, cells := 0, slots := 0, locals := 21 } : Room) (va_Pc [.ref (g.2.1 2), .int x1] (fun U => xIn g σ U.heap U)) (va_Qi (fun r σ1 => Q r ∧ σ1 = σ) (fun σ1 t => xIn g σ1 t.heap t) (xA g)) 0 0 (xA g) := by
  refine gOfI (maxL := 6) (xMv g) (by decide) rfl (Nat.le_of_ble_eq_true rfl) ?_
  intro p e s m args below meth c QQ hx hb hml hown hts hret ls hl hI
  have hl : lv_has ls 6 [(0, .ref (g.2.1 2)), (1, .int x1)] := hl
  have hS : va_S (xA g) s.heap s.heap [] := va_S.rf
  have hF : ∀ w ∈ wsX10, w.before args s = true := fun w h => hts w (List.mem_cons_of_mem _ (List.mem_append_right _ h))
  refine lv_iload_n hx hb dX1_partOf_0 rfl (lv_at hl 1 rfl) ?_
  refine lv_iload_n hx hb dX1_partOf_1 rfl (lv_at hl 1 rfl) ?_
  refine lv_ineg hx hb dX1_partOf_2 ?_
  refine lv_iand hx hb dX1_partOf_3 ?_
  refine lv_topi (fun a1 ea1 => ?_)
  have hw := hw a1 ea1
  refine lv_istore_n (lv' := [(2, .int a1), (0, .ref (g.2.1 2)), (1, .int x1)]) hx hb dX1_partOf_4 rfl hl (by decide) rfl (fun ls hl => ?_)
  refine lv_iconst (v := 0) hx hb dX1_partOf_5 (by decide) ?_
  refine lv_istore_n (lv' := [(3, .int 0), (2, .int a1), (0, .ref (g.2.1 2)), (1, .int x1)]) hx hb dX1_partOf_6 rfl hl (by decide) rfl (fun ls hl => ?_)
  obtain ⟨n7, hw⟩ := hw
  have key7 : ∀ (n : Nat) (x1 : Int32) (x2 : Int32) (x3 : Int32) (H : Heap) (locs : List Loc) (ls : Array Slot), xIn g σ H s → va_S (xA g) s.heap H locs → lv_has ls 6 [(0, .ref (g.2.1 2)), (1, .int x1), (2, .int x2), (3, .int x3)] → wloop (wx_X1_partOf_L7 Q x1 σ) n (x2, x3) → W p l e ({ frames := 1, cells := 0, slots := 0, locals := 21 } : Room) s m args below meth c H locs 0 0 QQ (F0 m 7 ls []) := by
    intro n
    induction n with
    | zero => intro x1 x2 x3  H locs ls hI hS hl hw; exact False.elim hw
    | succ n ih =>
      intro x1 x2 x3  H locs ls hI hS hl hw
      obtain ⟨K7, hK7⟩ : ∃ K, K = wloop (wx_X1_partOf_L7 Q x1 σ) n := ⟨_, rfl⟩
      have hw : wx_X1_partOf_L7 Q x1 σ K7 (x2, x3) := by rw [hK7]; exact hw
      dsimp only [wx_X1_partOf_L7] at hw
      have ih7 := ih
      refine lv_iload_n hx hb dX1_partOf_7 rfl (lv_at hl 3 rfl) ?_
      refine lv_bipush (v := 20) hx hb dX1_partOf_8 (by decide) ?_
      refine lv_icmp_ge (tgt := 81) hx hb dX1_partOf_10 (by decide) (fun hc => ?_) (fun hc => ?_)
      · have hw := hw.1 hc
        refine lv_iload_n hx hb dX1_partOf_81 rfl (lv_at hl 2 rfl) ?_
        exact hret _ _ _ _ _ _ dX1_partOf_82 ⟨hw, rfl⟩ hI hS
      have hw := hw.2 hc
      refine lv_iload_n hx hb dX1_partOf_13 rfl (lv_at hl 2 rfl) ?_
      refine lv_istore (lv' := [(4, .int x2), (0, .ref (g.2.1 2)), (1, .int x1), (2, .int x2), (3, .int x3)]) hx hb dX1_partOf_14 hl (by decide) rfl (fun ls hl => ?_)
      refine lv_iconst (v := 0) hx hb dX1_partOf_16 (by decide) ?_
      refine lv_istore (lv' := [(5, .int 0), (4, .int x2), (0, .ref (g.2.1 2)), (1, .int x1), (2, .int x2), (3, .int x3)]) hx hb dX1_partOf_17 hl (by decide) rfl (fun ls hl => ?_)
      obtain ⟨n19, hw⟩ := hw
      have key19 : ∀ (n : Nat) (x2 : Int32) (x3 : Int32) (x4 : Int32) (x5 : Int32) (H : Heap) (locs : List Loc) (ls : Array Slot), xIn g σ H s → va_S (xA g) s.heap H locs → lv_has ls 6 [(0, .ref (g.2.1 2)), (1, .int x1), (2, .int x2), (3, .int x3), (4, .int x4), (5, .int x5)] → wloop (wx_X1_partOf_L19 Q K7 x1 x2 x3 σ) n (x4, x5) → W p l e ({ frames := 1, cells := 0, slots := 0, locals := 21 } : Room) s m args below meth c H locs 0 0 QQ (F0 m 19 ls []) := by
        intro n
        induction n with
        | zero => intro x2 x3 x4 x5  H locs ls hI hS hl hw; exact False.elim hw
        | succ n ih =>
          intro x2 x3 x4 x5  H locs ls hI hS hl hw
          obtain ⟨K19, hK19⟩ : ∃ K, K = wloop (wx_X1_partOf_L19 Q K7 x1 x2 x3 σ) n := ⟨_, rfl⟩
          have hw : wx_X1_partOf_L19 Q K7 x1 x2 x3 σ K19 (x4, x5) := by rw [hK19]; exact hw
          dsimp only [wx_X1_partOf_L19] at hw
          have ih19 := ih
          refine lv_iload hx hb dX1_partOf_19 (lv_at hl 5 rfl) ?_
          refine lv_bipush (v := 20) hx hb dX1_partOf_21 (by decide) ?_
          refine lv_icmp_ge (tgt := 64) hx hb dX1_partOf_23 (by decide) (fun hc => ?_) (fun hc => ?_)
          · have hw := hw.1 hc
            refine lv_iload hx hb dX1_partOf_64 (lv_at hl 4 rfl) ?_
            refine lv_iload_n hx hb dX1_partOf_66 rfl (lv_at hl 2 rfl) ?_
            refine lv_icmp_ne (tgt := 72) hx hb dX1_partOf_67 (by decide) (fun hc => ?_) (fun hc => ?_)
            · have hw := hw.1 hc
              refine lv_iload hx hb dX1_partOf_72 (lv_at hl 4 rfl) ?_
              refine lv_istore_n (lv' := [(2, .int x4), (0, .ref (g.2.1 2)), (1, .int x1), (3, .int x3), (4, .int x4), (5, .int x5)]) hx hb dX1_partOf_74 rfl hl (by decide) rfl (fun ls hl => ?_)
              obtain ⟨a1, ea1⟩ : ∃ y : Int32, y = x3 + 1 := ⟨_, rfl⟩
              have hw := hw a1 ea1
              refine lv_iinc (v := a1) (lv' := [(3, .int a1), (2, .int x4), (0, .ref (g.2.1 2)), (1, .int x1), (4, .int x4), (5, .int x5)]) hx hb dX1_partOf_75 hl (k := 3) rfl (by rw [ea1]; rfl) (by decide) rfl (fun ls hl => ?_)
              refine lv_goto (tgt := 7) hx hb dX1_partOf_78 (by decide) ?_
              rw [hK7] at hw
              exact ih7 _ _ _ _ _ _ hI hS (lv_sub hl [2, 3, 1, 0] rfl) hw
            have hw := hw.2 hc
            refine lv_iload_n hx hb dX1_partOf_70 rfl (lv_at hl 2 rfl) ?_
            exact hret _ _ _ _ _ _ dX1_partOf_71 ⟨hw, rfl⟩ hI hS
          have hw := hw.2 hc
          refine lv_iload hx hb dX1_partOf_26 (lv_at hl 4 rfl) ?_
          refine lv_iload hx hb dX1_partOf_28 (lv_at hl 5 rfl) ?_
          refine gSi (cx_X1_holds l g (σ := σ) hw) (xMv g) ⟨hx, hb, hml, hown, hts⟩ (va_cwS 2 hts gX1_partOf_X1_holds rfl rfl rfl (by decide +kernel) ⟨Nat.le_of_ble_eq_true rfl, Nat.le_of_ble_eq_true rfl⟩) hI hS hl.1 rfl rfl (Nat.le_of_ble_eq_true rfl) dX1_partOf_30 (fun r2 σ3 H locs hw hI hS => ?_)
          obtain ⟨hw, hq⟩ := hw
          rw [hq] at hI
          refine lv_if_eq (tgt := 58) hx hb dX1_partOf_33 (by decide) (fun hc => ?_) (fun hc => ?_)
          · have hw := hw.1 hc
            obtain ⟨a4, ea4⟩ : ∃ y : Int32, y = x5 + 1 := ⟨_, rfl⟩
            have hw := hw a4 ea4
            refine lv_iinc (v := a4) (lv' := [(5, .int a4), (0, .ref (g.2.1 2)), (1, .int x1), (2, .int x2), (3, .int x3), (4, .int x4)]) hx hb dX1_partOf_58 hl (k := 5) rfl (by rw [ea4]; rfl) (by decide) rfl (fun ls hl => ?_)
            refine lv_goto (tgt := 19) hx hb dX1_partOf_61 (by decide) ?_
            rw [hK19] at hw
            exact ih19 _ _ _ _ _ _ _ hI hS (lv_sub hl [1, 2, 3, 4, 5, 0] rfl) hw
          have hw := hw.2 hc
          refine lv_iload hx hb dX1_partOf_36 (lv_at hl 4 rfl) ?_
          refine lv_aload_n hx hb dX1_partOf_38 rfl (lv_at hl 0 rfl) ?_
          refine xG_X1_leftOf hx hb hF hown hI (hts _ (List.mem_of_getElem? (i := 1) rfl : (Cond.fieldLink RX1 21 "PlateRoom$EdgeTable" "leftOf" "[I" : Cond) ∈ wsX1_partOf)) dX1_partOf_39 ?_
          refine lv_iload hx hb dX1_partOf_42 (lv_at hl 5 rfl) ?_
          have hin := hw.1
          have hw := hw.2
          refine xR_X1_leftOf hx hb hI hin dX1_partOf_44 ?_
          refine lv_aload_n hx hb dX1_partOf_45 rfl (lv_at hl 0 rfl) ?_
          refine xG_X1_rightOf hx hb hF hown hI (hts _ (List.mem_of_getElem? (i := 2) rfl : (Cond.fieldLink RX1 24 "PlateRoom$EdgeTable" "rightOf" "[I" : Cond) ∈ wsX1_partOf)) dX1_partOf_46 ?_
          refine lv_iload hx hb dX1_partOf_49 (lv_at hl 5 rfl) ?_
          have hin := hw.1
          have hw := hw.2
          refine xR_X1_rightOf hx hb hI hin dX1_partOf_51 ?_
          refine lv_ior hx hb dX1_partOf_52 ?_
          refine lv_iload_n hx hb dX1_partOf_53 rfl (lv_at hl 1 rfl) ?_
          refine lv_iand hx hb dX1_partOf_54 ?_
          refine lv_ior hx hb dX1_partOf_55 ?_
          refine lv_topi (fun a5 ea5 => ?_)
          have hw := hw a5 ea5
          refine lv_istore (lv' := [(4, .int a5), (0, .ref (g.2.1 2)), (1, .int x1), (2, .int x2), (3, .int x3), (5, .int x5)]) hx hb dX1_partOf_56 hl (by decide) rfl (fun ls hl => ?_)
          obtain ⟨a6, ea6⟩ : ∃ y : Int32, y = x5 + 1 := ⟨_, rfl⟩
          have hw := hw a6 ea6
          refine lv_iinc (v := a6) (lv' := [(5, .int a6), (4, .int a5), (0, .ref (g.2.1 2)), (1, .int x1), (2, .int x2), (3, .int x3)]) hx hb dX1_partOf_58 hl (k := 5) rfl (by rw [ea6]; rfl) (by decide) rfl (fun ls hl => ?_)
          refine lv_goto (tgt := 19) hx hb dX1_partOf_61 (by decide) ?_
          rw [hK19] at hw
          exact ih19 _ _ _ _ _ _ _ hI hS (lv_sub hl [2, 3, 4, 5, 1, 0] rfl) hw
      exact key19 n19 _ _ _ _ _ _ _ hI hS (lv_sub hl [2, 3, 4, 5, 1, 0] rfl) hw
  exact key7 n7 _ _ _ _ _ _ hI hS (lv_sub hl [2, 3, 1, 0] rfl) hw
set_option maxRecDepth 100000 in
set_option maxHeartbeats 4000000 in
theorem cx_J6_bitCount_0f7a4 (l : Launch) (g : wG) {σ : wS} {x0 : Int32} {Q : Int32 → Prop} (hw : wx_J6_bitCount_0f7a4 Q x0) : Met l yJ6_bitCount_0f7a4 wsJ6_bitCount_0f7a4 ({ frames := 0, cells := 0, slots := 0, locals := 0 } : Room) (va_Pc [.int x0] (fun U => xIn g σ U.heap U)) (va_Qi (fun r σ1 => Q r ∧ σ1 = σ) (fun σ1 t => xIn g σ1 t.heap t) (xA g)) 0 0 (xA g) := by
  refine gOfI (maxL := 1) (xMv g) (by decide) rfl (Nat.le_of_ble_eq_true rfl) ?_
  intro p e s m args below meth c QQ hx hb hml hown hts hret ls hl hI
  have hl : lv_has ls 1 [(0, .int x0)] := hl
  have hS : va_S (xA g) s.heap s.heap [] := va_S.rf
  refine lv_iload_n hx hb dJ6_bitCount_0f7a4_0 rfl (lv_at hl 0 rfl) ?_
  refine lv_iload_n hx hb dJ6_bitCount_0f7a4_1 rfl (lv_at hl 0 rfl) ?_
  refine lv_iconst (v := 1) hx hb dJ6_bitCount_0f7a4_2 (by decide) ?_
  refine lv_iushr (v := (x0.toUInt32 >>> (Int32.toUInt32 1 &&& Int32.toUInt32 31)).toInt32) hx hb dJ6_bitCount_0f7a4_3 rfl ?_
  refine lv_ldcw (own := RJ6) hx hb hown (hts _ (List.mem_of_getElem? (i := 1) rfl : (Cond.constant RJ6 265 (1431655765) : Cond) ∈ wsJ6_bitCount_0f7a4)) dJ6_bitCount_0f7a4_4 ?_
  refine lv_iand hx hb dJ6_bitCount_0f7a4_7 ?_
  refine lv_isub hx hb dJ6_bitCount_0f7a4_8 ?_
  refine lv_topi (fun a1 ea1 => ?_)
  have hw := hw a1 ea1
  refine lv_istore_n (lv' := [(0, .int a1)]) hx hb dJ6_bitCount_0f7a4_9 rfl hl (by decide) rfl (fun ls hl => ?_)
  refine lv_iload_n hx hb dJ6_bitCount_0f7a4_10 rfl (lv_at hl 0 rfl) ?_
  refine lv_ldcw (own := RJ6) hx hb hown (hts _ (List.mem_of_getElem? (i := 2) rfl : (Cond.constant RJ6 266 (858993459) : Cond) ∈ wsJ6_bitCount_0f7a4)) dJ6_bitCount_0f7a4_11 ?_
  refine lv_iand hx hb dJ6_bitCount_0f7a4_14 ?_
  refine lv_iload_n hx hb dJ6_bitCount_0f7a4_15 rfl (lv_at hl 0 rfl) ?_
  refine lv_iconst (v := 2) hx hb dJ6_bitCount_0f7a4_16 (by decide) ?_
  refine lv_iushr (v := (a1.toUInt32 >>> (Int32.toUInt32 2 &&& Int32.toUInt32 31)).toInt32) hx hb dJ6_bitCount_0f7a4_17 rfl ?_
  refine lv_ldcw (own := RJ6) hx hb hown (hts _ (List.mem_of_getElem? (i := 2) rfl : (Cond.constant RJ6 266 (858993459) : Cond) ∈ wsJ6_bitCount_0f7a4)) dJ6_bitCount_0f7a4_18 ?_
  refine lv_iand hx hb dJ6_bitCount_0f7a4_21 ?_
  refine lv_iadd hx hb dJ6_bitCount_0f7a4_22 ?_
  refine lv_topi (fun a2 ea2 => ?_)
  have hw := hw a2 ea2
  refine lv_istore_n (lv' := [(0, .int a2)]) hx hb dJ6_bitCount_0f7a4_23 rfl hl (by decide) rfl (fun ls hl => ?_)
  refine lv_iload_n hx hb dJ6_bitCount_0f7a4_24 rfl (lv_at hl 0 rfl) ?_
  refine lv_iload_n hx hb dJ6_bitCount_0f7a4_25 rfl (lv_at hl 0 rfl) ?_
  refine lv_iconst (v := 4) hx hb dJ6_bitCount_0f7a4_26 (by decide) ?_
  refine lv_iushr (v := (a2.toUInt32 >>> (Int32.toUInt32 4 &&& Int32.toUInt32 31)).toInt32) hx hb dJ6_bitCount_0f7a4_27 rfl ?_
  refine lv_iadd hx hb dJ6_bitCount_0f7a4_28 ?_
  refine lv_ldcw (own := RJ6) hx hb hown (hts _ (List.mem_of_getElem? (i := 3) rfl : (Cond.constant RJ6 267 (252645135) : Cond) ∈ wsJ6_bitCount_0f7a4)) dJ6_bitCount_0f7a4_29 ?_
  refine lv_iand hx hb dJ6_bitCount_0f7a4_32 ?_
  refine lv_topi (fun a3 ea3 => ?_)
  have hw := hw a3 ea3
  refine lv_istore_n (lv' := [(0, .int a3)]) hx hb dJ6_bitCount_0f7a4_33 rfl hl (by decide) rfl (fun ls hl => ?_)
  refine lv_iload_n hx hb dJ6_bitCount_0f7a4_34 rfl (lv_at hl 0 rfl) ?_
  refine lv_iload_n hx hb dJ6_bitCount_0f7a4_35 rfl (lv_at hl 0 rfl) ?_
  refine lv_bipush (v := 8) hx hb dJ6_bitCount_0f7a4_36 (by decide) ?_
  refine lv_iushr (v := (a3.toUInt32 >>> (Int32.toUInt32 8 &&& Int32.toUInt32 31)).toInt32) hx hb dJ6_bitCount_0f7a4_38 rfl ?_
  refine lv_iadd hx hb dJ6_bitCount_0f7a4_39 ?_
  refine lv_topi (fun a4 ea4 => ?_)
  have hw := hw a4 ea4
  refine lv_istore_n (lv' := [(0, .int a4)]) hx hb dJ6_bitCount_0f7a4_40 rfl hl (by decide) rfl (fun ls hl => ?_)
  refine lv_iload_n hx hb dJ6_bitCount_0f7a4_41 rfl (lv_at hl 0 rfl) ?_
  refine lv_iload_n hx hb dJ6_bitCount_0f7a4_42 rfl (lv_at hl 0 rfl) ?_
  refine lv_bipush (v := 16) hx hb dJ6_bitCount_0f7a4_43 (by decide) ?_
  refine lv_iushr (v := (a4.toUInt32 >>> (Int32.toUInt32 16 &&& Int32.toUInt32 31)).toInt32) hx hb dJ6_bitCount_0f7a4_45 rfl ?_
  refine lv_iadd hx hb dJ6_bitCount_0f7a4_46 ?_
  refine lv_topi (fun a5 ea5 => ?_)
  have hw := hw a5 ea5
  refine lv_istore_n (lv' := [(0, .int a5)]) hx hb dJ6_bitCount_0f7a4_47 rfl hl (by decide) rfl (fun ls hl => ?_)
  refine lv_iload_n hx hb dJ6_bitCount_0f7a4_48 rfl (lv_at hl 0 rfl) ?_
  refine lv_bipush (v := 63) hx hb dJ6_bitCount_0f7a4_49 (by decide) ?_
  refine lv_iand hx hb dJ6_bitCount_0f7a4_51 ?_
  exact hret _ _ _ _ _ _ dJ6_bitCount_0f7a4_52 ⟨hw, rfl⟩ hI hS
set_option maxRecDepth 100000 in
set_option maxHeartbeats 4000000 in
theorem cx_X1_missingLeftOf (l : Launch) (g : wG) {σ : wS} {x1 : Int32} {x2 : Int32} {Q : Int32 → Prop} (hw : wx_X1_missingLeftOf Q x1 x2 σ) : Met l yX1_missingLeftOf wsX1_missingLeftOf ({ frames := 1, cells := 0, slots := 0, locals := 23 } : Room) (va_Pc [.ref (g.2.1 2), .int x1, .int x2] (fun U => xIn g σ U.heap U)) (va_Qi (fun r σ1 => Q r ∧ σ1 = σ) (fun σ1 t => xIn g σ1 t.heap t) (xA g)) 0 0 (xA g) := by
  refine gOfI (maxL := 3) (xMv g) (by decide) rfl (Nat.le_of_ble_eq_true rfl) ?_
  intro p e s m args below meth c QQ hx hb hml hown hts hret ls hl hI
  have hl : lv_has ls 3 [(0, .ref (g.2.1 2)), (1, .int x1), (2, .int x2)] := hl
  have hS : va_S (xA g) s.heap s.heap [] := va_S.rf
  have hF : ∀ w ∈ wsX10, w.before args s = true := fun w h => hts w (List.mem_cons_of_mem _ (List.mem_append_right _ h))
  refine lv_iconst (v := 0) hx hb dX1_missingLeftOf_0 (by decide) ?_
  refine lv_aload_n hx hb dX1_missingLeftOf_1 rfl (lv_at hl 0 rfl) ?_
  refine xG_X1_likeLeft hx hb hF hown hI (hts _ (List.mem_of_getElem? (i := 1) rfl : (Cond.fieldLink RX1 18 "PlateRoom$EdgeTable" "likeLeft" "[I" : Cond) ∈ wsX1_missingLeftOf)) dX1_missingLeftOf_2 ?_
  refine lv_iload_n hx hb dX1_missingLeftOf_5 rfl (lv_at hl 1 rfl) ?_
  have hin := hw.1
  have hw := hw.2
  refine xR_X1_likeLeft hx hb hI hin dX1_missingLeftOf_6 ?_
  refine lv_iload_n hx hb dX1_missingLeftOf_7 rfl (lv_at hl 2 rfl) ?_
  refine lv_iand hx hb dX1_missingLeftOf_8 ?_
  refine gSi (cx_J6_bitCount_0f7a4 l g (σ := σ) hw) (xMv g) ⟨hx, hb, hml, hown, hts⟩ (va_cwS 1 hts gX1_missingLeftOf_J6_bitCount_0f7a4 rfl rfl rfl (by decide +kernel) ⟨Nat.le_of_ble_eq_true rfl, Nat.le_of_ble_eq_true rfl⟩) hI hS hl.1 rfl rfl (Nat.le_of_ble_eq_true rfl) dX1_missingLeftOf_9 (fun r1 σ2 H locs hw hI hS => ?_)
  obtain ⟨hw, hq⟩ := hw
  rw [hq] at hI
  refine lv_aload_n hx hb dX1_missingLeftOf_12 rfl (lv_at hl 0 rfl) ?_
  refine xG_X1_leftOf hx hb hF hown hI (hts _ (List.mem_of_getElem? (i := 2) rfl : (Cond.fieldLink RX1 21 "PlateRoom$EdgeTable" "leftOf" "[I" : Cond) ∈ wsX1_missingLeftOf)) dX1_missingLeftOf_13 ?_
  refine lv_iload_n hx hb dX1_missingLeftOf_16 rfl (lv_at hl 1 rfl) ?_
  have hin := hw.1
  have hw := hw.2
  refine xR_X1_leftOf hx hb hI hin dX1_missingLeftOf_17 ?_
  refine lv_iload_n hx hb dX1_missingLeftOf_18 rfl (lv_at hl 2 rfl) ?_
  refine lv_iand hx hb dX1_missingLeftOf_19 ?_
  refine gSi (cx_J6_bitCount_0f7a4 l g (σ := σ) hw) (xMv g) ⟨hx, hb, hml, hown, hts⟩ (va_cwS 1 hts gX1_missingLeftOf_J6_bitCount_0f7a4 rfl rfl rfl (by decide +kernel) ⟨Nat.le_of_ble_eq_true rfl, Nat.le_of_ble_eq_true rfl⟩) hI hS hl.1 rfl rfl (Nat.le_of_ble_eq_true rfl) dX1_missingLeftOf_20 (fun r3 σ4 H locs hw hI hS => ?_)
  obtain ⟨hw, hq⟩ := hw
  rw [hq] at hI
  refine lv_isub hx hb dX1_missingLeftOf_23 ?_
  refine va_mmax hx hb (hml.trans hl.1.symm) hown (hts _ (List.mem_of_getElem? (i := 3) rfl : (Cond.methodLink RX1 41 Lib.Math.max.name : Cond) ∈ wsX1_missingLeftOf)) (hts _ (List.mem_of_getElem? (i := 4) rfl : (Cond.static Lib.Math.max.name : Cond) ∈ wsX1_missingLeftOf)) (hts _ (List.mem_of_getElem? (i := 5) rfl : (Cond.initialized "java/lang/Math" : Cond) ∈ wsX1_missingLeftOf)) (hts _ (List.mem_of_getElem? (i := 6) rfl : (Cond.code Lib.Math.max.name Lib.Math.max.code 2 (some .int) : Cond) ∈ wsX1_missingLeftOf)) (Nat.le_of_ble_eq_true rfl) (Nat.le_of_ble_eq_true rfl) (Nat.zero_le _) (Nat.zero_le _) dX1_missingLeftOf_24 ?_
  refine lv_topi (fun m5 em5 => ?_)
  have hw := hw m5 em5
  exact hret _ _ _ _ _ _ dX1_missingLeftOf_27 ⟨hw, rfl⟩ hI hS
set_option maxRecDepth 100000 in
set_option maxHeartbeats 4000000 in
theorem cx_X1_startsIn (l : Launch) (g : wG) {σ : wS} {x1 : Int32} {Q : Int32 → Prop} (hw : wx_X1_startsIn Q x1 σ) : Met l yX1_startsIn wsX1_startsIn ({ frames := 2, cells := 0, slots := 0, locals := 45 } : Room) (va_Pc [.ref (g.2.1 2), .int x1] (fun U => xIn g σ U.heap U)) (va_Qi (fun r σ1 => Q r ∧ σ1 = σ) (fun σ1 t => xIn g σ1 t.heap t) (xA g)) 0 0 (xA g) := by
  refine gOfI (maxL := 5) (xMv g) (by decide) rfl (Nat.le_of_ble_eq_true rfl) ?_
  intro p e s m args below meth c QQ hx hb hml hown hts hret ls hl hI
  have hl : lv_has ls 5 [(0, .ref (g.2.1 2)), (1, .int x1)] := hl
  have hS : va_S (xA g) s.heap s.heap [] := va_S.rf
  have hF : ∀ w ∈ wsX10, w.before args s = true := fun w h => hts w (List.mem_cons_of_mem _ (List.mem_append_right _ h))
  refine lv_iconst (v := 0) hx hb dX1_startsIn_0 (by decide) ?_
  refine lv_istore_n (lv' := [(2, .int 0), (0, .ref (g.2.1 2)), (1, .int x1)]) hx hb dX1_startsIn_1 rfl hl (by decide) rfl (fun ls hl => ?_)
  refine lv_iconst (v := 0) hx hb dX1_startsIn_2 (by decide) ?_
  refine lv_istore_n (lv' := [(3, .int 0), (2, .int 0), (0, .ref (g.2.1 2)), (1, .int x1)]) hx hb dX1_startsIn_3 rfl hl (by decide) rfl (fun ls hl => ?_)
  obtain ⟨n4, hw⟩ := hw
  have key4 : ∀ (n : Nat) (x1 : Int32) (x2 : Int32) (x3 : Int32) (H : Heap) (locs : List Loc) (ls : Array Slot), xIn g σ H s → va_S (xA g) s.heap H locs → lv_has ls 5 [(0, .ref (g.2.1 2)), (1, .int x1), (2, .int x2), (3, .int x3)] → wloop (wx_X1_startsIn_L4 Q x1 σ) n (x2, x3) → W p l e ({ frames := 2, cells := 0, slots := 0, locals := 45 } : Room) s m args below meth c H locs 0 0 QQ (F0 m 4 ls []) := by
    intro n
    induction n with
    | zero => intro x1 x2 x3  H locs ls hI hS hl hw; exact False.elim hw
    | succ n ih =>
      intro x1 x2 x3  H locs ls hI hS hl hw
      obtain ⟨K4, hK4⟩ : ∃ K, K = wloop (wx_X1_startsIn_L4 Q x1 σ) n := ⟨_, rfl⟩
      have hw : wx_X1_startsIn_L4 Q x1 σ K4 (x2, x3) := by rw [hK4]; exact hw
      dsimp only [wx_X1_startsIn_L4] at hw
      have ih4 := ih
      refine lv_iload_n hx hb dX1_startsIn_4 rfl (lv_at hl 3 rfl) ?_
      refine lv_bipush (v := 20) hx hb dX1_startsIn_5 (by decide) ?_
      refine lv_icmp_ge (tgt := 54) hx hb dX1_startsIn_7 (by decide) (fun hc => ?_) (fun hc => ?_)
      · have hw := hw.1 hc
        refine lv_iload_n hx hb dX1_startsIn_54 rfl (lv_at hl 2 rfl) ?_
        exact hret _ _ _ _ _ _ dX1_startsIn_55 ⟨hw, rfl⟩ hI hS
      have hw := hw.2 hc
      refine lv_iconst (v := 1) hx hb dX1_startsIn_10 (by decide) ?_
      refine lv_iload_n hx hb dX1_startsIn_11 rfl (lv_at hl 3 rfl) ?_
      refine lv_ishl hx hb dX1_startsIn_12 ?_
      refine lv_iconst (v := 1) hx hb dX1_startsIn_13 (by decide) ?_
      refine lv_isub hx hb dX1_startsIn_14 ?_
      refine lv_topi (fun a1 ea1 => ?_)
      have hw := hw a1 ea1
      refine lv_istore (lv' := [(4, .int a1), (0, .ref (g.2.1 2)), (1, .int x1), (2, .int x2), (3, .int x3)]) hx hb dX1_startsIn_15 hl (by decide) rfl (fun ls hl => ?_)
      refine lv_iload_n hx hb dX1_startsIn_17 rfl (lv_at hl 2 rfl) ?_
      refine lv_iload_n hx hb dX1_startsIn_18 rfl (lv_at hl 4 rfl) ?_
      refine gSi (cx_X1_holds l g (σ := σ) hw) (xMv g) ⟨hx, hb, hml, hown, hts⟩ (va_cwS 2 hts gX1_startsIn_X1_holds rfl rfl rfl (by decide +kernel) ⟨Nat.le_of_ble_eq_true rfl, Nat.le_of_ble_eq_true rfl⟩) hI hS hl.1 rfl rfl (Nat.le_of_ble_eq_true rfl) dX1_startsIn_19 (fun r2 σ3 H locs hw hI hS => ?_)
      obtain ⟨hw, hq⟩ := hw
      rw [hq] at hI
      refine lv_if_eq (tgt := 48) hx hb dX1_startsIn_22 (by decide) (fun hc => ?_) (fun hc => ?_)
      · have hw := hw.1 hc
        obtain ⟨a4, ea4⟩ : ∃ y : Int32, y = x3 + 1 := ⟨_, rfl⟩
        have hw := hw a4 ea4
        refine lv_iinc (v := a4) (lv' := [(3, .int a4), (4, .int a1), (0, .ref (g.2.1 2)), (1, .int x1), (2, .int x2)]) hx hb dX1_startsIn_48 hl (k := 4) rfl (by rw [ea4]; rfl) (by decide) rfl (fun ls hl => ?_)
        refine lv_goto (tgt := 4) hx hb dX1_startsIn_51 (by decide) ?_
        rw [hK4] at hw
        exact ih4 _ _ _ _ _ _ hI hS (lv_sub hl [2, 3, 4, 0] rfl) hw
      have hw := hw.2 hc
      refine lv_aload_n hx hb dX1_startsIn_25 rfl (lv_at hl 1 rfl) ?_
      refine xG_X1_likeLeft hx hb hF hown hI (hts _ (List.mem_of_getElem? (i := 1) rfl : (Cond.fieldLink RX1 18 "PlateRoom$EdgeTable" "likeLeft" "[I" : Cond) ∈ wsX1_startsIn)) dX1_startsIn_26 ?_
      refine lv_iload_n hx hb dX1_startsIn_29 rfl (lv_at hl 4 rfl) ?_
      have hin := hw.1
      have hw := hw.2
      refine xR_X1_likeLeft hx hb hI hin dX1_startsIn_30 ?_
      refine lv_iload_n hx hb dX1_startsIn_31 rfl (lv_at hl 2 rfl) ?_
      refine lv_iand hx hb dX1_startsIn_32 ?_
      refine lv_iload hx hb dX1_startsIn_33 (lv_at hl 0 rfl) ?_
      refine lv_iand hx hb dX1_startsIn_35 ?_
      refine lv_if_ne (tgt := 48) hx hb dX1_startsIn_36 (by decide) (fun hc => ?_) (fun hc => ?_)
      · have hw := hw.1 hc
        obtain ⟨a5, ea5⟩ : ∃ y : Int32, y = x3 + 1 := ⟨_, rfl⟩
        have hw := hw a5 ea5
        refine lv_iinc (v := a5) (lv' := [(3, .int a5), (4, .int a1), (0, .ref (g.2.1 2)), (1, .int x1), (2, .int x2)]) hx hb dX1_startsIn_48 hl (k := 4) rfl (by rw [ea5]; rfl) (by decide) rfl (fun ls hl => ?_)
        refine lv_goto (tgt := 4) hx hb dX1_startsIn_51 (by decide) ?_
        rw [hK4] at hw
        exact ih4 _ _ _ _ _ _ hI hS (lv_sub hl [2, 3, 4, 0] rfl) hw
      have hw := hw.2 hc
      refine lv_iload_n hx hb dX1_startsIn_39 rfl (lv_at hl 3 rfl) ?_
      refine lv_aload_n hx hb dX1_startsIn_40 rfl (lv_at hl 1 rfl) ?_
      refine lv_iload_n hx hb dX1_startsIn_41 rfl (lv_at hl 4 rfl) ?_
      refine lv_iload_n hx hb dX1_startsIn_42 rfl (lv_at hl 2 rfl) ?_
      refine gVi (cx_X1_missingLeftOf l g (σ := σ) hw) (xMv g) ⟨hx, hb, hml, hown, hts⟩ (cwV 2 hts gX1_startsIn_X1_missingLeftOf rfl rfl rfl (by decide +kernel) ⟨Nat.le_of_ble_eq_true rfl, Nat.le_of_ble_eq_true rfl⟩) (xRecv_X1 hI) hI hS hl.1 rfl rfl (Nat.le_of_ble_eq_true rfl) dX1_startsIn_43 (fun r6 σ7 H locs hw hI hS => ?_)
      obtain ⟨hw, hq⟩ := hw
      rw [hq] at hI
      refine lv_iadd hx hb dX1_startsIn_46 ?_
      refine lv_topi (fun a8 ea8 => ?_)
      have hw := hw a8 ea8
      refine lv_istore_n (lv' := [(2, .int a8), (4, .int a1), (0, .ref (g.2.1 2)), (1, .int x1), (3, .int x3)]) hx hb dX1_startsIn_47 rfl hl (by decide) rfl (fun ls hl => ?_)
      obtain ⟨a9, ea9⟩ : ∃ y : Int32, y = x3 + 1 := ⟨_, rfl⟩
      have hw := hw a9 ea9
      refine lv_iinc (v := a9) (lv' := [(3, .int a9), (2, .int a8), (4, .int a1), (0, .ref (g.2.1 2)), (1, .int x1)]) hx hb dX1_startsIn_48 hl (k := 4) rfl (by rw [ea9]; rfl) (by decide) rfl (fun ls hl => ?_)
      refine lv_goto (tgt := 4) hx hb dX1_startsIn_51 (by decide) ?_
      rw [hK4] at hw
      exact ih4 _ _ _ _ _ _ hI hS (lv_sub hl [3, 4, 1, 0] rfl) hw
  exact key4 n4 _ _ _ _ _ _ hI hS (lv_sub hl [2, 3, 1, 0] rfl) hw
