set_option maxRecDepth 100000 in
set_option maxHeartbeats 4000000 in
theorem ce_X1_fits (l : Launch) (A : Nat → Prop) (g : wG) {σ : wS} {x0 : Int32} {x1 : Int32} {Q : Int32 → Prop} (hw : we_X1_fits Q x0 x1) : Met l yX1_fits wsX1_fits ({ frames := 0, cells := 0, slots := 0, locals := 0 } : Room) (va_Pc [.int x0, .int x1] (fun U => eIn A g σ U.heap U)) (va_Qi (fun r σ1 => Q r ∧ σ1 = σ) (fun σ1 t => eIn A g σ1 t.heap t) A) 0 0 A := by
  refine gOfZ (maxL := 2) (eMv A g) (by decide) rfl (Nat.le_of_ble_eq_true rfl) ?_
  intro p e s m args below meth c QQ hx hb hml hown hts hret ls hl hI
  have hl : lv_has ls 2 [(0, .int x0), (1, .int x1)] := hl
  have hS : va_S A s.heap s.heap [] := va_S.rf
  refine lv_iload_n hx hb dX1_fits_0 rfl (lv_at hl 0 rfl) ?_
  refine lv_if_eq (tgt := 13) hx hb dX1_fits_1 (by decide) (fun hc => ?_) (fun hc => ?_)
  · have hw := hw.1 hc
    refine lv_iconst (v := 0) hx hb dX1_fits_13 (by decide) ?_
    exact hret _ _ _ _ _ _ dX1_fits_14 isB0 ⟨hw, rfl⟩ hI hS
  have hw := hw.2 hc
  refine lv_iload_n hx hb dX1_fits_4 rfl (lv_at hl 0 rfl) ?_
  refine lv_iload_n hx hb dX1_fits_5 rfl (lv_at hl 1 rfl) ?_
  refine lv_icmp_ne (tgt := 13) hx hb dX1_fits_6 (by decide) (fun hc => ?_) (fun hc => ?_)
  · have hw := hw.1 hc
    refine lv_iconst (v := 0) hx hb dX1_fits_13 (by decide) ?_
    exact hret _ _ _ _ _ _ dX1_fits_14 isB0 ⟨hw, rfl⟩ hI hS
  have hw := hw.2 hc
  refine lv_iconst (v := 1) hx hb dX1_fits_9 (by decide) ?_
  refine lv_goto (tgt := 14) hx hb dX1_fits_10 (by decide) ?_
  exact hret _ _ _ _ _ _ dX1_fits_14 isB1 ⟨hw, rfl⟩ hI hS
set_option maxRecDepth 100000 in
set_option maxHeartbeats 4000000 in
theorem ce_X1_compare (l : Launch) (A : Nat → Prop) (g : wG) {σ : wS} {x1 : Int32} {Q : wS → Prop} (hw : we_X1_compare Q x1 σ) : Met l yX1_compare wsX1_compare ({ frames := 1, cells := 0, slots := 0, locals := 21 } : Room) (va_Pc [.ref (g.2.1 2), .int x1] (fun U => eIn A g σ U.heap U)) (va_Qv Q (fun σ1 t => eIn A g σ1 t.heap t) A) 0 0 A := by
  refine gOfV (maxL := 4) (eMv A g) (by decide) rfl (Nat.le_of_ble_eq_true rfl) ?_
  intro p e s m args below meth c QQ hx hb hml hown hts hret ls hl hI
  have hl : lv_has ls 4 [(0, .ref (g.2.1 2)), (1, .int x1)] := hl
  have hS : va_S A s.heap s.heap [] := va_S.rf
  have hF : ∀ w ∈ wsX10, w.before args s = true := fun w h => hts w (List.mem_cons_of_mem _ (List.mem_append_right _ h))
  refine lv_aload_n hx hb dX1_compare_0 rfl (lv_at hl 0 rfl) ?_
  refine eG_X1_likeLeft hx hb hF hown hI (hts _ (List.mem_of_getElem? (i := 1) rfl : (Cond.fieldLink RX1 18 "PlateRoom$EdgeTable" "likeLeft" "[I" : Cond) ∈ wsX1_compare)) dX1_compare_1 ?_
  refine lv_iload_n hx hb dX1_compare_4 rfl (lv_at hl 1 rfl) ?_
  refine lv_iconst (v := 1) hx hb dX1_compare_5 (by decide) ?_
  refine lv_iload_n hx hb dX1_compare_6 rfl (lv_at hl 1 rfl) ?_
  refine lv_ishl hx hb dX1_compare_7 ?_
  have hin := hw.1
  have hw := hw.2
  refine eS_X1_likeLeft hx hb hI hS hin dX1_compare_8 (fun σ1 eσ1 H locs hI hS => ?_)
  have hw := hw σ1 eσ1
  refine lv_aload_n hx hb dX1_compare_9 rfl (lv_at hl 0 rfl) ?_
  refine eG_X1_leftOf hx hb hF hown hI (hts _ (List.mem_of_getElem? (i := 2) rfl : (Cond.fieldLink RX1 21 "PlateRoom$EdgeTable" "leftOf" "[I" : Cond) ∈ wsX1_compare)) dX1_compare_10 ?_
  refine lv_iload_n hx hb dX1_compare_13 rfl (lv_at hl 1 rfl) ?_
  refine lv_iconst (v := 0) hx hb dX1_compare_14 (by decide) ?_
  have hin := hw.1
  have hw := hw.2
  refine eS_X1_leftOf hx hb hI hS hin dX1_compare_15 (fun σ2 eσ2 H locs hI hS => ?_)
  have hw := hw σ2 eσ2
  refine lv_aload_n hx hb dX1_compare_16 rfl (lv_at hl 0 rfl) ?_
  refine eG_X1_rightOf hx hb hF hown hI (hts _ (List.mem_of_getElem? (i := 3) rfl : (Cond.fieldLink RX1 24 "PlateRoom$EdgeTable" "rightOf" "[I" : Cond) ∈ wsX1_compare)) dX1_compare_17 ?_
  refine lv_iload_n hx hb dX1_compare_20 rfl (lv_at hl 1 rfl) ?_
  refine lv_iconst (v := 0) hx hb dX1_compare_21 (by decide) ?_
  have hin := hw.1
  have hw := hw.2
  refine eS_X1_rightOf hx hb hI hS hin dX1_compare_22 (fun σ3 eσ3 H locs hI hS => ?_)
  have hw := hw σ3 eσ3
  refine lv_iconst (v := 0) hx hb dX1_compare_23 (by decide) ?_
  refine lv_istore_n (lv' := [(2, .int 0), (0, .ref (g.2.1 2)), (1, .int x1)]) hx hb dX1_compare_24 rfl hl (by decide) rfl (fun ls hl => ?_)
  obtain ⟨n25, hw⟩ := hw
  have key25 : ∀ (n : Nat) (x1 : Int32) (x2 : Int32) (σ : wS) (H : Heap) (locs : List Loc) (ls : Array Slot), eIn A g σ H s → va_S A s.heap H locs → lv_has ls 4 [(0, .ref (g.2.1 2)), (1, .int x1), (2, .int x2)] → wloop (we_X1_compare_L25 Q x1) n (x2, σ) → W p l e ({ frames := 1, cells := 0, slots := 0, locals := 21 } : Room) s m args below meth c H locs 0 0 QQ (F0 m 25 ls []) := by
    intro n
    induction n with
    | zero => intro x1 x2 σ H locs ls hI hS hl hw; exact False.elim hw
    | succ n ih =>
      intro x1 x2 σ H locs ls hI hS hl hw
      obtain ⟨K25, hK25⟩ : ∃ K, K = wloop (we_X1_compare_L25 Q x1) n := ⟨_, rfl⟩
      have hw : we_X1_compare_L25 Q x1 K25 (x2, σ) := by rw [hK25]; exact hw
      dsimp only [we_X1_compare_L25] at hw
      have ih25 := ih
      have j91 : ∀ (x2 : Int32) (x3 : Int32) (σ : wS) (H : Heap) (locs : List Loc) (ls : Array Slot), eIn A g σ H s → va_S A s.heap H locs → lv_has ls 4 [(0, .ref (g.2.1 2)), (1, .int x1), (2, .int x2), (3, .int x3)] → we_X1_compare_J91 Q K25 x1 x2 x3 σ → W p l e ({ frames := 1, cells := 0, slots := 0, locals := 21 } : Room) s m args below meth c H locs 0 0 QQ (F0 m 91 ls []) := by
        intro x2 x3 σ H locs ls hI hS hl hw
        refine lv_aload_n hx hb dX1_compare_91 rfl (lv_at hl 0 rfl) ?_
        refine eG_X1_rights hx hb hF hown hI (hts _ (List.mem_of_getElem? (i := 5) rfl : (Cond.fieldLink RX1 15 "PlateRoom$EdgeTable" "rights" "[I" : Cond) ∈ wsX1_compare)) dX1_compare_92 ?_
        refine lv_iload_n hx hb dX1_compare_95 rfl (lv_at hl 1 rfl) ?_
        have hin := hw.1
        have hw := hw.2
        refine eR_X1_rights hx hb hI hin dX1_compare_96 ?_
        refine lv_aload_n hx hb dX1_compare_97 rfl (lv_at hl 0 rfl) ?_
        refine eG_X1_lefts hx hb hF hown hI (hts _ (List.mem_of_getElem? (i := 4) rfl : (Cond.fieldLink RX1 9 "PlateRoom$EdgeTable" "lefts" "[I" : Cond) ∈ wsX1_compare)) dX1_compare_98 ?_
        refine lv_iload_n hx hb dX1_compare_101 rfl (lv_at hl 2 rfl) ?_
        have hin := hw.1
        have hw := hw.2
        refine eR_X1_lefts hx hb hI hin dX1_compare_102 ?_
        refine gSi (ce_X1_fits l A g (σ := σ) hw) (eMv A g) ⟨hx, hb, hml, hown, hts⟩ (va_cwS 2 hts gX1_compare_X1_fits rfl rfl rfl (by decide +kernel) ⟨Nat.le_of_ble_eq_true rfl, Nat.le_of_ble_eq_true rfl⟩) hI hS hl.1 rfl rfl (Nat.le_of_ble_eq_true rfl) dX1_compare_103 (fun r1 σ2 H locs hw hI hS => ?_)
        obtain ⟨hw, hq⟩ := hw
        rw [hq] at hI
        refine lv_if_eq (tgt := 119) hx hb dX1_compare_106 (by decide) (fun hc => ?_) (fun hc => ?_)
        · have hw := hw.1 hc
          obtain ⟨a3, ea3⟩ : ∃ y : Int32, y = x2 + 1 := ⟨_, rfl⟩
          have hw := hw a3 ea3
          refine lv_iinc (v := a3) (lv' := [(2, .int a3), (0, .ref (g.2.1 2)), (1, .int x1), (3, .int x3)]) hx hb dX1_compare_119 hl (k := 2) rfl (by rw [ea3]; rfl) (by decide) rfl (fun ls hl => ?_)
          refine lv_goto (tgt := 25) hx hb dX1_compare_122 (by decide) ?_
          rw [hK25] at hw
          exact ih25 _ _ _ _ _ _ hI hS (lv_sub hl [1, 2, 0] rfl) hw
        have hw := hw.2 hc
        refine lv_aload_n hx hb dX1_compare_109 rfl (lv_at hl 0 rfl) ?_
        refine eG_X1_rightOf hx hb hF hown hI (hts _ (List.mem_of_getElem? (i := 3) rfl : (Cond.fieldLink RX1 24 "PlateRoom$EdgeTable" "rightOf" "[I" : Cond) ∈ wsX1_compare)) dX1_compare_110 ?_
        refine lv_iload_n hx hb dX1_compare_113 rfl (lv_at hl 1 rfl) ?_
        refine lv_dup2_11 hx hb dX1_compare_114 rfl rfl ?_
        have hin := hw.1
        have hw := hw.2
        refine eR_X1_rightOf hx hb hI hin dX1_compare_115 ?_
        refine lv_iload_n hx hb dX1_compare_116 rfl (lv_at hl 3 rfl) ?_
        refine lv_ior hx hb dX1_compare_117 ?_
        have hin := hw.1
        have hw := hw.2
        refine eS_X1_rightOf hx hb hI hS hin dX1_compare_118 (fun σ4 eσ4 H locs hI hS => ?_)
        have hw := hw σ4 eσ4
        obtain ⟨a5, ea5⟩ : ∃ y : Int32, y = x2 + 1 := ⟨_, rfl⟩
        have hw := hw a5 ea5
        refine lv_iinc (v := a5) (lv' := [(2, .int a5), (0, .ref (g.2.1 2)), (1, .int x1), (3, .int x3)]) hx hb dX1_compare_119 hl (k := 2) rfl (by rw [ea5]; rfl) (by decide) rfl (fun ls hl => ?_)
        refine lv_goto (tgt := 25) hx hb dX1_compare_122 (by decide) ?_
        rw [hK25] at hw
        exact ih25 _ _ _ _ _ _ hI hS (lv_sub hl [1, 2, 0] rfl) hw
      have j63 : ∀ (x2 : Int32) (x3 : Int32) (σ : wS) (H : Heap) (locs : List Loc) (ls : Array Slot), eIn A g σ H s → va_S A s.heap H locs → lv_has ls 4 [(0, .ref (g.2.1 2)), (1, .int x1), (2, .int x2), (3, .int x3)] → we_X1_compare_J63 Q K25 x1 x2 x3 σ → W p l e ({ frames := 1, cells := 0, slots := 0, locals := 21 } : Room) s m args below meth c H locs 0 0 QQ (F0 m 63 ls []) := by
        intro x2 x3 σ H locs ls hI hS hl hw
        refine lv_aload_n hx hb dX1_compare_63 rfl (lv_at hl 0 rfl) ?_
        refine eG_X1_lefts hx hb hF hown hI (hts _ (List.mem_of_getElem? (i := 4) rfl : (Cond.fieldLink RX1 9 "PlateRoom$EdgeTable" "lefts" "[I" : Cond) ∈ wsX1_compare)) dX1_compare_64 ?_
        refine lv_iload_n hx hb dX1_compare_67 rfl (lv_at hl 1 rfl) ?_
        have hin := hw.1
        have hw := hw.2
        refine eR_X1_lefts hx hb hI hin dX1_compare_68 ?_
        refine lv_aload_n hx hb dX1_compare_69 rfl (lv_at hl 0 rfl) ?_
        refine eG_X1_rights hx hb hF hown hI (hts _ (List.mem_of_getElem? (i := 5) rfl : (Cond.fieldLink RX1 15 "PlateRoom$EdgeTable" "rights" "[I" : Cond) ∈ wsX1_compare)) dX1_compare_70 ?_
        refine lv_iload_n hx hb dX1_compare_73 rfl (lv_at hl 2 rfl) ?_
        have hin := hw.1
        have hw := hw.2
        refine eR_X1_rights hx hb hI hin dX1_compare_74 ?_
        refine gSi (ce_X1_fits l A g (σ := σ) hw) (eMv A g) ⟨hx, hb, hml, hown, hts⟩ (va_cwS 2 hts gX1_compare_X1_fits rfl rfl rfl (by decide +kernel) ⟨Nat.le_of_ble_eq_true rfl, Nat.le_of_ble_eq_true rfl⟩) hI hS hl.1 rfl rfl (Nat.le_of_ble_eq_true rfl) dX1_compare_75 (fun r1 σ2 H locs hw hI hS => ?_)
        obtain ⟨hw, hq⟩ := hw
        rw [hq] at hI
        refine lv_if_eq (tgt := 91) hx hb dX1_compare_78 (by decide) (fun hc => ?_) (fun hc => ?_)
        · have hw := hw.1 hc
          exact j91 _ _ _ _ _ _ hI hS (lv_sub hl [0, 1, 2, 3] rfl) hw
        have hw := hw.2 hc
        refine lv_aload_n hx hb dX1_compare_81 rfl (lv_at hl 0 rfl) ?_
        refine eG_X1_leftOf hx hb hF hown hI (hts _ (List.mem_of_getElem? (i := 2) rfl : (Cond.fieldLink RX1 21 "PlateRoom$EdgeTable" "leftOf" "[I" : Cond) ∈ wsX1_compare)) dX1_compare_82 ?_
        refine lv_iload_n hx hb dX1_compare_85 rfl (lv_at hl 1 rfl) ?_
        refine lv_dup2_11 hx hb dX1_compare_86 rfl rfl ?_
        have hin := hw.1
        have hw := hw.2
        refine eR_X1_leftOf hx hb hI hin dX1_compare_87 ?_
        refine lv_iload_n hx hb dX1_compare_88 rfl (lv_at hl 3 rfl) ?_
        refine lv_ior hx hb dX1_compare_89 ?_
        have hin := hw.1
        have hw := hw.2
        refine eS_X1_leftOf hx hb hI hS hin dX1_compare_90 (fun σ3 eσ3 H locs hI hS => ?_)
        have hw := hw σ3 eσ3
        exact j91 _ _ _ _ _ _ hI hS (lv_sub hl [0, 1, 2, 3] rfl) hw
      refine lv_iload_n hx hb dX1_compare_25 rfl (lv_at hl 2 rfl) ?_
      refine lv_bipush (v := 20) hx hb dX1_compare_26 (by decide) ?_
      refine lv_icmp_ge (tgt := 125) hx hb dX1_compare_28 (by decide) (fun hc => ?_) (fun hc => ?_)
      · have hw := hw.1 hc
        exact hret _ _ _ _ _ dX1_compare_125 hw hI hS
      have hw := hw.2 hc
      refine lv_iconst (v := 1) hx hb dX1_compare_31 (by decide) ?_
      refine lv_iload_n hx hb dX1_compare_32 rfl (lv_at hl 2 rfl) ?_
      refine lv_ishl hx hb dX1_compare_33 ?_
      refine lv_topi (fun a1 ea1 => ?_)
      have hw := hw a1 ea1
      refine lv_istore_n (lv' := [(3, .int a1), (0, .ref (g.2.1 2)), (1, .int x1), (2, .int x2)]) hx hb dX1_compare_34 rfl hl (by decide) rfl (fun ls hl => ?_)
      refine lv_aload_n hx hb dX1_compare_35 rfl (lv_at hl 1 rfl) ?_
      refine eG_X1_lefts hx hb hF hown hI (hts _ (List.mem_of_getElem? (i := 4) rfl : (Cond.fieldLink RX1 9 "PlateRoom$EdgeTable" "lefts" "[I" : Cond) ∈ wsX1_compare)) dX1_compare_36 ?_
      refine lv_iload_n hx hb dX1_compare_39 rfl (lv_at hl 2 rfl) ?_
      have hin := hw.1
      have hw := hw.2
      refine eR_X1_lefts hx hb hI hin dX1_compare_40 ?_
      refine lv_aload_n hx hb dX1_compare_41 rfl (lv_at hl 1 rfl) ?_
      refine eG_X1_lefts hx hb hF hown hI (hts _ (List.mem_of_getElem? (i := 4) rfl : (Cond.fieldLink RX1 9 "PlateRoom$EdgeTable" "lefts" "[I" : Cond) ∈ wsX1_compare)) dX1_compare_42 ?_
      refine lv_iload_n hx hb dX1_compare_45 rfl (lv_at hl 3 rfl) ?_
      have hin := hw.1
      have hw := hw.2
      refine eR_X1_lefts hx hb hI hin dX1_compare_46 ?_
      refine gSi (ce_X1_fits l A g (σ := σ) hw) (eMv A g) ⟨hx, hb, hml, hown, hts⟩ (va_cwS 2 hts gX1_compare_X1_fits rfl rfl rfl (by decide +kernel) ⟨Nat.le_of_ble_eq_true rfl, Nat.le_of_ble_eq_true rfl⟩) hI hS hl.1 rfl rfl (Nat.le_of_ble_eq_true rfl) dX1_compare_47 (fun r2 σ3 H locs hw hI hS => ?_)
      obtain ⟨hw, hq⟩ := hw
      rw [hq] at hI
      refine lv_if_eq (tgt := 63) hx hb dX1_compare_50 (by decide) (fun hc => ?_) (fun hc => ?_)
      · have hw := hw.1 hc
        exact j63 _ _ _ _ _ _ hI hS (lv_sub hl [1, 2, 3, 0] rfl) hw
      have hw := hw.2 hc
      refine lv_aload_n hx hb dX1_compare_53 rfl (lv_at hl 1 rfl) ?_
      refine eG_X1_likeLeft hx hb hF hown hI (hts _ (List.mem_of_getElem? (i := 1) rfl : (Cond.fieldLink RX1 18 "PlateRoom$EdgeTable" "likeLeft" "[I" : Cond) ∈ wsX1_compare)) dX1_compare_54 ?_
      refine lv_iload_n hx hb dX1_compare_57 rfl (lv_at hl 2 rfl) ?_
      refine lv_dup2_11 hx hb dX1_compare_58 rfl rfl ?_
      have hin := hw.1
      have hw := hw.2
      refine eR_X1_likeLeft hx hb hI hin dX1_compare_59 ?_
      refine lv_iload_n hx hb dX1_compare_60 rfl (lv_at hl 0 rfl) ?_
      refine lv_ior hx hb dX1_compare_61 ?_
      have hin := hw.1
      have hw := hw.2
      refine eS_X1_likeLeft hx hb hI hS hin dX1_compare_62 (fun σ4 eσ4 H locs hI hS => ?_)
      have hw := hw σ4 eσ4
      exact j63 _ _ _ _ _ _ hI hS (lv_sub hl [1, 2, 3, 0] rfl) hw
  exact key25 n25 _ _ _ _ _ _ hI hS (lv_sub hl [1, 2, 0] rfl) hw
set_option maxRecDepth 100000 in
set_option maxHeartbeats 4000000 in
theorem cc_J7_fill_53178_hours (l : Launch) (A : Nat → Prop) (g : wG) {σ : wS} {x1 : Int32} {Q : wS → Prop} (hw : wc_J7_fill_53178_hours Q x1 σ) : Met l yJ7_fill_53178 wsJ7_fill_53178 ({ frames := 0, cells := 0, slots := 0, locals := 0 } : Room) (va_Pc [.ref (g.2.1 8), .int x1] (fun U => cIn A g σ U.heap U)) (va_Qv Q (fun σ1 t => cIn A g σ1 t.heap t) A) 0 0 A := by
  refine gOfV (maxL := 4) (cMv A g) (by decide) rfl (Nat.le_of_ble_eq_true rfl) ?_
  intro p e s m args below meth c QQ hx hb hml hown hts hret ls hl hI
  have hl : lv_has ls 4 [(0, .ref (g.2.1 8)), (1, .int x1)] := hl
  have hS : va_S A s.heap s.heap [] := va_S.rf
  refine lv_iconst (v := 0) hx hb dJ7_fill_53178_0 (by decide) ?_
  refine lv_istore_n (lv' := [(2, .int 0), (0, .ref (g.2.1 8)), (1, .int x1)]) hx hb dJ7_fill_53178_1 rfl hl (by decide) rfl (fun ls hl => ?_)
  refine lv_aload_n hx hb dJ7_fill_53178_2 rfl (lv_at hl 1 rfl) ?_
  refine cN_X0_hours hx hb hI dJ7_fill_53178_3 ?_
  refine lv_istore_n (lv' := [(3, .int 20), (2, .int 0), (0, .ref (g.2.1 8)), (1, .int x1)]) hx hb dJ7_fill_53178_4 rfl hl (by decide) rfl (fun ls hl => ?_)
  obtain ⟨n5, hw⟩ := hw
  have key5 : ∀ (n : Nat) (x1 : Int32) (x2 : Int32) (x3 : Int32) (σ : wS) (H : Heap) (locs : List Loc) (ls : Array Slot), cIn A g σ H s → va_S A s.heap H locs → lv_has ls 4 [(0, .ref (g.2.1 8)), (1, .int x1), (2, .int x2), (3, .int x3)] → wloop (wc_J7_fill_53178_hours_L5 Q x1 x3) n (x2, σ) → W p l e ({ frames := 0, cells := 0, slots := 0, locals := 0 } : Room) s m args below meth c H locs 0 0 QQ (F0 m 5 ls []) := by
    intro n
    induction n with
    | zero => intro x1 x2 x3 σ H locs ls hI hS hl hw; exact False.elim hw
    | succ n ih =>
      intro x1 x2 x3 σ H locs ls hI hS hl hw
      obtain ⟨K5, hK5⟩ : ∃ K, K = wloop (wc_J7_fill_53178_hours_L5 Q x1 x3) n := ⟨_, rfl⟩
      have hw : wc_J7_fill_53178_hours_L5 Q x1 x3 K5 (x2, σ) := by rw [hK5]; exact hw
      dsimp only [wc_J7_fill_53178_hours_L5] at hw
      have ih5 := ih
      refine lv_iload_n hx hb dJ7_fill_53178_5 rfl (lv_at hl 2 rfl) ?_
      refine lv_iload_n hx hb dJ7_fill_53178_6 rfl (lv_at hl 3 rfl) ?_
      refine lv_icmp_ge (tgt := 20) hx hb dJ7_fill_53178_7 (by decide) (fun hc => ?_) (fun hc => ?_)
      · have hw := hw.1 hc
        exact hret _ _ _ _ _ dJ7_fill_53178_20 hw hI hS
      have hw := hw.2 hc
      refine lv_aload_n hx hb dJ7_fill_53178_10 rfl (lv_at hl 0 rfl) ?_
      refine lv_iload_n hx hb dJ7_fill_53178_11 rfl (lv_at hl 2 rfl) ?_
      refine lv_iload_n hx hb dJ7_fill_53178_12 rfl (lv_at hl 1 rfl) ?_
      have hin := hw.1
      have hw := hw.2
      refine cS_X0_hours hx hb hI hS hin dJ7_fill_53178_13 (fun σ1 eσ1 H locs hI hS => ?_)
      have hw := hw σ1 eσ1
      obtain ⟨a2, ea2⟩ : ∃ y : Int32, y = x2 + 1 := ⟨_, rfl⟩
      have hw := hw a2 ea2
      refine lv_iinc (v := a2) (lv' := [(2, .int a2), (0, .ref (g.2.1 8)), (1, .int x1), (3, .int x3)]) hx hb dJ7_fill_53178_14 hl (k := 2) rfl (by rw [ea2]; rfl) (by decide) rfl (fun ls hl => ?_)
      refine lv_goto (tgt := 5) hx hb dJ7_fill_53178_17 (by decide) ?_
      rw [hK5] at hw
      exact ih5 _ _ _ _ _ _ _ hI hS (lv_sub hl [1, 2, 0, 3] rfl) hw
  exact key5 n5 _ _ _ _ _ _ _ hI hS (lv_sub hl [2, 3, 1, 0] rfl) hw
set_option maxRecDepth 100000 in
set_option maxHeartbeats 4000000 in
theorem cc_J7_fill_53178_lost (l : Launch) (A : Nat → Prop) (g : wG) {σ : wS} {x1 : Int32} {Q : wS → Prop} (hw : wc_J7_fill_53178_lost Q x1 σ) : Met l yJ7_fill_53178 wsJ7_fill_53178 ({ frames := 0, cells := 0, slots := 0, locals := 0 } : Room) (va_Pc [.ref (g.2.1 9), .int x1] (fun U => cIn A g σ U.heap U)) (va_Qv Q (fun σ1 t => cIn A g σ1 t.heap t) A) 0 0 A := by
  refine gOfV (maxL := 4) (cMv A g) (by decide) rfl (Nat.le_of_ble_eq_true rfl) ?_
  intro p e s m args below meth c QQ hx hb hml hown hts hret ls hl hI
  have hl : lv_has ls 4 [(0, .ref (g.2.1 9)), (1, .int x1)] := hl
  have hS : va_S A s.heap s.heap [] := va_S.rf
  refine lv_iconst (v := 0) hx hb dJ7_fill_53178_0 (by decide) ?_
  refine lv_istore_n (lv' := [(2, .int 0), (0, .ref (g.2.1 9)), (1, .int x1)]) hx hb dJ7_fill_53178_1 rfl hl (by decide) rfl (fun ls hl => ?_)
  refine lv_aload_n hx hb dJ7_fill_53178_2 rfl (lv_at hl 1 rfl) ?_
  refine cN_X0_lost hx hb hI dJ7_fill_53178_3 ?_
  refine lv_istore_n (lv' := [(3, .int 20), (2, .int 0), (0, .ref (g.2.1 9)), (1, .int x1)]) hx hb dJ7_fill_53178_4 rfl hl (by decide) rfl (fun ls hl => ?_)
  obtain ⟨n5, hw⟩ := hw
  have key5 : ∀ (n : Nat) (x1 : Int32) (x2 : Int32) (x3 : Int32) (σ : wS) (H : Heap) (locs : List Loc) (ls : Array Slot), cIn A g σ H s → va_S A s.heap H locs → lv_has ls 4 [(0, .ref (g.2.1 9)), (1, .int x1), (2, .int x2), (3, .int x3)] → wloop (wc_J7_fill_53178_lost_L5 Q x1 x3) n (x2, σ) → W p l e ({ frames := 0, cells := 0, slots := 0, locals := 0 } : Room) s m args below meth c H locs 0 0 QQ (F0 m 5 ls []) := by
    intro n
    induction n with
    | zero => intro x1 x2 x3 σ H locs ls hI hS hl hw; exact False.elim hw
    | succ n ih =>
      intro x1 x2 x3 σ H locs ls hI hS hl hw
      obtain ⟨K5, hK5⟩ : ∃ K, K = wloop (wc_J7_fill_53178_lost_L5 Q x1 x3) n := ⟨_, rfl⟩
      have hw : wc_J7_fill_53178_lost_L5 Q x1 x3 K5 (x2, σ) := by rw [hK5]; exact hw
      dsimp only [wc_J7_fill_53178_lost_L5] at hw
      have ih5 := ih
      refine lv_iload_n hx hb dJ7_fill_53178_5 rfl (lv_at hl 2 rfl) ?_
      refine lv_iload_n hx hb dJ7_fill_53178_6 rfl (lv_at hl 3 rfl) ?_
      refine lv_icmp_ge (tgt := 20) hx hb dJ7_fill_53178_7 (by decide) (fun hc => ?_) (fun hc => ?_)
      · have hw := hw.1 hc
        exact hret _ _ _ _ _ dJ7_fill_53178_20 hw hI hS
      have hw := hw.2 hc
      refine lv_aload_n hx hb dJ7_fill_53178_10 rfl (lv_at hl 0 rfl) ?_
      refine lv_iload_n hx hb dJ7_fill_53178_11 rfl (lv_at hl 2 rfl) ?_
      refine lv_iload_n hx hb dJ7_fill_53178_12 rfl (lv_at hl 1 rfl) ?_
      have hin := hw.1
      have hw := hw.2
      refine cS_X0_lost hx hb hI hS hin dJ7_fill_53178_13 (fun σ1 eσ1 H locs hI hS => ?_)
      have hw := hw σ1 eσ1
      obtain ⟨a2, ea2⟩ : ∃ y : Int32, y = x2 + 1 := ⟨_, rfl⟩
      have hw := hw a2 ea2
      refine lv_iinc (v := a2) (lv' := [(2, .int a2), (0, .ref (g.2.1 9)), (1, .int x1), (3, .int x3)]) hx hb dJ7_fill_53178_14 hl (k := 2) rfl (by rw [ea2]; rfl) (by decide) rfl (fun ls hl => ?_)
      refine lv_goto (tgt := 5) hx hb dJ7_fill_53178_17 (by decide) ?_
      rw [hK5] at hw
      exact ih5 _ _ _ _ _ _ _ hI hS (lv_sub hl [1, 2, 0, 3] rfl) hw
  exact key5 n5 _ _ _ _ _ _ _ hI hS (lv_sub hl [2, 3, 1, 0] rfl) hw
