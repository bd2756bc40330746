set_option maxRecDepth 100000 in
set_option maxHeartbeats 4000000 in
theorem cm_X6_hasRow (l : Launch) (g : wG) {σ : wS} {x1 : Int32} {x2 : Int32} {Q : Int32 → wS → Prop} (hw : wm_X6_hasRow Q x1 x2 σ) : Met l yX6_hasRow wsX6_hasRow ({ frames := 2, cells := 0, slots := 0, locals := 47 } : Room) (va_Pc [.ref (g.2.1 0), .int x1, .int x2] (fun U => mIn g σ U.heap U)) (va_Qi Q (fun σ1 t => mIn g σ1 t.heap t) (mA g)) 0 0 (mA g) := by
  refine gOfZ (maxL := 8) (mMv g) (by decide) rfl (Nat.le_of_ble_eq_true rfl) ?_
  intro p e s m args below meth c QQ hx hb hml hown hts hret ls hl hI
  have hl : lv_has ls 8 [(0, .ref (g.2.1 0)), (1, .int x1), (2, .int x2)] := hl
  have hS : va_S (mA g) s.heap s.heap [] := va_S.rf
  have hF : ∀ w ∈ wsX60, w.before args s = true := fun w h => hts w (List.mem_cons_of_mem _ (List.mem_append_right _ h))
  refine lv_iload_n hx hb dX6_hasRow_0 rfl (lv_at hl 1 rfl) ?_
  refine lv_if_ne (tgt := 6) hx hb dX6_hasRow_1 (by decide) (fun hc => ?_) (fun hc => ?_)
  · have hw := hw.1 hc
    refine lv_aload_n hx hb dX6_hasRow_6 rfl (lv_at hl 0 rfl) ?_
    refine lv_iload_n hx hb dX6_hasRow_7 rfl (lv_at hl 1 rfl) ?_
    refine gVv (cm_X6_marks l g (σ := σ) hw) (mMv g) ⟨hx, hb, hml, hown, hts⟩ (cwV 1 hts gX6_hasRow_X6_marks rfl rfl rfl (by decide +kernel) ⟨Nat.le_of_ble_eq_true rfl, Nat.le_of_ble_eq_true rfl⟩) (mRecv_X6 hI) hI hS hl.1 rfl rfl (Nat.le_of_ble_eq_true rfl) dX6_hasRow_8 (fun σ1 H locs hw hI hS => ?_)
    refine lv_aload_n hx hb dX6_hasRow_11 rfl (lv_at hl 0 rfl) ?_
    refine lv_iload_n hx hb dX6_hasRow_12 rfl (lv_at hl 1 rfl) ?_
    refine gVv (cm_X6_counts l g (σ := σ1) hw) (mMv g) ⟨hx, hb, hml, hown, hts⟩ (cwV 1 hts gX6_hasRow_X6_counts rfl rfl rfl (by decide +kernel) ⟨Nat.le_of_ble_eq_true rfl, Nat.le_of_ble_eq_true rfl⟩) (mRecv_X6 hI) hI hS hl.1 rfl rfl (Nat.le_of_ble_eq_true rfl) dX6_hasRow_13 (fun σ2 H locs hw hI hS => ?_)
    refine lv_iconst (v := 0) hx hb dX6_hasRow_16 (by decide) ?_
    refine lv_istore_n (lv' := [(3, .int 0), (0, .ref (g.2.1 0)), (1, .int x1), (2, .int x2)]) hx hb dX6_hasRow_17 rfl hl (by decide) rfl (fun ls hl => ?_)
    refine lv_iconst (v := 0) hx hb dX6_hasRow_18 (by decide) ?_
    refine lv_istore (lv' := [(4, .int 0), (3, .int 0), (0, .ref (g.2.1 0)), (1, .int x1), (2, .int x2)]) hx hb dX6_hasRow_19 hl (by decide) rfl (fun ls hl => ?_)
    refine lv_iconst (v := (-1)) hx hb dX6_hasRow_21 (by decide) ?_
    refine lv_topi (fun a3 ea3 => ?_)
    have hw := hw a3 ea3
    refine lv_istore (lv' := [(5, .int a3), (4, .int 0), (3, .int 0), (0, .ref (g.2.1 0)), (1, .int x1), (2, .int x2)]) hx hb dX6_hasRow_22 hl (by decide) rfl (fun ls hl => ?_)
    refine lv_iconst (v := 0) hx hb dX6_hasRow_24 (by decide) ?_
    refine lv_istore (lv' := [(6, .int 0), (5, .int a3), (4, .int 0), (3, .int 0), (0, .ref (g.2.1 0)), (1, .int x1), (2, .int x2)]) hx hb dX6_hasRow_25 hl (by decide) rfl (fun ls hl => ?_)
    refine lv_iconst (v := 0) hx hb dX6_hasRow_27 (by decide) ?_
    refine lv_istore (lv' := [(7, .int 0), (6, .int 0), (5, .int a3), (4, .int 0), (3, .int 0), (0, .ref (g.2.1 0)), (1, .int x1), (2, .int x2)]) hx hb dX6_hasRow_28 hl (by decide) rfl (fun ls hl => ?_)
    obtain ⟨n30, hw⟩ := hw
    have key30 : ∀ (n : Nat) (x1 : Int32) (x2 : Int32) (x3 : Int32) (x4 : Int32) (x5 : Int32) (x6 : Int32) (x7 : Int32) (σ : wS) (H : Heap) (locs : List Loc) (ls : Array Slot), mIn g σ H s → va_S (mA g) s.heap H locs → lv_has ls 8 [(0, .ref (g.2.1 0)), (1, .int x1), (2, .int x2), (3, .int x3), (4, .int x4), (5, .int x5), (6, .int x6), (7, .int x7)] → wloop (wm_X6_hasRow_L30 Q x1 x2 x3 x4 σ) n (x5, x6, x7) → W p l e ({ frames := 2, cells := 0, slots := 0, locals := 47 } : Room) s m args below meth c H locs 0 0 QQ (F0 m 30 ls []) := by
      intro n
      induction n with
      | zero => intro x1 x2 x3 x4 x5 x6 x7 σ H locs ls hI hS hl hw; exact False.elim hw
      | succ n ih =>
        intro x1 x2 x3 x4 x5 x6 x7 σ H locs ls hI hS hl hw
        obtain ⟨K30, hK30⟩ : ∃ K, K = wloop (wm_X6_hasRow_L30 Q x1 x2 x3 x4 σ) n := ⟨_, rfl⟩
        have hw : wm_X6_hasRow_L30 Q x1 x2 x3 x4 σ K30 (x5, x6, x7) := by rw [hK30]; exact hw
        dsimp only [wm_X6_hasRow_L30] at hw
        have ih30 := ih
        have j74 : ∀ (x6 : Int32) (x7 : Int32) (H : Heap) (locs : List Loc) (ls : Array Slot), mIn g σ H s → va_S (mA g) s.heap H locs → lv_has ls 8 [(0, .ref (g.2.1 0)), (1, .int x1), (2, .int x2), (3, .int x3), (4, .int x4), (6, .int x6), (7, .int x7)] → wm_X6_hasRow_J74 Q K30 x1 x2 x3 x4 x6 x7 σ → W p l e ({ frames := 2, cells := 0, slots := 0, locals := 47 } : Room) s m args below meth c H locs 0 0 QQ (F0 m 74 ls []) := by
          intro x6 x7  H locs ls hI hS hl hw
          refine lv_aload_n hx hb dX6_hasRow_74 rfl (lv_at hl 0 rfl) ?_
          refine mG_X6_mark hx hb hF hown hI (hts _ (List.mem_of_getElem? (i := 2) rfl : (Cond.fieldLink RX6 62 "PlateRoomModel" "mark" "[I" : Cond) ∈ wsX6_hasRow)) dX6_hasRow_75 ?_
          refine lv_aload_n hx hb dX6_hasRow_78 rfl (lv_at hl 0 rfl) ?_
          refine lv_iload hx hb dX6_hasRow_79 (lv_at hl 6 rfl) ?_
          refine gVi (cm_X6_leftOf l g (σ := σ) hw) (mMv g) ⟨hx, hb, hml, hown, hts⟩ (cwV 1 hts gX6_hasRow_X6_leftOf rfl rfl rfl (by decide +kernel) ⟨Nat.le_of_ble_eq_true rfl, Nat.le_of_ble_eq_true rfl⟩) (mRecv_X6 hI) hI hS hl.1 rfl rfl (Nat.le_of_ble_eq_true rfl) dX6_hasRow_81 (fun r1 σ2 H locs hw hI hS => ?_)
          obtain ⟨hw, hq⟩ := hw
          rw [hq] at hI
          have hin := hw.1
          have hw := hw.2
          refine mR_X6_mark hx hb hI hin dX6_hasRow_84 ?_
          refine lv_topi (fun a3 ea3 => ?_)
          have hw := hw a3 ea3
          refine lv_istore (lv' := [(5, .int a3), (0, .ref (g.2.1 0)), (1, .int x1), (2, .int x2), (3, .int x3), (4, .int x4), (6, .int x6), (7, .int x7)]) hx hb dX6_hasRow_85 hl (by decide) rfl (fun ls hl => ?_)
          refine lv_iload hx hb dX6_hasRow_87 (lv_at hl 6 rfl) ?_
          refine lv_if_ne (tgt := 102) hx hb dX6_hasRow_89 (by decide) (fun hc => ?_) (fun hc => ?_)
          · have hw := hw.1 hc
            refine lv_iconst (v := 1) hx hb dX6_hasRow_102 (by decide) ?_
            refine lv_goto (tgt := 107) hx hb dX6_hasRow_103 (by decide) ?_
            refine lv_istore (lv' := [(6, .int 1), (5, .int a3), (0, .ref (g.2.1 0)), (1, .int x1), (2, .int x2), (3, .int x3), (4, .int x4), (7, .int x7)]) hx hb dX6_hasRow_107 hl (by decide) rfl (fun ls hl => ?_)
            obtain ⟨a4, ea4⟩ : ∃ y : Int32, y = x7 + 1 := ⟨_, rfl⟩
            have hw := hw a4 ea4
            refine lv_iinc (v := a4) (lv' := [(7, .int a4), (6, .int 1), (5, .int a3), (0, .ref (g.2.1 0)), (1, .int x1), (2, .int x2), (3, .int x3), (4, .int x4)]) hx hb dX6_hasRow_109 hl (k := 7) rfl (by rw [ea4]; rfl) (by decide) rfl (fun ls hl => ?_)
            refine lv_goto (tgt := 30) hx hb dX6_hasRow_112 (by decide) ?_
            rw [hK30] at hw
            exact ih30 _ _ _ _ _ _ _ _ _ _ _ hI hS (lv_sub hl [3, 4, 5, 6, 7, 2, 1, 0] rfl) hw
          have hw := hw.2 hc
          refine lv_aload_n hx hb dX6_hasRow_92 rfl (lv_at hl 1 rfl) ?_
          refine lv_iload hx hb dX6_hasRow_93 (lv_at hl 7 rfl) ?_
          refine gVi (cm_X6_leftOf l g (σ := σ) hw) (mMv g) ⟨hx, hb, hml, hown, hts⟩ (cwV 1 hts gX6_hasRow_X6_leftOf rfl rfl rfl (by decide +kernel) ⟨Nat.le_of_ble_eq_true rfl, Nat.le_of_ble_eq_true rfl⟩) (mRecv_X6 hI) hI hS hl.1 rfl rfl (Nat.le_of_ble_eq_true rfl) dX6_hasRow_95 (fun r5 σ6 H locs hw hI hS => ?_)
          obtain ⟨hw, hq⟩ := hw
          rw [hq] at hI
          refine lv_iload_n hx hb dX6_hasRow_98 rfl (lv_at hl 3 rfl) ?_
          refine lv_icmp_ne (tgt := 106) hx hb dX6_hasRow_99 (by decide) (fun hc => ?_) (fun hc => ?_)
          · have hw := hw.1 hc
            refine lv_iconst (v := 0) hx hb dX6_hasRow_106 (by decide) ?_
            refine lv_istore (lv' := [(6, .int 0), (5, .int a3), (0, .ref (g.2.1 0)), (1, .int x1), (2, .int x2), (3, .int x3), (4, .int x4), (7, .int x7)]) hx hb dX6_hasRow_107 hl (by decide) rfl (fun ls hl => ?_)
            obtain ⟨a7, ea7⟩ : ∃ y : Int32, y = x7 + 1 := ⟨_, rfl⟩
            have hw := hw a7 ea7
            refine lv_iinc (v := a7) (lv' := [(7, .int a7), (6, .int 0), (5, .int a3), (0, .ref (g.2.1 0)), (1, .int x1), (2, .int x2), (3, .int x3), (4, .int x4)]) hx hb dX6_hasRow_109 hl (k := 7) rfl (by rw [ea7]; rfl) (by decide) rfl (fun ls hl => ?_)
            refine lv_goto (tgt := 30) hx hb dX6_hasRow_112 (by decide) ?_
            rw [hK30] at hw
            exact ih30 _ _ _ _ _ _ _ _ _ _ _ hI hS (lv_sub hl [3, 4, 5, 6, 7, 2, 1, 0] rfl) hw
          have hw := hw.2 hc
          refine lv_iconst (v := 1) hx hb dX6_hasRow_102 (by decide) ?_
          refine lv_goto (tgt := 107) hx hb dX6_hasRow_103 (by decide) ?_
          refine lv_istore (lv' := [(6, .int 1), (5, .int a3), (0, .ref (g.2.1 0)), (1, .int x1), (2, .int x2), (3, .int x3), (4, .int x4), (7, .int x7)]) hx hb dX6_hasRow_107 hl (by decide) rfl (fun ls hl => ?_)
          obtain ⟨a8, ea8⟩ : ∃ y : Int32, y = x7 + 1 := ⟨_, rfl⟩
          have hw := hw a8 ea8
          refine lv_iinc (v := a8) (lv' := [(7, .int a8), (6, .int 1), (5, .int a3), (0, .ref (g.2.1 0)), (1, .int x1), (2, .int x2), (3, .int x3), (4, .int x4)]) hx hb dX6_hasRow_109 hl (k := 7) rfl (by rw [ea8]; rfl) (by decide) rfl (fun ls hl => ?_)
          refine lv_goto (tgt := 30) hx hb dX6_hasRow_112 (by decide) ?_
          rw [hK30] at hw
          exact ih30 _ _ _ _ _ _ _ _ _ _ _ hI hS (lv_sub hl [3, 4, 5, 6, 7, 2, 1, 0] rfl) hw
        refine lv_iload hx hb dX6_hasRow_30 (lv_at hl 7 rfl) ?_
        refine lv_aload_n hx hb dX6_hasRow_32 rfl (lv_at hl 0 rfl) ?_
        refine mG_X6_plates hx hb hF hown hI (hts _ (List.mem_of_getElem? (i := 1) rfl : (Cond.fieldLink RX6 108 "PlateRoomModel" "plates" "I" : Cond) ∈ wsX6_hasRow)) dX6_hasRow_33 ?_
        refine lv_icmp_ge (tgt := 115) hx hb dX6_hasRow_36 (by decide) (fun hc => ?_) (fun hc => ?_)
        · have hw := hw.1 hc
          refine lv_iconst (v := 0) hx hb dX6_hasRow_115 (by decide) ?_
          refine lv_istore (lv' := [(7, .int 0), (0, .ref (g.2.1 0)), (1, .int x1), (2, .int x2), (3, .int x3), (4, .int x4), (5, .int x5), (6, .int x6)]) hx hb dX6_hasRow_116 hl (by decide) rfl (fun ls hl => ?_)
          obtain ⟨n118, hw⟩ := hw
          have key118 : ∀ (n : Nat) (x2 : Int32) (x3 : Int32) (x4 : Int32) (x6 : Int32) (x7 : Int32) (σ : wS) (H : Heap) (locs : List Loc) (ls : Array Slot), mIn g σ H s → va_S (mA g) s.heap H locs → lv_has ls 8 [(0, .ref (g.2.1 0)), (2, .int x2), (3, .int x3), (4, .int x4), (6, .int x6), (7, .int x7)] → wloop (wm_X6_hasRow_L118 Q x2 x6 σ) n (x3, x4, x7) → W p l e ({ frames := 2, cells := 0, slots := 0, locals := 47 } : Room) s m args below meth c H locs 0 0 QQ (F0 m 118 ls []) := by
            intro n
            induction n with
            | zero => intro x2 x3 x4 x6 x7 σ H locs ls hI hS hl hw; exact False.elim hw
            | succ n ih =>
              intro x2 x3 x4 x6 x7 σ H locs ls hI hS hl hw
              obtain ⟨K118, hK118⟩ : ∃ K, K = wloop (wm_X6_hasRow_L118 Q x2 x6 σ) n := ⟨_, rfl⟩
              have hw : wm_X6_hasRow_L118 Q x2 x6 σ K118 (x3, x4, x7) := by rw [hK118]; exact hw
              dsimp only [wm_X6_hasRow_L118] at hw
              have ih118 := ih
              refine lv_iload hx hb dX6_hasRow_118 (lv_at hl 5 rfl) ?_
              refine lv_sipush (v := 500) hx hb dX6_hasRow_120 (by decide) ?_
              refine lv_icmp_ge (tgt := 161) hx hb dX6_hasRow_123 (by decide) (fun hc => ?_) (fun hc => ?_)
              · have hw := hw.1 hc
                refine lv_iload hx hb dX6_hasRow_161 (lv_at hl 3 rfl) ?_
                refine lv_iconst (v := 1) hx hb dX6_hasRow_163 (by decide) ?_
                refine lv_icmp_le (tgt := 169) hx hb dX6_hasRow_164 (by decide) (fun hc => ?_) (fun hc => ?_)
                · have hw := hw.1 hc
                  refine lv_iload_n hx hb dX6_hasRow_169 rfl (lv_at hl 1 rfl) ?_
                  refine lv_if_eq (tgt := 192) hx hb dX6_hasRow_170 (by decide) (fun hc => ?_) (fun hc => ?_)
                  · have hw := hw.1 hc
                    refine lv_iconst (v := 1) hx hb dX6_hasRow_192 (by decide) ?_
                    refine lv_goto (tgt := 197) hx hb dX6_hasRow_193 (by decide) ?_
                    exact hret _ _ _ _ _ _ dX6_hasRow_197 isB1 hw hI hS
                  have hw := hw.2 hc
                  refine lv_iload hx hb dX6_hasRow_173 (lv_at hl 3 rfl) ?_
                  refine lv_iconst (v := 1) hx hb dX6_hasRow_175 (by decide) ?_
                  refine lv_icmp_ne (tgt := 187) hx hb dX6_hasRow_176 (by decide) (fun hc => ?_) (fun hc => ?_)
                  · have hw := hw.1 hc
                    refine lv_iload hx hb dX6_hasRow_187 (lv_at hl 4 rfl) ?_
                    refine lv_if_eq (tgt := 196) hx hb dX6_hasRow_189 (by decide) (fun hc => ?_) (fun hc => ?_)
                    · have hw := hw.1 hc
                      refine lv_iconst (v := 0) hx hb dX6_hasRow_196 (by decide) ?_
                      exact hret _ _ _ _ _ _ dX6_hasRow_197 isB0 hw hI hS
                    have hw := hw.2 hc
                    refine lv_iconst (v := 1) hx hb dX6_hasRow_192 (by decide) ?_
                    refine lv_goto (tgt := 197) hx hb dX6_hasRow_193 (by decide) ?_
                    exact hret _ _ _ _ _ _ dX6_hasRow_197 isB1 hw hI hS
                  have hw := hw.2 hc
                  refine lv_iload_n hx hb dX6_hasRow_179 rfl (lv_at hl 2 rfl) ?_
                  refine lv_iload_n hx hb dX6_hasRow_180 rfl (lv_at hl 1 rfl) ?_
                  refine lv_icmp_ne (tgt := 196) hx hb dX6_hasRow_181 (by decide) (fun hc => ?_) (fun hc => ?_)
                  · have hw := hw.1 hc
                    refine lv_iconst (v := 0) hx hb dX6_hasRow_196 (by decide) ?_
                    exact hret _ _ _ _ _ _ dX6_hasRow_197 isB0 hw hI hS
                  have hw := hw.2 hc
                  refine lv_goto (tgt := 192) hx hb dX6_hasRow_184 (by decide) ?_
                  refine lv_iconst (v := 1) hx hb dX6_hasRow_192 (by decide) ?_
                  refine lv_goto (tgt := 197) hx hb dX6_hasRow_193 (by decide) ?_
                  exact hret _ _ _ _ _ _ dX6_hasRow_197 isB1 hw hI hS
                have hw := hw.2 hc
                refine lv_iconst (v := 0) hx hb dX6_hasRow_167 (by decide) ?_
                exact hret _ _ _ _ _ _ dX6_hasRow_168 isB0 hw hI hS
              have hw := hw.2 hc
              refine lv_iload hx hb dX6_hasRow_126 (lv_at hl 3 rfl) ?_
              refine lv_iconst (v := 0) hx hb dX6_hasRow_128 (by decide) ?_
              refine lv_aload_n hx hb dX6_hasRow_129 rfl (lv_at hl 0 rfl) ?_
              refine mG_X6_excess hx hb hF hown hI (hts _ (List.mem_of_getElem? (i := 3) rfl : (Cond.fieldLink RX6 59 "PlateRoomModel" "excess" "[I" : Cond) ∈ wsX6_hasRow)) dX6_hasRow_130 ?_
              refine lv_iload hx hb dX6_hasRow_133 (lv_at hl 5 rfl) ?_
              have hin := hw.1
              have hw := hw.2
              refine mR_X6_excess hx hb hI hin dX6_hasRow_135 ?_
              refine va_mmax hx hb (hml.trans hl.1.symm) hown (hts _ (List.mem_of_getElem? (i := 4) rfl : (Cond.methodLink RX6 217 Lib.Math.max.name : Cond) ∈ wsX6_hasRow)) (hts _ (List.mem_of_getElem? (i := 5) rfl : (Cond.static Lib.Math.max.name : Cond) ∈ wsX6_hasRow)) (hts _ (List.mem_of_getElem? (i := 6) rfl : (Cond.initialized "java/lang/Math" : Cond) ∈ wsX6_hasRow)) (hts _ (List.mem_of_getElem? (i := 7) rfl : (Cond.code Lib.Math.max.name Lib.Math.max.code 2 (some .int) : Cond) ∈ wsX6_hasRow)) (Nat.le_of_ble_eq_true rfl) (Nat.le_of_ble_eq_true rfl) (Nat.zero_le _) (Nat.zero_le _) dX6_hasRow_136 ?_
              refine lv_topi (fun m1 em1 => ?_)
              have hw := hw m1 em1
              refine lv_iadd hx hb dX6_hasRow_139 ?_
              refine lv_topi (fun a2 ea2 => ?_)
              have hw := hw a2 ea2
              refine lv_istore (lv' := [(4, .int a2), (0, .ref (g.2.1 0)), (2, .int x2), (3, .int x3), (6, .int x6), (7, .int x7)]) hx hb dX6_hasRow_140 hl (by decide) rfl (fun ls hl => ?_)
              refine lv_aload_n hx hb dX6_hasRow_142 rfl (lv_at hl 1 rfl) ?_
              refine mG_X6_excess hx hb hF hown hI (hts _ (List.mem_of_getElem? (i := 3) rfl : (Cond.fieldLink RX6 59 "PlateRoomModel" "excess" "[I" : Cond) ∈ wsX6_hasRow)) dX6_hasRow_143 ?_
              refine lv_iload hx hb dX6_hasRow_146 (lv_at hl 5 rfl) ?_
              have hin := hw.1
              have hw := hw.2
              refine mR_X6_excess hx hb hI hin dX6_hasRow_148 ?_
              refine lv_if_le (tgt := 155) hx hb dX6_hasRow_149 (by decide) (fun hc => ?_) (fun hc => ?_)
              · have hw := hw.1 hc
                obtain ⟨a3, ea3⟩ : ∃ y : Int32, y = x7 + 1 := ⟨_, rfl⟩
                have hw := hw a3 ea3
                refine lv_iinc (v := a3) (lv' := [(7, .int a3), (4, .int a2), (0, .ref (g.2.1 0)), (2, .int x2), (3, .int x3), (6, .int x6)]) hx hb dX6_hasRow_155 hl (k := 5) rfl (by rw [ea3]; rfl) (by decide) rfl (fun ls hl => ?_)
                refine lv_goto (tgt := 118) hx hb dX6_hasRow_158 (by decide) ?_
                rw [hK118] at hw
                exact ih118 _ _ _ _ _ _ _ _ _ hI hS (lv_sub hl [2, 3, 4, 1, 5, 0] rfl) hw
              have hw := hw.2 hc
              refine lv_iload hx hb dX6_hasRow_152 (lv_at hl 5 rfl) ?_
              refine lv_istore_n (lv' := [(3, .int x7), (4, .int a2), (0, .ref (g.2.1 0)), (2, .int x2), (6, .int x6), (7, .int x7)]) hx hb dX6_hasRow_154 rfl hl (by decide) rfl (fun ls hl => ?_)
              obtain ⟨a4, ea4⟩ : ∃ y : Int32, y = x7 + 1 := ⟨_, rfl⟩
              have hw := hw a4 ea4
              refine lv_iinc (v := a4) (lv' := [(7, .int a4), (3, .int x7), (4, .int a2), (0, .ref (g.2.1 0)), (2, .int x2), (6, .int x6)]) hx hb dX6_hasRow_155 hl (k := 5) rfl (by rw [ea4]; rfl) (by decide) rfl (fun ls hl => ?_)
              refine lv_goto (tgt := 118) hx hb dX6_hasRow_158 (by decide) ?_
              rw [hK118] at hw
              exact ih118 _ _ _ _ _ _ _ _ _ hI hS (lv_sub hl [3, 4, 1, 2, 5, 0] rfl) hw
          exact key118 n118 _ _ _ _ _ _ _ _ _ hI hS (lv_sub hl [1, 3, 4, 5, 7, 0] rfl) hw
        have hw := hw.2 hc
        refine lv_iload_n hx hb dX6_hasRow_39 rfl (lv_at hl 1 rfl) ?_
        refine lv_iload hx hb dX6_hasRow_40 (lv_at hl 7 rfl) ?_
        refine lv_ishr hx hb dX6_hasRow_42 ?_
        refine lv_iconst (v := 1) hx hb dX6_hasRow_43 (by decide) ?_
        refine lv_iand hx hb dX6_hasRow_44 ?_
        refine lv_if_ne (tgt := 51) hx hb dX6_hasRow_45 (by decide) (fun hc => ?_) (fun hc => ?_)
        · have hw := hw.1 hc
          refine lv_iload hx hb dX6_hasRow_51 (lv_at hl 5 rfl) ?_
          refine lv_if_lt (tgt := 74) hx hb dX6_hasRow_53 (by decide) (fun hc => ?_) (fun hc => ?_)
          · have hw := hw.1 hc
            exact j74 _ _ _ _ _ hI hS (lv_sub hl [0, 1, 2, 3, 4, 6, 7] rfl) hw
          have hw := hw.2 hc
          refine lv_aload_n hx hb dX6_hasRow_56 rfl (lv_at hl 0 rfl) ?_
          refine mG_X6_mark hx hb hF hown hI (hts _ (List.mem_of_getElem? (i := 2) rfl : (Cond.fieldLink RX6 62 "PlateRoomModel" "mark" "[I" : Cond) ∈ wsX6_hasRow)) dX6_hasRow_57 ?_
          refine lv_aload_n hx hb dX6_hasRow_60 rfl (lv_at hl 0 rfl) ?_
          refine lv_iload hx hb dX6_hasRow_61 (lv_at hl 7 rfl) ?_
          refine gVi (cm_X6_leftOf l g (σ := σ) hw) (mMv g) ⟨hx, hb, hml, hown, hts⟩ (cwV 1 hts gX6_hasRow_X6_leftOf rfl rfl rfl (by decide +kernel) ⟨Nat.le_of_ble_eq_true rfl, Nat.le_of_ble_eq_true rfl⟩) (mRecv_X6 hI) hI hS hl.1 rfl rfl (Nat.le_of_ble_eq_true rfl) dX6_hasRow_63 (fun r1 σ2 H locs hw hI hS => ?_)
          obtain ⟨hw, hq⟩ := hw
          rw [hq] at hI
          have hin := hw.1
          have hw := hw.2
          refine mR_X6_mark hx hb hI hin dX6_hasRow_66 ?_
          refine lv_iload hx hb dX6_hasRow_67 (lv_at hl 5 rfl) ?_
          refine lv_icmp_eq (tgt := 74) hx hb dX6_hasRow_69 (by decide) (fun hc => ?_) (fun hc => ?_)
          · have hw := hw.1 hc
            exact j74 _ _ _ _ _ hI hS (lv_sub hl [0, 1, 2, 3, 4, 6, 7] rfl) hw
          have hw := hw.2 hc
          refine lv_iconst (v := 0) hx hb dX6_hasRow_72 (by decide) ?_
          exact hret _ _ _ _ _ _ dX6_hasRow_73 isB0 hw hI hS
        have hw := hw.2 hc
        refine lv_goto (tgt := 109) hx hb dX6_hasRow_48 (by decide) ?_
        obtain ⟨a3, ea3⟩ : ∃ y : Int32, y = x7 + 1 := ⟨_, rfl⟩
        have hw := hw a3 ea3
        refine lv_iinc (v := a3) (lv' := [(7, .int a3), (0, .ref (g.2.1 0)), (1, .int x1), (2, .int x2), (3, .int x3), (4, .int x4), (5, .int x5), (6, .int x6)]) hx hb dX6_hasRow_109 hl (k := 7) rfl (by rw [ea3]; rfl) (by decide) rfl (fun ls hl => ?_)
        refine lv_goto (tgt := 30) hx hb dX6_hasRow_112 (by decide) ?_
        rw [hK30] at hw
        exact ih30 _ _ _ _ _ _ _ _ _ _ _ hI hS (lv_sub hl [1, 2, 3, 4, 5, 6, 7, 0] rfl) hw
    exact key30 n30 _ _ _ _ _ _ _ _ _ _ _ hI hS (lv_sub hl [5, 6, 7, 4, 3, 2, 1, 0] rfl) hw
  have hw := hw.2 hc
  refine lv_iconst (v := 1) hx hb dX6_hasRow_4 (by decide) ?_
  exact hret _ _ _ _ _ _ dX6_hasRow_5 isB1 hw hI hS
set_option maxRecDepth 100000 in
set_option maxHeartbeats 4000000 in
theorem cm_X6_isNext (l : Launch) (g : wG) {σ : wS} {x1 : Int32} {x2 : Int32} {x3 : Int32} {Q : Int32 → wS → Prop} (hw : wm_X6_isNext Q x1 x2 x3 σ) : Met l yX6_isNext wsX6_isNext ({ frames := 3, cells := 0, slots := 0, locals := 74 } : Room) (va_Pc [.ref (g.2.1 0), .int x1, .int x2, .int x3] (fun U => mIn g σ U.heap U)) (va_Qi Q (fun σ1 t => mIn g σ1 t.heap t) (mA g)) 0 0 (mA g) := by
  refine gOfZ (maxL := 4) (mMv g) (by decide) rfl (Nat.le_of_ble_eq_true rfl) ?_
  intro p e s m args below meth c QQ hx hb hml hown hts hret ls hl hI
  have hl : lv_has ls 4 [(0, .ref (g.2.1 0)), (1, .int x1), (2, .int x2), (3, .int x3)] := hl
  have hS : va_S (mA g) s.heap s.heap [] := va_S.rf
  have j23 : ∀ (x1 : Int32) (x3 : Int32) (σ : wS) (H : Heap) (locs : List Loc) (ls : Array Slot), mIn g σ H s → va_S (mA g) s.heap H locs → lv_has ls 4 [(0, .ref (g.2.1 0)), (1, .int x1), (3, .int x3)] → wm_X6_isNext_J23 Q x1 x3 σ → W p l e ({ frames := 3, cells := 0, slots := 0, locals := 74 } : Room) s m args below meth c H locs 0 0 QQ (F0 m 23 ls []) := by
    intro x1 x3 σ H locs ls hI hS hl hw
    refine lv_aload_n hx hb dX6_isNext_23 rfl (lv_at hl 0 rfl) ?_
    refine lv_iload_n hx hb dX6_isNext_24 rfl (lv_at hl 1 rfl) ?_
    refine lv_iconst (v := 1) hx hb dX6_isNext_25 (by decide) ?_
    refine lv_iload_n hx hb dX6_isNext_26 rfl (lv_at hl 2 rfl) ?_
    refine lv_ishl hx hb dX6_isNext_27 ?_
    refine lv_iconst (v := (-1)) hx hb dX6_isNext_28 (by decide) ?_
    refine lv_ixor hx hb dX6_isNext_29 ?_
    refine lv_iand hx hb dX6_isNext_30 ?_
    refine lv_aload_n hx hb dX6_isNext_31 rfl (lv_at hl 0 rfl) ?_
    refine lv_iload_n hx hb dX6_isNext_32 rfl (lv_at hl 2 rfl) ?_
    refine gVi (cm_X6_rightOf l g (σ := σ) hw) (mMv g) ⟨hx, hb, hml, hown, hts⟩ (cwV 1 hts gX6_isNext_X6_rightOf rfl rfl rfl (by decide +kernel) ⟨Nat.le_of_ble_eq_true rfl, Nat.le_of_ble_eq_true rfl⟩) (mRecv_X6 hI) hI hS hl.1 rfl rfl (Nat.le_of_ble_eq_true rfl) dX6_isNext_33 (fun r1 σ2 H locs hw hI hS => ?_)
    obtain ⟨hw, hq⟩ := hw
    rw [hq] at hI
    refine gVi (cm_X6_hasRow l g (σ := σ) hw) (mMv g) ⟨hx, hb, hml, hown, hts⟩ (cwV 2 hts gX6_isNext_X6_hasRow rfl rfl rfl (by decide +kernel) ⟨Nat.le_of_ble_eq_true rfl, Nat.le_of_ble_eq_true rfl⟩) (mRecv_X6 hI) hI hS hl.1 rfl rfl (Nat.le_of_ble_eq_true rfl) dX6_isNext_36 (fun r3 σ4 H locs hw hI hS => ?_)
    exact hret _ _ _ _ _ _ dX6_isNext_39 hw.1 hw.2 hI hS
  refine lv_iload_n hx hb dX6_isNext_0 rfl (lv_at hl 1 rfl) ?_
  refine lv_iload_n hx hb dX6_isNext_1 rfl (lv_at hl 3 rfl) ?_
  refine lv_ishr hx hb dX6_isNext_2 ?_
  refine lv_iconst (v := 1) hx hb dX6_isNext_3 (by decide) ?_
  refine lv_iand hx hb dX6_isNext_4 ?_
  refine lv_if_eq (tgt := 21) hx hb dX6_isNext_5 (by decide) (fun hc => ?_) (fun hc => ?_)
  · have hw := hw.1 hc
    refine lv_iconst (v := 0) hx hb dX6_isNext_21 (by decide) ?_
    exact hret _ _ _ _ _ _ dX6_isNext_22 isB0 hw hI hS
  have hw := hw.2 hc
  refine lv_iload_n hx hb dX6_isNext_8 rfl (lv_at hl 2 rfl) ?_
  refine lv_if_le (tgt := 23) hx hb dX6_isNext_9 (by decide) (fun hc => ?_) (fun hc => ?_)
  · have hw := hw.1 hc
    exact j23 _ _ _ _ _ _ hI hS (lv_sub hl [0, 1, 3] rfl) hw
  have hw := hw.2 hc
  refine lv_aload_n hx hb dX6_isNext_12 rfl (lv_at hl 0 rfl) ?_
  refine lv_iload_n hx hb dX6_isNext_13 rfl (lv_at hl 3 rfl) ?_
  refine gVi (cm_X6_leftOf l g (σ := σ) hw) (mMv g) ⟨hx, hb, hml, hown, hts⟩ (cwV 1 hts gX6_isNext_X6_leftOf rfl rfl rfl (by decide +kernel) ⟨Nat.le_of_ble_eq_true rfl, Nat.le_of_ble_eq_true rfl⟩) (mRecv_X6 hI) hI hS hl.1 rfl rfl (Nat.le_of_ble_eq_true rfl) dX6_isNext_14 (fun r1 σ2 H locs hw hI hS => ?_)
  obtain ⟨hw, hq⟩ := hw
  rw [hq] at hI
  refine lv_iload_n hx hb dX6_isNext_17 rfl (lv_at hl 2 rfl) ?_
  refine lv_icmp_eq (tgt := 23) hx hb dX6_isNext_18 (by decide) (fun hc => ?_) (fun hc => ?_)
  · have hw := hw.1 hc
    exact j23 _ _ _ _ _ _ hI hS (lv_sub hl [0, 1, 3] rfl) hw
  have hw := hw.2 hc
  refine lv_iconst (v := 0) hx hb dX6_isNext_21 (by decide) ?_
  exact hret _ _ _ _ _ _ dX6_isNext_22 isB0 hw hI hS
set_option maxRecDepth 100000 in
set_option maxHeartbeats 4000000 in
theorem cm_X6_finds (l : Launch) (g : wG) {σ : wS} {x1 : Int32} {Q : Int32 → wS → Prop} (hw : wm_X6_finds Q x1 σ) : Met l yX6_finds wsX6_finds ({ frames := 4, cells := 0, slots := 0, locals := 97 } : Room) (va_Pc [.ref (g.2.1 0), .int x1] (fun U => mIn g σ U.heap U)) (va_Qi Q (fun σ1 t => mIn g σ1 t.heap t) (mA g)) 0 0 (mA g) := by
  refine gOfZ (maxL := 5) (mMv g) (by decide) rfl (Nat.le_of_ble_eq_true rfl) ?_
  intro p e s m args below meth c QQ hx hb hml hown hts hret ls hl hI
  have hl : lv_has ls 5 [(0, .ref (g.2.1 0)), (1, .int x1)] := hl
  have hS : va_S (mA g) s.heap s.heap [] := va_S.rf
  have hF : ∀ w ∈ wsX60, w.before args s = true := fun w h => hts w (List.mem_cons_of_mem _ (List.mem_append_right _ h))
  refine lv_aload_n hx hb dX6_finds_0 rfl (lv_at hl 0 rfl) ?_
  refine lv_iload_n hx hb dX6_finds_1 rfl (lv_at hl 1 rfl) ?_
  refine lv_iconst (v := 0) hx hb dX6_finds_2 (by decide) ?_
  refine gVi (cm_X6_hasRow l g (σ := σ) hw) (mMv g) ⟨hx, hb, hml, hown, hts⟩ (cwV 2 hts gX6_finds_X6_hasRow rfl rfl rfl (by decide +kernel) ⟨Nat.le_of_ble_eq_true rfl, Nat.le_of_ble_eq_true rfl⟩) (mRecv_X6 hI) hI hS hl.1 rfl rfl (Nat.le_of_ble_eq_true rfl) dX6_finds_3 (fun r1 σ2 H locs hw hI hS => ?_)
  refine lv_if_ne (tgt := 11) hx hb dX6_finds_6 (by decide) (fun hc => ?_) (fun hc => ?_)
  · have hw := hw.1 hc
    refine lv_iload_n hx hb dX6_finds_11 rfl (lv_at hl 1 rfl) ?_
    refine lv_istore_n (lv' := [(2, .int x1), (0, .ref (g.2.1 0)), (1, .int x1)]) hx hb dX6_finds_12 rfl hl (by decide) rfl (fun ls hl => ?_)
    refine lv_iconst (v := 0) hx hb dX6_finds_13 (by decide) ?_
    refine lv_istore_n (lv' := [(3, .int 0), (2, .int x1), (0, .ref (g.2.1 0)), (1, .int x1)]) hx hb dX6_finds_14 rfl hl (by decide) rfl (fun ls hl => ?_)
    refine lv_aload_n hx hb dX6_finds_15 rfl (lv_at hl 2 rfl) ?_
    refine lv_iconst (v := 0) hx hb dX6_finds_16 (by decide) ?_
    refine mP_X6_rowMany hx hb hF hown hI hS (hts _ (List.mem_of_getElem? (i := 1) rfl : (Cond.fieldLink RX6 222 "PlateRoomModel" "rowMany" "I" : Cond) ∈ wsX6_finds)) dX6_finds_17 (fun σ3 eσ3 H locs hI hS => ?_)
    have hw := hw σ3 eσ3
    obtain ⟨n20, hw⟩ := hw
    have key20 : ∀ (n : Nat) (x2 : Int32) (x3 : Int32) (σ : wS) (H : Heap) (locs : List Loc) (ls : Array Slot), mIn g σ H s → va_S (mA g) s.heap H locs → lv_has ls 5 [(0, .ref (g.2.1 0)), (2, .int x2), (3, .int x3)] → wloop (wm_X6_finds_L20 Q) n (x2, x3, σ) → W p l e ({ frames := 4, cells := 0, slots := 0, locals := 97 } : Room) s m args below meth c H locs 0 0 QQ (F0 m 20 ls []) := by
      intro n
      induction n with
      | zero => intro x2 x3 σ H locs ls hI hS hl hw; exact False.elim hw
      | succ n ih =>
        intro x2 x3 σ H locs ls hI hS hl hw
        obtain ⟨K20, hK20⟩ : ∃ K, K = wloop (wm_X6_finds_L20 Q) n := ⟨_, rfl⟩
        have hw : wm_X6_finds_L20 Q K20 (x2, x3, σ) := by rw [hK20]; exact hw
        dsimp only [wm_X6_finds_L20] at hw
        have ih20 := ih
        refine lv_iload_n hx hb dX6_finds_20 rfl (lv_at hl 1 rfl) ?_
        refine lv_if_eq (tgt := 84) hx hb dX6_finds_21 (by decide) (fun hc => ?_) (fun hc => ?_)
        · have hw := hw.1 hc
          refine lv_iconst (v := 1) hx hb dX6_finds_84 (by decide) ?_
          exact hret _ _ _ _ _ _ dX6_finds_85 isB1 hw hI hS
        have hw := hw.2 hc
        refine lv_iconst (v := 0) hx hb dX6_finds_24 (by decide) ?_
        refine lv_istore (lv' := [(4, .int 0), (0, .ref (g.2.1 0)), (2, .int x2), (3, .int x3)]) hx hb dX6_finds_25 hl (by decide) rfl (fun ls hl => ?_)
        obtain ⟨n27, hw⟩ := hw
        have key27 : ∀ (n : Nat) (x2 : Int32) (x3 : Int32) (x4 : Int32) (σ : wS) (H : Heap) (locs : List Loc) (ls : Array Slot), mIn g σ H s → va_S (mA g) s.heap H locs → lv_has ls 5 [(0, .ref (g.2.1 0)), (2, .int x2), (3, .int x3), (4, .int x4)] → wloop (wm_X6_finds_L27 Q K20 x2 x3) n (x4, σ) → W p l e ({ frames := 4, cells := 0, slots := 0, locals := 97 } : Room) s m args below meth c H locs 0 0 QQ (F0 m 27 ls []) := by
          intro n
          induction n with
          | zero => intro x2 x3 x4 σ H locs ls hI hS hl hw; exact False.elim hw
          | succ n ih =>
            intro x2 x3 x4 σ H locs ls hI hS hl hw
            obtain ⟨K27, hK27⟩ : ∃ K, K = wloop (wm_X6_finds_L27 Q K20 x2 x3) n := ⟨_, rfl⟩
            have hw : wm_X6_finds_L27 Q K20 x2 x3 K27 (x4, σ) := by rw [hK27]; exact hw
            dsimp only [wm_X6_finds_L27] at hw
            have ih27 := ih
            refine lv_aload_n hx hb dX6_finds_27 rfl (lv_at hl 0 rfl) ?_
            refine lv_iload_n hx hb dX6_finds_28 rfl (lv_at hl 1 rfl) ?_
            refine lv_iload_n hx hb dX6_finds_29 rfl (lv_at hl 2 rfl) ?_
            refine lv_iload hx hb dX6_finds_30 (lv_at hl 3 rfl) ?_
            refine gVi (cm_X6_isNext l g (σ := σ) hw) (mMv g) ⟨hx, hb, hml, hown, hts⟩ (cwV 3 hts gX6_finds_X6_isNext rfl rfl rfl (by decide +kernel) ⟨Nat.le_of_ble_eq_true rfl, Nat.le_of_ble_eq_true rfl⟩) (mRecv_X6 hI) hI hS hl.1 rfl rfl (Nat.le_of_ble_eq_true rfl) dX6_finds_32 (fun r1 σ2 H locs hw hI hS => ?_)
            refine lv_if_ne (tgt := 44) hx hb dX6_finds_35 (by decide) (fun hc => ?_) (fun hc => ?_)
            · have hw := hw.1 hc
              refine lv_aload_n hx hb dX6_finds_44 rfl (lv_at hl 0 rfl) ?_
              refine mG_X6_row hx hb hF hown hI (hts _ (List.mem_of_getElem? (i := 2) rfl : (Cond.fieldLink RX6 56 "PlateRoomModel" "row" "[I" : Cond) ∈ wsX6_finds)) dX6_finds_45 ?_
              refine lv_aload_n hx hb dX6_finds_48 rfl (lv_at hl 0 rfl) ?_
              refine mG_X6_rowMany hx hb hF hown hI (hts _ (List.mem_of_getElem? (i := 1) rfl : (Cond.fieldLink RX6 222 "PlateRoomModel" "rowMany" "I" : Cond) ∈ wsX6_finds)) dX6_finds_49 ?_
              refine lv_iload hx hb dX6_finds_52 (lv_at hl 3 rfl) ?_
              have hin := hw.1
              have hw := hw.2
              refine mS_X6_row hx hb hI hS hin dX6_finds_54 (fun σ3 eσ3 H locs hI hS => ?_)
              have hw := hw σ3 eσ3
              refine lv_aload_n hx hb dX6_finds_55 rfl (lv_at hl 0 rfl) ?_
              refine lv_dup hx hb dX6_finds_56 rfl ?_
              refine mG_X6_rowMany hx hb hF hown hI (hts _ (List.mem_of_getElem? (i := 1) rfl : (Cond.fieldLink RX6 222 "PlateRoomModel" "rowMany" "I" : Cond) ∈ wsX6_finds)) dX6_finds_57 ?_
              refine lv_iconst (v := 1) hx hb dX6_finds_60 (by decide) ?_
              refine lv_iadd hx hb dX6_finds_61 ?_
              refine mP_X6_rowMany hx hb hF hown hI hS (hts _ (List.mem_of_getElem? (i := 1) rfl : (Cond.fieldLink RX6 222 "PlateRoomModel" "rowMany" "I" : Cond) ∈ wsX6_finds)) dX6_finds_62 (fun σ4 eσ4 H locs hI hS => ?_)
              have hw := hw σ4 eσ4
              refine lv_iload_n hx hb dX6_finds_65 rfl (lv_at hl 1 rfl) ?_
              refine lv_iconst (v := 1) hx hb dX6_finds_66 (by decide) ?_
              refine lv_iload hx hb dX6_finds_67 (lv_at hl 3 rfl) ?_
              refine lv_ishl hx hb dX6_finds_69 ?_
              refine lv_iconst (v := (-1)) hx hb dX6_finds_70 (by decide) ?_
              refine lv_ixor hx hb dX6_finds_71 ?_
              refine lv_iand hx hb dX6_finds_72 ?_
              refine lv_topi (fun a5 ea5 => ?_)
              have hw := hw a5 ea5
              refine lv_istore_n (lv' := [(2, .int a5), (0, .ref (g.2.1 0)), (3, .int x3), (4, .int x4)]) hx hb dX6_finds_73 rfl hl (by decide) rfl (fun ls hl => ?_)
              refine lv_aload_n hx hb dX6_finds_74 rfl (lv_at hl 1 rfl) ?_
              refine lv_iload hx hb dX6_finds_75 (lv_at hl 3 rfl) ?_
              refine gVi (cm_X6_rightOf l g (σ := σ4) hw) (mMv g) ⟨hx, hb, hml, hown, hts⟩ (cwV 1 hts gX6_finds_X6_rightOf rfl rfl rfl (by decide +kernel) ⟨Nat.le_of_ble_eq_true rfl, Nat.le_of_ble_eq_true rfl⟩) (mRecv_X6 hI) hI hS hl.1 rfl rfl (Nat.le_of_ble_eq_true rfl) dX6_finds_77 (fun r6 σ7 H locs hw hI hS => ?_)
              obtain ⟨hw, hq⟩ := hw
              rw [hq] at hI
              refine lv_istore_n (lv' := [(3, .int r6), (2, .int a5), (0, .ref (g.2.1 0)), (4, .int x4)]) hx hb dX6_finds_80 rfl hl (by decide) rfl (fun ls hl => ?_)
              refine lv_goto (tgt := 20) hx hb dX6_finds_81 (by decide) ?_
              rw [hK20] at hw
              exact ih20 _ _ _ _ _ _ hI hS (lv_sub hl [2, 1, 0] rfl) hw
            have hw := hw.2 hc
            obtain ⟨a8, ea8⟩ : ∃ y : Int32, y = x4 + 1 := ⟨_, rfl⟩
            have hw := hw a8 ea8
            refine lv_iinc (v := a8) (lv' := [(4, .int a8), (0, .ref (g.2.1 0)), (2, .int x2), (3, .int x3)]) hx hb dX6_finds_38 hl (k := 3) rfl (by rw [ea8]; rfl) (by decide) rfl (fun ls hl => ?_)
            refine lv_goto (tgt := 27) hx hb dX6_finds_41 (by decide) ?_
            rw [hK27] at hw
            exact ih27 _ _ _ _ _ _ _ hI hS (lv_sub hl [1, 2, 3, 0] rfl) hw
        exact key27 n27 _ _ _ _ _ _ _ hI hS (lv_sub hl [1, 2, 3, 0] rfl) hw
    exact key20 n20 _ _ _ _ _ _ hI hS (lv_sub hl [2, 1, 0] rfl) hw
  have hw := hw.2 hc
  refine lv_iconst (v := 0) hx hb dX6_finds_9 (by decide) ?_
  exact hret _ _ _ _ _ _ dX6_finds_10 isB0 hw hI hS
set_option maxRecDepth 100000 in
set_option maxHeartbeats 4000000 in
theorem cm_X6_row (l : Launch) (g : wG) {σ : wS} {x1 : Int32} {Q : Int32 → wS → Prop} (hw : wm_X6_row Q x1 σ) : Met l yX6_row wsX6_row ({ frames := 5, cells := 0, slots := 0, locals := 121 } : Room) (va_Pc [.ref (g.2.1 0), .int x1] (fun U => mIn g σ U.heap U)) (va_Qi Q (fun σ1 t => mIn g σ1 t.heap t) (mA g)) 0 0 (mA g) := by
  refine gOfI (maxL := 3) (mMv g) (by decide) rfl (Nat.le_of_ble_eq_true rfl) ?_
  intro p e s m args below meth c QQ hx hb hml hown hts hret ls hl hI
  have hl : lv_has ls 3 [(0, .ref (g.2.1 0)), (1, .int x1)] := hl
  have hS : va_S (mA g) s.heap s.heap [] := va_S.rf
  have hF : ∀ w ∈ wsX60, w.before args s = true := fun w h => hts w (List.mem_cons_of_mem _ (List.mem_append_right _ h))
  refine lv_aload_n hx hb dX6_row_0 rfl (lv_at hl 0 rfl) ?_
  refine lv_iconst (v := 0) hx hb dX6_row_1 (by decide) ?_
  refine mP_X6_thrown hx hb hF hown hI hS (hts _ (List.mem_of_getElem? (i := 1) rfl : (Cond.fieldLink RX6 101 "PlateRoomModel" "thrown" "I" : Cond) ∈ wsX6_row)) dX6_row_2 (fun σ1 eσ1 H locs hI hS => ?_)
  have hw := hw σ1 eσ1
  refine lv_aload_n hx hb dX6_row_5 rfl (lv_at hl 0 rfl) ?_
  refine lv_iconst (v := 0) hx hb dX6_row_6 (by decide) ?_
  refine mP_X6_status hx hb hF hown hI hS (hts _ (List.mem_of_getElem? (i := 2) rfl : (Cond.fieldLink RX6 105 "PlateRoomModel" "status" "I" : Cond) ∈ wsX6_row)) dX6_row_7 (fun σ2 eσ2 H locs hI hS => ?_)
  have hw := hw σ2 eσ2
  refine lv_aload_n hx hb dX6_row_10 rfl (lv_at hl 0 rfl) ?_
  refine lv_iload_n hx hb dX6_row_11 rfl (lv_at hl 1 rfl) ?_
  refine gVi (cm_X6_isSet l g (σ := σ2) hw) (mMv g) ⟨hx, hb, hml, hown, hts⟩ (cwV 1 hts gX6_row_X6_isSet rfl rfl rfl (by decide +kernel) ⟨Nat.le_of_ble_eq_true rfl, Nat.le_of_ble_eq_true rfl⟩) (mRecv_X6 hI) hI hS hl.1 rfl rfl (Nat.le_of_ble_eq_true rfl) dX6_row_12 (fun r3 σ4 H locs hw hI hS => ?_)
  obtain ⟨hw, hq⟩ := hw
  rw [hq] at hI
  refine lv_if_eq (tgt := 22) hx hb dX6_row_15 (by decide) (fun hc => ?_) (fun hc => ?_)
  · have hw := hw.1 hc
    refine lv_aload_n hx hb dX6_row_22 rfl (lv_at hl 0 rfl) ?_
    refine lv_iconst (v := 2) hx hb dX6_row_23 (by decide) ?_
    refine gVi (cm_X6_refuse l g (σ := σ2) hw) (mMv g) ⟨hx, hb, hml, hown, hts⟩ (cwV 1 hts gX6_row_X6_refuse rfl rfl rfl (by decide +kernel) ⟨Nat.le_of_ble_eq_true rfl, Nat.le_of_ble_eq_true rfl⟩) (mRecv_X6 hI) hI hS hl.1 rfl rfl (Nat.le_of_ble_eq_true rfl) dX6_row_24 (fun r5 σ6 H locs hw hI hS => ?_)
    exact hret _ _ _ _ _ _ dX6_row_27 hw hI hS
  have hw := hw.2 hc
  refine lv_iload_n hx hb dX6_row_18 rfl (lv_at hl 1 rfl) ?_
  refine lv_if_ne (tgt := 28) hx hb dX6_row_19 (by decide) (fun hc => ?_) (fun hc => ?_)
  · have hw := hw.1 hc
    refine lv_aload_n hx hb dX6_row_28 rfl (lv_at hl 0 rfl) ?_
    refine lv_iload_n hx hb dX6_row_29 rfl (lv_at hl 1 rfl) ?_
    refine gVi (cm_X6_finds l g (σ := σ2) hw) (mMv g) ⟨hx, hb, hml, hown, hts⟩ (cwV 1 hts gX6_row_X6_finds rfl rfl rfl (by decide +kernel) ⟨Nat.le_of_ble_eq_true rfl, Nat.le_of_ble_eq_true rfl⟩) (mRecv_X6 hI) hI hS hl.1 rfl rfl (Nat.le_of_ble_eq_true rfl) dX6_row_30 (fun r7 σ8 H locs hw hI hS => ?_)
    refine lv_if_ne (tgt := 43) hx hb dX6_row_33 (by decide) (fun hc => ?_) (fun hc => ?_)
    · have hw := hw.1 hc
      refine lv_aload_n hx hb dX6_row_43 rfl (lv_at hl 0 rfl) ?_
      refine lv_aload_n hx hb dX6_row_44 rfl (lv_at hl 0 rfl) ?_
      refine mG_X6_rowMany hx hb hF hown hI (hts _ (List.mem_of_getElem? (i := 3) rfl : (Cond.fieldLink RX6 222 "PlateRoomModel" "rowMany" "I" : Cond) ∈ wsX6_row)) dX6_row_45 ?_
      refine mP_X6_outs hx hb hF hown hI hS (hts _ (List.mem_of_getElem? (i := 4) rfl : (Cond.fieldLink RX6 235 "PlateRoomModel" "outs" "I" : Cond) ∈ wsX6_row)) dX6_row_48 (fun σ9 eσ9 H locs hI hS => ?_)
      have hw := hw σ9 eσ9
      refine lv_iconst (v := 0) hx hb dX6_row_51 (by decide) ?_
      refine lv_istore_n (lv' := [(2, .int 0), (0, .ref (g.2.1 0)), (1, .int x1)]) hx hb dX6_row_52 rfl hl (by decide) rfl (fun ls hl => ?_)
      obtain ⟨n53, hw⟩ := hw
      have key53 : ∀ (n : Nat) (x2 : Int32) (σ : wS) (H : Heap) (locs : List Loc) (ls : Array Slot), mIn g σ H s → va_S (mA g) s.heap H locs → lv_has ls 3 [(0, .ref (g.2.1 0)), (2, .int x2)] → wloop (wm_X6_row_L53 Q) n (x2, σ) → W p l e ({ frames := 5, cells := 0, slots := 0, locals := 121 } : Room) s m args below meth c H locs 0 0 QQ (F0 m 53 ls []) := by
        intro n
        induction n with
        | zero => intro x2 σ H locs ls hI hS hl hw; exact False.elim hw
        | succ n ih =>
          intro x2 σ H locs ls hI hS hl hw
          obtain ⟨K53, hK53⟩ : ∃ K, K = wloop (wm_X6_row_L53 Q) n := ⟨_, rfl⟩
          have hw : wm_X6_row_L53 Q K53 (x2, σ) := by rw [hK53]; exact hw
          dsimp only [wm_X6_row_L53] at hw
          have ih53 := ih
          refine lv_iload_n hx hb dX6_row_53 rfl (lv_at hl 1 rfl) ?_
          refine lv_aload_n hx hb dX6_row_54 rfl (lv_at hl 0 rfl) ?_
          refine mG_X6_rowMany hx hb hF hown hI (hts _ (List.mem_of_getElem? (i := 3) rfl : (Cond.fieldLink RX6 222 "PlateRoomModel" "rowMany" "I" : Cond) ∈ wsX6_row)) dX6_row_55 ?_
          refine lv_icmp_ge (tgt := 79) hx hb dX6_row_58 (by decide) (fun hc => ?_) (fun hc => ?_)
          · have hw := hw.1 hc
            refine lv_aload_n hx hb dX6_row_79 rfl (lv_at hl 0 rfl) ?_
            refine mG_X6_outs hx hb hF hown hI (hts _ (List.mem_of_getElem? (i := 4) rfl : (Cond.fieldLink RX6 235 "PlateRoomModel" "outs" "I" : Cond) ∈ wsX6_row)) dX6_row_80 ?_
            exact hret _ _ _ _ _ _ dX6_row_83 hw hI hS
          have hw := hw.2 hc
          refine lv_aload_n hx hb dX6_row_61 rfl (lv_at hl 0 rfl) ?_
          refine mG_X6_out hx hb hF hown hI (hts _ (List.mem_of_getElem? (i := 5) rfl : (Cond.fieldLink RX6 53 "PlateRoomModel" "out" "[I" : Cond) ∈ wsX6_row)) dX6_row_62 ?_
          refine lv_iload_n hx hb dX6_row_65 rfl (lv_at hl 1 rfl) ?_
          refine lv_aload_n hx hb dX6_row_66 rfl (lv_at hl 0 rfl) ?_
          refine mG_X6_row hx hb hF hown hI (hts _ (List.mem_of_getElem? (i := 6) rfl : (Cond.fieldLink RX6 56 "PlateRoomModel" "row" "[I" : Cond) ∈ wsX6_row)) dX6_row_67 ?_
          refine lv_iload_n hx hb dX6_row_70 rfl (lv_at hl 1 rfl) ?_
          have hin := hw.1
          have hw := hw.2
          refine mR_X6_row hx hb hI hin dX6_row_71 ?_
          have hin := hw.1
          have hw := hw.2
          refine mS_X6_out hx hb hI hS hin dX6_row_72 (fun σ1 eσ1 H locs hI hS => ?_)
          have hw := hw σ1 eσ1
          obtain ⟨a2, ea2⟩ : ∃ y : Int32, y = x2 + 1 := ⟨_, rfl⟩
          have hw := hw a2 ea2
          refine lv_iinc (v := a2) (lv' := [(2, .int a2), (0, .ref (g.2.1 0))]) hx hb dX6_row_73 hl (k := 1) rfl (by rw [ea2]; rfl) (by decide) rfl (fun ls hl => ?_)
          refine lv_goto (tgt := 53) hx hb dX6_row_76 (by decide) ?_
          rw [hK53] at hw
          exact ih53 _ _ _ _ _ hI hS (lv_sub hl [1, 0] rfl) hw
      exact key53 n53 _ _ _ _ _ hI hS (lv_sub hl [1, 0] rfl) hw
    have hw := hw.2 hc
    refine lv_aload_n hx hb dX6_row_36 rfl (lv_at hl 0 rfl) ?_
    refine lv_bipush (v := 7) hx hb dX6_row_37 (by decide) ?_
    refine gVi (cm_X6_refuse l g (σ := σ8) hw) (mMv g) ⟨hx, hb, hml, hown, hts⟩ (cwV 1 hts gX6_row_X6_refuse rfl rfl rfl (by decide +kernel) ⟨Nat.le_of_ble_eq_true rfl, Nat.le_of_ble_eq_true rfl⟩) (mRecv_X6 hI) hI hS hl.1 rfl rfl (Nat.le_of_ble_eq_true rfl) dX6_row_39 (fun r10 σ11 H locs hw hI hS => ?_)
    exact hret _ _ _ _ _ _ dX6_row_42 hw hI hS
  have hw := hw.2 hc
  refine lv_aload_n hx hb dX6_row_22 rfl (lv_at hl 0 rfl) ?_
  refine lv_iconst (v := 2) hx hb dX6_row_23 (by decide) ?_
  refine gVi (cm_X6_refuse l g (σ := σ2) hw) (mMv g) ⟨hx, hb, hml, hown, hts⟩ (cwV 1 hts gX6_row_X6_refuse rfl rfl rfl (by decide +kernel) ⟨Nat.le_of_ble_eq_true rfl, Nat.le_of_ble_eq_true rfl⟩) (mRecv_X6 hI) hI hS hl.1 rfl rfl (Nat.le_of_ble_eq_true rfl) dX6_row_24 (fun r12 σ13 H locs hw hI hS => ?_)
  exact hret _ _ _ _ _ _ dX6_row_27 hw hI hS
set_option maxRecDepth 100000 in
set_option maxHeartbeats 4000000 in
theorem cm_X6_ring (l : Launch) (g : wG) {σ : wS} {x1 : Int32} {Q : Int32 → wS → Prop} (hw : wm_X6_ring Q x1 σ) : Met l yX6_ring wsX6_ring ({ frames := 5, cells := 0, slots := 0, locals := 121 } : Room) (va_Pc [.ref (g.2.1 0), .int x1] (fun U => mIn g σ U.heap U)) (va_Qi Q (fun σ1 t => mIn g σ1 t.heap t) (mA g)) 0 0 (mA g) := by
  refine gOfI (maxL := 2) (mMv g) (by decide) rfl (Nat.le_of_ble_eq_true rfl) ?_
  intro p e s m args below meth c QQ hx hb hml hown hts hret ls hl hI
  have hl : lv_has ls 2 [(0, .ref (g.2.1 0)), (1, .int x1)] := hl
  have hS : va_S (mA g) s.heap s.heap [] := va_S.rf
  have hF : ∀ w ∈ wsX60, w.before args s = true := fun w h => hts w (List.mem_cons_of_mem _ (List.mem_append_right _ h))
  refine lv_aload_n hx hb dX6_ring_0 rfl (lv_at hl 0 rfl) ?_
  refine lv_iconst (v := 0) hx hb dX6_ring_1 (by decide) ?_
  refine mP_X6_thrown hx hb hF hown hI hS (hts _ (List.mem_of_getElem? (i := 1) rfl : (Cond.fieldLink RX6 101 "PlateRoomModel" "thrown" "I" : Cond) ∈ wsX6_ring)) dX6_ring_2 (fun σ1 eσ1 H locs hI hS => ?_)
  have hw := hw σ1 eσ1
  refine lv_aload_n hx hb dX6_ring_5 rfl (lv_at hl 0 rfl) ?_
  refine lv_iconst (v := 0) hx hb dX6_ring_6 (by decide) ?_
  refine mP_X6_status hx hb hF hown hI hS (hts _ (List.mem_of_getElem? (i := 2) rfl : (Cond.fieldLink RX6 105 "PlateRoomModel" "status" "I" : Cond) ∈ wsX6_ring)) dX6_ring_7 (fun σ2 eσ2 H locs hI hS => ?_)
  have hw := hw σ2 eσ2
  refine lv_aload_n hx hb dX6_ring_10 rfl (lv_at hl 0 rfl) ?_
  refine lv_iload_n hx hb dX6_ring_11 rfl (lv_at hl 1 rfl) ?_
  refine gVi (cm_X6_isSet l g (σ := σ2) hw) (mMv g) ⟨hx, hb, hml, hown, hts⟩ (cwV 1 hts gX6_ring_X6_isSet rfl rfl rfl (by decide +kernel) ⟨Nat.le_of_ble_eq_true rfl, Nat.le_of_ble_eq_true rfl⟩) (mRecv_X6 hI) hI hS hl.1 rfl rfl (Nat.le_of_ble_eq_true rfl) dX6_ring_12 (fun r3 σ4 H locs hw hI hS => ?_)
  obtain ⟨hw, hq⟩ := hw
  rw [hq] at hI
  refine lv_if_eq (tgt := 22) hx hb dX6_ring_15 (by decide) (fun hc => ?_) (fun hc => ?_)
  · have hw := hw.1 hc
    refine lv_aload_n hx hb dX6_ring_22 rfl (lv_at hl 0 rfl) ?_
    refine lv_iconst (v := 2) hx hb dX6_ring_23 (by decide) ?_
    refine gVi (cm_X6_refuse l g (σ := σ2) hw) (mMv g) ⟨hx, hb, hml, hown, hts⟩ (cwV 1 hts gX6_ring_X6_refuse rfl rfl rfl (by decide +kernel) ⟨Nat.le_of_ble_eq_true rfl, Nat.le_of_ble_eq_true rfl⟩) (mRecv_X6 hI) hI hS hl.1 rfl rfl (Nat.le_of_ble_eq_true rfl) dX6_ring_24 (fun r5 σ6 H locs hw hI hS => ?_)
    exact hret _ _ _ _ _ _ dX6_ring_27 hw hI hS
  have hw := hw.2 hc
  refine lv_iload_n hx hb dX6_ring_18 rfl (lv_at hl 1 rfl) ?_
  refine lv_if_ne (tgt := 28) hx hb dX6_ring_19 (by decide) (fun hc => ?_) (fun hc => ?_)
  · have hw := hw.1 hc
    refine lv_aload_n hx hb dX6_ring_28 rfl (lv_at hl 0 rfl) ?_
    refine lv_iload_n hx hb dX6_ring_29 rfl (lv_at hl 1 rfl) ?_
    refine gVi (cm_X6_finds l g (σ := σ2) hw) (mMv g) ⟨hx, hb, hml, hown, hts⟩ (cwV 1 hts gX6_ring_X6_finds rfl rfl rfl (by decide +kernel) ⟨Nat.le_of_ble_eq_true rfl, Nat.le_of_ble_eq_true rfl⟩) (mRecv_X6 hI) hI hS hl.1 rfl rfl (Nat.le_of_ble_eq_true rfl) dX6_ring_30 (fun r7 σ8 H locs hw hI hS => ?_)
    refine lv_if_ne (tgt := 43) hx hb dX6_ring_33 (by decide) (fun hc => ?_) (fun hc => ?_)
    · have hw := hw.1 hc
      refine lv_aload_n hx hb dX6_ring_43 rfl (lv_at hl 0 rfl) ?_
      refine lv_aload_n hx hb dX6_ring_44 rfl (lv_at hl 0 rfl) ?_
      refine mG_X6_row hx hb hF hown hI (hts _ (List.mem_of_getElem? (i := 3) rfl : (Cond.fieldLink RX6 56 "PlateRoomModel" "row" "[I" : Cond) ∈ wsX6_ring)) dX6_ring_45 ?_
      refine lv_aload_n hx hb dX6_ring_48 rfl (lv_at hl 0 rfl) ?_
      refine mG_X6_rowMany hx hb hF hown hI (hts _ (List.mem_of_getElem? (i := 4) rfl : (Cond.fieldLink RX6 222 "PlateRoomModel" "rowMany" "I" : Cond) ∈ wsX6_ring)) dX6_ring_49 ?_
      refine lv_iconst (v := 1) hx hb dX6_ring_52 (by decide) ?_
      refine lv_isub hx hb dX6_ring_53 ?_
      have hin := hw.1
      have hw := hw.2
      refine mR_X6_row hx hb hI hin dX6_ring_54 ?_
      refine gVi (cm_X6_rightOf l g (σ := σ8) hw) (mMv g) ⟨hx, hb, hml, hown, hts⟩ (cwV 1 hts gX6_ring_X6_rightOf rfl rfl rfl (by decide +kernel) ⟨Nat.le_of_ble_eq_true rfl, Nat.le_of_ble_eq_true rfl⟩) (mRecv_X6 hI) hI hS hl.1 rfl rfl (Nat.le_of_ble_eq_true rfl) dX6_ring_55 (fun r9 σ10 H locs hw hI hS => ?_)
      obtain ⟨hw, hq⟩ := hw
      rw [hq] at hI
      refine lv_aload_n hx hb dX6_ring_58 rfl (lv_at hl 0 rfl) ?_
      refine lv_aload_n hx hb dX6_ring_59 rfl (lv_at hl 0 rfl) ?_
      refine mG_X6_row hx hb hF hown hI (hts _ (List.mem_of_getElem? (i := 3) rfl : (Cond.fieldLink RX6 56 "PlateRoomModel" "row" "[I" : Cond) ∈ wsX6_ring)) dX6_ring_60 ?_
      refine lv_iconst (v := 0) hx hb dX6_ring_63 (by decide) ?_
      have hin := hw.1
      have hw := hw.2
      refine mR_X6_row hx hb hI hin dX6_ring_64 ?_
      refine gVi (cm_X6_leftOf l g (σ := σ8) hw) (mMv g) ⟨hx, hb, hml, hown, hts⟩ (cwV 1 hts gX6_ring_X6_leftOf rfl rfl rfl (by decide +kernel) ⟨Nat.le_of_ble_eq_true rfl, Nat.le_of_ble_eq_true rfl⟩) (mRecv_X6 hI) hI hS hl.1 rfl rfl (Nat.le_of_ble_eq_true rfl) dX6_ring_65 (fun r11 σ12 H locs hw hI hS => ?_)
      obtain ⟨hw, hq⟩ := hw
      rw [hq] at hI
      refine lv_icmp_ne (tgt := 75) hx hb dX6_ring_68 (by decide) (fun hc => ?_) (fun hc => ?_)
      · have hw := hw.1 hc
        refine lv_iconst (v := 0) hx hb dX6_ring_75 (by decide) ?_
        exact hret _ _ _ _ _ _ dX6_ring_76 hw hI hS
      have hw := hw.2 hc
      refine lv_iconst (v := 1) hx hb dX6_ring_71 (by decide) ?_
      refine lv_goto (tgt := 76) hx hb dX6_ring_72 (by decide) ?_
      exact hret _ _ _ _ _ _ dX6_ring_76 hw hI hS
    have hw := hw.2 hc
    refine lv_aload_n hx hb dX6_ring_36 rfl (lv_at hl 0 rfl) ?_
    refine lv_bipush (v := 7) hx hb dX6_ring_37 (by decide) ?_
    refine gVi (cm_X6_refuse l g (σ := σ8) hw) (mMv g) ⟨hx, hb, hml, hown, hts⟩ (cwV 1 hts gX6_ring_X6_refuse rfl rfl rfl (by decide +kernel) ⟨Nat.le_of_ble_eq_true rfl, Nat.le_of_ble_eq_true rfl⟩) (mRecv_X6 hI) hI hS hl.1 rfl rfl (Nat.le_of_ble_eq_true rfl) dX6_ring_39 (fun r13 σ14 H locs hw hI hS => ?_)
    exact hret _ _ _ _ _ _ dX6_ring_42 hw hI hS
  have hw := hw.2 hc
  refine lv_aload_n hx hb dX6_ring_22 rfl (lv_at hl 0 rfl) ?_
  refine lv_iconst (v := 2) hx hb dX6_ring_23 (by decide) ?_
  refine gVi (cm_X6_refuse l g (σ := σ2) hw) (mMv g) ⟨hx, hb, hml, hown, hts⟩ (cwV 1 hts gX6_ring_X6_refuse rfl rfl rfl (by decide +kernel) ⟨Nat.le_of_ble_eq_true rfl, Nat.le_of_ble_eq_true rfl⟩) (mRecv_X6 hI) hI hS hl.1 rfl rfl (Nat.le_of_ble_eq_true rfl) dX6_ring_24 (fun r15 σ16 H locs hw hI hS => ?_)
  exact hret _ _ _ _ _ _ dX6_ring_27 hw hI hS
set_option maxRecDepth 100000 in
set_option maxHeartbeats 4000000 in
theorem cm_X6_isEdge (l : Launch) (g : wG) {σ : wS} {x1 : Int32} {x2 : Int32} {Q : Int32 → Prop} (hw : wm_X6_isEdge Q x1 x2 σ) : Met l yX6_isEdge wsX6_isEdge ({ frames := 1, cells := 0, slots := 0, locals := 21 } : Room) (va_Pc [.ref (g.2.1 0), .int x1, .int x2] (fun U => mIn g σ U.heap U)) (va_Qi (fun r σ1 => Q r ∧ σ1 = σ) (fun σ1 t => mIn g σ1 t.heap t) (mA g)) 0 0 (mA g) := by
  refine gOfZ (maxL := 4) (mMv g) (by decide) rfl (Nat.le_of_ble_eq_true rfl) ?_
  intro p e s m args below meth c QQ hx hb hml hown hts hret ls hl hI
  have hl : lv_has ls 4 [(0, .ref (g.2.1 0)), (1, .int x1), (2, .int x2)] := hl
  have hS : va_S (mA g) s.heap s.heap [] := va_S.rf
  have hF : ∀ w ∈ wsX60, w.before args s = true := fun w h => hts w (List.mem_cons_of_mem _ (List.mem_append_right _ h))
  refine lv_iconst (v := 0) hx hb dX6_isEdge_0 (by decide) ?_
  refine lv_istore_n (lv' := [(3, .int 0), (0, .ref (g.2.1 0)), (1, .int x1), (2, .int x2)]) hx hb dX6_isEdge_1 rfl hl (by decide) rfl (fun ls hl => ?_)
  obtain ⟨n2, hw⟩ := hw
  have key2 : ∀ (n : Nat) (x1 : Int32) (x2 : Int32) (x3 : Int32) (H : Heap) (locs : List Loc) (ls : Array Slot), mIn g σ H s → va_S (mA g) s.heap H locs → lv_has ls 4 [(0, .ref (g.2.1 0)), (1, .int x1), (2, .int x2), (3, .int x3)] → wloop (wm_X6_isEdge_L2 Q x1 x2 σ) n x3 → W p l e ({ frames := 1, cells := 0, slots := 0, locals := 21 } : Room) s m args below meth c H locs 0 0 QQ (F0 m 2 ls []) := by
    intro n
    induction n with
    | zero => intro x1 x2 x3  H locs ls hI hS hl hw; exact False.elim hw
    | succ n ih =>
      intro x1 x2 x3  H locs ls hI hS hl hw
      obtain ⟨K2, hK2⟩ : ∃ K, K = wloop (wm_X6_isEdge_L2 Q x1 x2 σ) n := ⟨_, rfl⟩
      have hw : wm_X6_isEdge_L2 Q x1 x2 σ K2 x3 := by rw [hK2]; exact hw
      dsimp only [wm_X6_isEdge_L2] at hw
      have ih2 := ih
      refine lv_iload_n hx hb dX6_isEdge_2 rfl (lv_at hl 3 rfl) ?_
      refine lv_aload_n hx hb dX6_isEdge_3 rfl (lv_at hl 0 rfl) ?_
      refine mG_X6_plates hx hb hF hown hI (hts _ (List.mem_of_getElem? (i := 1) rfl : (Cond.fieldLink RX6 108 "PlateRoomModel" "plates" "I" : Cond) ∈ wsX6_isEdge)) dX6_isEdge_4 ?_
      refine lv_icmp_ge (tgt := 45) hx hb dX6_isEdge_7 (by decide) (fun hc => ?_) (fun hc => ?_)
      · have hw := hw.1 hc
        refine lv_iconst (v := 0) hx hb dX6_isEdge_45 (by decide) ?_
        exact hret _ _ _ _ _ _ dX6_isEdge_46 isB0 ⟨hw, rfl⟩ hI hS
      have hw := hw.2 hc
      refine lv_iload_n hx hb dX6_isEdge_10 rfl (lv_at hl 1 rfl) ?_
      refine lv_iload_n hx hb dX6_isEdge_11 rfl (lv_at hl 3 rfl) ?_
      refine lv_ishr hx hb dX6_isEdge_12 ?_
      refine lv_iconst (v := 1) hx hb dX6_isEdge_13 (by decide) ?_
      refine lv_iand hx hb dX6_isEdge_14 ?_
      refine lv_iconst (v := 1) hx hb dX6_isEdge_15 (by decide) ?_
      refine lv_icmp_ne (tgt := 39) hx hb dX6_isEdge_16 (by decide) (fun hc => ?_) (fun hc => ?_)
      · have hw := hw.1 hc
        obtain ⟨a1, ea1⟩ : ∃ y : Int32, y = x3 + 1 := ⟨_, rfl⟩
        have hw := hw a1 ea1
        refine lv_iinc (v := a1) (lv' := [(3, .int a1), (0, .ref (g.2.1 0)), (1, .int x1), (2, .int x2)]) hx hb dX6_isEdge_39 hl (k := 3) rfl (by rw [ea1]; rfl) (by decide) rfl (fun ls hl => ?_)
        refine lv_goto (tgt := 2) hx hb dX6_isEdge_42 (by decide) ?_
        rw [hK2] at hw
        exact ih2 _ _ _ _ _ _ hI hS (lv_sub hl [1, 2, 3, 0] rfl) hw
      have hw := hw.2 hc
      refine lv_aload_n hx hb dX6_isEdge_19 rfl (lv_at hl 0 rfl) ?_
      refine lv_iload_n hx hb dX6_isEdge_20 rfl (lv_at hl 3 rfl) ?_
      refine gVi (cm_X6_leftOf l g (σ := σ) hw) (mMv g) ⟨hx, hb, hml, hown, hts⟩ (cwV 1 hts gX6_isEdge_X6_leftOf rfl rfl rfl (by decide +kernel) ⟨Nat.le_of_ble_eq_true rfl, Nat.le_of_ble_eq_true rfl⟩) (mRecv_X6 hI) hI hS hl.1 rfl rfl (Nat.le_of_ble_eq_true rfl) dX6_isEdge_21 (fun r2 σ3 H locs hw hI hS => ?_)
      obtain ⟨hw, hq⟩ := hw
      rw [hq] at hI
      refine lv_iload_n hx hb dX6_isEdge_24 rfl (lv_at hl 2 rfl) ?_
      refine lv_icmp_eq (tgt := 37) hx hb dX6_isEdge_25 (by decide) (fun hc => ?_) (fun hc => ?_)
      · have hw := hw.1 hc
        refine lv_iconst (v := 1) hx hb dX6_isEdge_37 (by decide) ?_
        exact hret _ _ _ _ _ _ dX6_isEdge_38 isB1 ⟨hw, rfl⟩ hI hS
      have hw := hw.2 hc
      refine lv_aload_n hx hb dX6_isEdge_28 rfl (lv_at hl 0 rfl) ?_
      refine lv_iload_n hx hb dX6_isEdge_29 rfl (lv_at hl 3 rfl) ?_
      refine gVi (cm_X6_rightOf l g (σ := σ) hw) (mMv g) ⟨hx, hb, hml, hown, hts⟩ (cwV 1 hts gX6_isEdge_X6_rightOf rfl rfl rfl (by decide +kernel) ⟨Nat.le_of_ble_eq_true rfl, Nat.le_of_ble_eq_true rfl⟩) (mRecv_X6 hI) hI hS hl.1 rfl rfl (Nat.le_of_ble_eq_true rfl) dX6_isEdge_30 (fun r4 σ5 H locs hw hI hS => ?_)
      obtain ⟨hw, hq⟩ := hw
      rw [hq] at hI
      refine lv_iload_n hx hb dX6_isEdge_33 rfl (lv_at hl 2 rfl) ?_
      refine lv_icmp_ne (tgt := 39) hx hb dX6_isEdge_34 (by decide) (fun hc => ?_) (fun hc => ?_)
      · have hw := hw.1 hc
        obtain ⟨a6, ea6⟩ : ∃ y : Int32, y = x3 + 1 := ⟨_, rfl⟩
        have hw := hw a6 ea6
        refine lv_iinc (v := a6) (lv' := [(3, .int a6), (0, .ref (g.2.1 0)), (1, .int x1), (2, .int x2)]) hx hb dX6_isEdge_39 hl (k := 3) rfl (by rw [ea6]; rfl) (by decide) rfl (fun ls hl => ?_)
        refine lv_goto (tgt := 2) hx hb dX6_isEdge_42 (by decide) ?_
        rw [hK2] at hw
        exact ih2 _ _ _ _ _ _ hI hS (lv_sub hl [1, 2, 3, 0] rfl) hw
      have hw := hw.2 hc
      refine lv_iconst (v := 1) hx hb dX6_isEdge_37 (by decide) ?_
      exact hret _ _ _ _ _ _ dX6_isEdge_38 isB1 ⟨hw, rfl⟩ hI hS
  exact key2 n2 _ _ _ _ _ _ hI hS (lv_sub hl [1, 2, 3, 0] rfl) hw
