set_option maxRecDepth 100000 in
set_option maxHeartbeats 4000000 in
theorem cm_X6_rows (l : Launch) (g : wG) {σ : wS} {x1 : Int32} {Q : Int32 → wS → Prop} (hw : wm_X6_rows Q x1 σ) : Met l yX6_rows wsX6_rows ({ frames := 2, cells := 0, slots := 0, locals := 47 } : Room) (va_Pc [.ref (g.2.1 0), .int x1] (fun U => mIn g σ U.heap U)) (va_Qi Q (fun σ1 t => mIn g σ1 t.heap t) (mA g)) 0 0 (mA g) := by
  refine gOfI (maxL := 7) (mMv g) (by decide) rfl (Nat.le_of_ble_eq_true rfl) ?_
  intro p e s m args below meth c QQ hx hb hml hown hts hret ls hl hI
  have hl : lv_has ls 7 [(0, .ref (g.2.1 0)), (1, .int x1)] := hl
  have hS : va_S (mA g) s.heap s.heap [] := va_S.rf
  have hF : ∀ w ∈ wsX60, w.before args s = true := fun w h => hts w (List.mem_cons_of_mem _ (List.mem_append_right _ h))
  refine lv_aload_n hx hb dX6_rows_0 rfl (lv_at hl 0 rfl) ?_
  refine lv_iconst (v := 0) hx hb dX6_rows_1 (by decide) ?_
  refine mP_X6_thrown hx hb hF hown hI hS (hts _ (List.mem_of_getElem? (i := 1) rfl : (Cond.fieldLink RX6 101 "PlateRoomModel" "thrown" "I" : Cond) ∈ wsX6_rows)) dX6_rows_2 (fun σ1 eσ1 H locs hI hS => ?_)
  have hw := hw σ1 eσ1
  refine lv_aload_n hx hb dX6_rows_5 rfl (lv_at hl 0 rfl) ?_
  refine lv_iconst (v := 0) hx hb dX6_rows_6 (by decide) ?_
  refine mP_X6_status hx hb hF hown hI hS (hts _ (List.mem_of_getElem? (i := 2) rfl : (Cond.fieldLink RX6 105 "PlateRoomModel" "status" "I" : Cond) ∈ wsX6_rows)) dX6_rows_7 (fun σ2 eσ2 H locs hI hS => ?_)
  have hw := hw σ2 eσ2
  refine lv_aload_n hx hb dX6_rows_10 rfl (lv_at hl 0 rfl) ?_
  refine lv_iload_n hx hb dX6_rows_11 rfl (lv_at hl 1 rfl) ?_
  refine gVi (cm_X6_isSet l g (σ := σ2) hw) (mMv g) ⟨hx, hb, hml, hown, hts⟩ (cwV 1 hts gX6_rows_X6_isSet rfl rfl rfl (by decide +kernel) ⟨Nat.le_of_ble_eq_true rfl, Nat.le_of_ble_eq_true rfl⟩) (mRecv_X6 hI) hI hS hl.1 rfl rfl (Nat.le_of_ble_eq_true rfl) dX6_rows_12 (fun r3 σ4 H locs hw hI hS => ?_)
  obtain ⟨hw, hq⟩ := hw
  rw [hq] at hI
  refine lv_if_ne (tgt := 24) hx hb dX6_rows_15 (by decide) (fun hc => ?_) (fun hc => ?_)
  · have hw := hw.1 hc
    refine lv_aload_n hx hb dX6_rows_24 rfl (lv_at hl 0 rfl) ?_
    refine lv_iload_n hx hb dX6_rows_25 rfl (lv_at hl 1 rfl) ?_
    refine gVv (cm_X6_marks l g (σ := σ2) hw) (mMv g) ⟨hx, hb, hml, hown, hts⟩ (cwV 1 hts gX6_rows_X6_marks rfl rfl rfl (by decide +kernel) ⟨Nat.le_of_ble_eq_true rfl, Nat.le_of_ble_eq_true rfl⟩) (mRecv_X6 hI) hI hS hl.1 rfl rfl (Nat.le_of_ble_eq_true rfl) dX6_rows_26 (fun σ5 H locs hw hI hS => ?_)
    refine lv_aload_n hx hb dX6_rows_29 rfl (lv_at hl 0 rfl) ?_
    refine lv_iload_n hx hb dX6_rows_30 rfl (lv_at hl 1 rfl) ?_
    refine gVv (cm_X6_counts l g (σ := σ5) hw) (mMv g) ⟨hx, hb, hml, hown, hts⟩ (cwV 1 hts gX6_rows_X6_counts rfl rfl rfl (by decide +kernel) ⟨Nat.le_of_ble_eq_true rfl, Nat.le_of_ble_eq_true rfl⟩) (mRecv_X6 hI) hI hS hl.1 rfl rfl (Nat.le_of_ble_eq_true rfl) dX6_rows_31 (fun σ6 H locs hw hI hS => ?_)
    refine lv_iconst (v := 0) hx hb dX6_rows_34 (by decide) ?_
    refine lv_istore_n (lv' := [(2, .int 0), (0, .ref (g.2.1 0)), (1, .int x1)]) hx hb dX6_rows_35 rfl hl (by decide) rfl (fun ls hl => ?_)
    refine lv_iconst (v := 0) hx hb dX6_rows_36 (by decide) ?_
    refine lv_istore_n (lv' := [(3, .int 0), (2, .int 0), (0, .ref (g.2.1 0)), (1, .int x1)]) hx hb dX6_rows_37 rfl hl (by decide) rfl (fun ls hl => ?_)
    obtain ⟨n38, hw⟩ := hw
    have key38 : ∀ (n : Nat) (x1 : Int32) (x2 : Int32) (x3 : Int32) (σ : wS) (H : Heap) (locs : List Loc) (ls : Array Slot), mIn g σ H s → va_S (mA g) s.heap H locs → lv_has ls 7 [(0, .ref (g.2.1 0)), (1, .int x1), (2, .int x2), (3, .int x3)] → wloop (wm_X6_rows_L38 Q x1 σ) n (x2, x3) → W p l e ({ frames := 2, cells := 0, slots := 0, locals := 47 } : Room) s m args below meth c H locs 0 0 QQ (F0 m 38 ls []) := by
      intro n
      induction n with
      | zero => intro x1 x2 x3 σ H locs ls hI hS hl hw; exact False.elim hw
      | succ n ih =>
        intro x1 x2 x3 σ H locs ls hI hS hl hw
        obtain ⟨K38, hK38⟩ : ∃ K, K = wloop (wm_X6_rows_L38 Q x1 σ) n := ⟨_, rfl⟩
        have hw : wm_X6_rows_L38 Q x1 σ K38 (x2, x3) := by rw [hK38]; exact hw
        dsimp only [wm_X6_rows_L38] at hw
        have ih38 := ih
        refine lv_iload_n hx hb dX6_rows_38 rfl (lv_at hl 3 rfl) ?_
        refine lv_sipush (v := 300) hx hb dX6_rows_39 (by decide) ?_
        refine lv_icmp_ge (tgt := 187) hx hb dX6_rows_42 (by decide) (fun hc => ?_) (fun hc => ?_)
        · have hw := hw.1 hc
          refine lv_iload_n hx hb dX6_rows_187 rfl (lv_at hl 2 rfl) ?_
          exact hret _ _ _ _ _ _ dX6_rows_188 hw hI hS
        have hw := hw.2 hc
        refine lv_iconst (v := 0) hx hb dX6_rows_45 (by decide) ?_
        refine lv_istore (lv' := [(4, .int 0), (0, .ref (g.2.1 0)), (1, .int x1), (2, .int x2), (3, .int x3)]) hx hb dX6_rows_46 hl (by decide) rfl (fun ls hl => ?_)
        refine lv_iconst (v := 0) hx hb dX6_rows_48 (by decide) ?_
        refine lv_istore (lv' := [(5, .int 0), (4, .int 0), (0, .ref (g.2.1 0)), (1, .int x1), (2, .int x2), (3, .int x3)]) hx hb dX6_rows_49 hl (by decide) rfl (fun ls hl => ?_)
        refine lv_iconst (v := 0) hx hb dX6_rows_51 (by decide) ?_
        refine lv_istore (lv' := [(6, .int 0), (5, .int 0), (4, .int 0), (0, .ref (g.2.1 0)), (1, .int x1), (2, .int x2), (3, .int x3)]) hx hb dX6_rows_52 hl (by decide) rfl (fun ls hl => ?_)
        obtain ⟨n54, hw⟩ := hw
        have key54 : ∀ (n : Nat) (x2 : Int32) (x3 : Int32) (x4 : Int32) (x5 : Int32) (x6 : Int32) (H : Heap) (locs : List Loc) (ls : Array Slot), mIn g σ H s → va_S (mA g) s.heap H locs → lv_has ls 7 [(0, .ref (g.2.1 0)), (1, .int x1), (2, .int x2), (3, .int x3), (4, .int x4), (5, .int x5), (6, .int x6)] → wloop (wm_X6_rows_L54 Q K38 x1 x2 x3 x4 σ) n (x5, x6) → W p l e ({ frames := 2, cells := 0, slots := 0, locals := 47 } : Room) s m args below meth c H locs 0 0 QQ (F0 m 54 ls []) := by
          intro n
          induction n with
          | zero => intro x2 x3 x4 x5 x6  H locs ls hI hS hl hw; exact False.elim hw
          | succ n ih =>
            intro x2 x3 x4 x5 x6  H locs ls hI hS hl hw
            obtain ⟨K54, hK54⟩ : ∃ K, K = wloop (wm_X6_rows_L54 Q K38 x1 x2 x3 x4 σ) n := ⟨_, rfl⟩
            have hw : wm_X6_rows_L54 Q K38 x1 x2 x3 x4 σ K54 (x5, x6) := by rw [hK54]; exact hw
            dsimp only [wm_X6_rows_L54] at hw
            have ih54 := ih
            refine lv_iload hx hb dX6_rows_54 (lv_at hl 6 rfl) ?_
            refine lv_aload_n hx hb dX6_rows_56 rfl (lv_at hl 0 rfl) ?_
            refine mG_X6_plates hx hb hF hown hI (hts _ (List.mem_of_getElem? (i := 3) rfl : (Cond.fieldLink RX6 108 "PlateRoomModel" "plates" "I" : Cond) ∈ wsX6_rows)) dX6_rows_57 ?_
            refine lv_icmp_ge (tgt := 106) hx hb dX6_rows_60 (by decide) (fun hc => ?_) (fun hc => ?_)
            · have hw := hw.1 hc
              refine lv_iload hx hb dX6_rows_106 (lv_at hl 5 rfl) ?_
              refine lv_if_ne (tgt := 114) hx hb dX6_rows_108 (by decide) (fun hc => ?_) (fun hc => ?_)
              · have hw := hw.1 hc
                refine lv_iconst (v := 0) hx hb dX6_rows_114 (by decide) ?_
                refine lv_istore (lv' := [(6, .int 0), (0, .ref (g.2.1 0)), (1, .int x1), (2, .int x2), (3, .int x3), (4, .int x4), (5, .int x5)]) hx hb dX6_rows_115 hl (by decide) rfl (fun ls hl => ?_)
                obtain ⟨n117, hw⟩ := hw
                have key117 : ∀ (n : Nat) (x2 : Int32) (x3 : Int32) (x4 : Int32) (x6 : Int32) (H : Heap) (locs : List Loc) (ls : Array Slot), mIn g σ H s → va_S (mA g) s.heap H locs → lv_has ls 7 [(0, .ref (g.2.1 0)), (1, .int x1), (2, .int x2), (3, .int x3), (4, .int x4), (6, .int x6)] → wloop (wm_X6_rows_L117 Q K38 x1 x2 x3 σ) n (x4, x6) → W p l e ({ frames := 2, cells := 0, slots := 0, locals := 47 } : Room) s m args below meth c H locs 0 0 QQ (F0 m 117 ls []) := by
                  intro n
                  induction n with
                  | zero => intro x2 x3 x4 x6  H locs ls hI hS hl hw; exact False.elim hw
                  | succ n ih =>
                    intro x2 x3 x4 x6  H locs ls hI hS hl hw
                    obtain ⟨K117, hK117⟩ : ∃ K, K = wloop (wm_X6_rows_L117 Q K38 x1 x2 x3 σ) n := ⟨_, rfl⟩
                    have hw : wm_X6_rows_L117 Q K38 x1 x2 x3 σ K117 (x4, x6) := by rw [hK117]; exact hw
                    dsimp only [wm_X6_rows_L117] at hw
                    have ih117 := ih
                    refine lv_iload hx hb dX6_rows_117 (lv_at hl 5 rfl) ?_
                    refine lv_sipush (v := 300) hx hb dX6_rows_119 (by decide) ?_
                    refine lv_icmp_ge (tgt := 172) hx hb dX6_rows_122 (by decide) (fun hc => ?_) (fun hc => ?_)
                    · have hw := hw.1 hc
                      refine lv_iload_n hx hb dX6_rows_172 rfl (lv_at hl 2 rfl) ?_
                      refine lv_iconst (v := 1) hx hb dX6_rows_173 (by decide) ?_
                      refine lv_iload hx hb dX6_rows_174 (lv_at hl 4 rfl) ?_
                      refine va_mmax hx hb (hml.trans hl.1.symm) hown (hts _ (List.mem_of_getElem? (i := 6) rfl : (Cond.methodLink RX6 217 Lib.Math.max.name : Cond) ∈ wsX6_rows)) (hts _ (List.mem_of_getElem? (i := 7) rfl : (Cond.static Lib.Math.max.name : Cond) ∈ wsX6_rows)) (hts _ (List.mem_of_getElem? (i := 8) rfl : (Cond.initialized "java/lang/Math" : Cond) ∈ wsX6_rows)) (hts _ (List.mem_of_getElem? (i := 9) rfl : (Cond.code Lib.Math.max.name Lib.Math.max.code 2 (some .int) : Cond) ∈ wsX6_rows)) (Nat.le_of_ble_eq_true rfl) (Nat.le_of_ble_eq_true rfl) (Nat.zero_le _) (Nat.zero_le _) dX6_rows_176 ?_
                      refine lv_topi (fun m1 em1 => ?_)
                      have hw := hw m1 em1
                      refine lv_iadd hx hb dX6_rows_179 ?_
                      refine lv_topi (fun a2 ea2 => ?_)
                      have hw := hw a2 ea2
                      refine lv_istore_n (lv' := [(2, .int a2), (0, .ref (g.2.1 0)), (1, .int x1), (3, .int x3), (4, .int x4), (6, .int x6)]) hx hb dX6_rows_180 rfl hl (by decide) rfl (fun ls hl => ?_)
                      obtain ⟨a3, ea3⟩ : ∃ y : Int32, y = x3 + 1 := ⟨_, rfl⟩
                      have hw := hw a3 ea3
                      refine lv_iinc (v := a3) (lv' := [(3, .int a3), (2, .int a2), (0, .ref (g.2.1 0)), (1, .int x1), (4, .int x4), (6, .int x6)]) hx hb dX6_rows_181 hl (k := 3) rfl (by rw [ea3]; rfl) (by decide) rfl (fun ls hl => ?_)
                      refine lv_goto (tgt := 38) hx hb dX6_rows_184 (by decide) ?_
                      rw [hK38] at hw
                      exact ih38 _ _ _ _ _ _ _ hI hS (lv_sub hl [2, 3, 1, 0] rfl) hw
                    have hw := hw.2 hc
                    refine lv_iload hx hb dX6_rows_125 (lv_at hl 4 rfl) ?_
                    refine lv_aload_n hx hb dX6_rows_127 rfl (lv_at hl 0 rfl) ?_
                    refine lv_iload_n hx hb dX6_rows_128 rfl (lv_at hl 1 rfl) ?_
                    refine lv_iload hx hb dX6_rows_129 (lv_at hl 5 rfl) ?_
                    refine gVi (cm_X6_isEdge l g (σ := σ) hw) (mMv g) ⟨hx, hb, hml, hown, hts⟩ (cwV 2 hts gX6_rows_X6_isEdge rfl rfl rfl (by decide +kernel) ⟨Nat.le_of_ble_eq_true rfl, Nat.le_of_ble_eq_true rfl⟩) (mRecv_X6 hI) hI hS hl.1 rfl rfl (Nat.le_of_ble_eq_true rfl) dX6_rows_131 (fun r4 σ5 H locs hw hI hS => ?_)
                    obtain ⟨hw, hq⟩ := hw
                    rw [hq] at hI
                    refine lv_if_eq (tgt := 162) hx hb dX6_rows_134 (by decide) (fun hc => ?_) (fun hc => ?_)
                    · have hw := hw.1 hc
                      refine lv_iconst (v := 0) hx hb dX6_rows_162 (by decide) ?_
                      refine lv_iadd hx hb dX6_rows_163 ?_
                      refine lv_topi (fun a6 ea6 => ?_)
                      have hw := hw a6 ea6
                      refine lv_istore (lv' := [(4, .int a6), (0, .ref (g.2.1 0)), (1, .int x1), (2, .int x2), (3, .int x3), (6, .int x6)]) hx hb dX6_rows_164 hl (by decide) rfl (fun ls hl => ?_)
                      obtain ⟨a7, ea7⟩ : ∃ y : Int32, y = x6 + 1 := ⟨_, rfl⟩
                      have hw := hw a7 ea7
                      refine lv_iinc (v := a7) (lv' := [(6, .int a7), (4, .int a6), (0, .ref (g.2.1 0)), (1, .int x1), (2, .int x2), (3, .int x3)]) hx hb dX6_rows_166 hl (k := 5) rfl (by rw [ea7]; rfl) (by decide) rfl (fun ls hl => ?_)
                      refine lv_goto (tgt := 117) hx hb dX6_rows_169 (by decide) ?_
                      rw [hK117] at hw
                      exact ih117 _ _ _ _ _ _ _ hI hS (lv_sub hl [2, 3, 4, 5, 1, 0] rfl) hw
                    have hw := hw.2 hc
                    refine lv_aload_n hx hb dX6_rows_137 rfl (lv_at hl 0 rfl) ?_
                    refine mG_X6_mark hx hb hF hown hI (hts _ (List.mem_of_getElem? (i := 4) rfl : (Cond.fieldLink RX6 62 "PlateRoomModel" "mark" "[I" : Cond) ∈ wsX6_rows)) dX6_rows_138 ?_
                    refine lv_iload hx hb dX6_rows_141 (lv_at hl 5 rfl) ?_
                    have hin := hw.1
                    have hw := hw.2
                    refine mR_X6_mark hx hb hI hin dX6_rows_143 ?_
                    refine lv_iload_n hx hb dX6_rows_144 rfl (lv_at hl 3 rfl) ?_
                    refine lv_icmp_ne (tgt := 162) hx hb dX6_rows_145 (by decide) (fun hc => ?_) (fun hc => ?_)
                    · have hw := hw.1 hc
                      refine lv_iconst (v := 0) hx hb dX6_rows_162 (by decide) ?_
                      refine lv_iadd hx hb dX6_rows_163 ?_
                      refine lv_topi (fun a8 ea8 => ?_)
                      have hw := hw a8 ea8
                      refine lv_istore (lv' := [(4, .int a8), (0, .ref (g.2.1 0)), (1, .int x1), (2, .int x2), (3, .int x3), (6, .int x6)]) hx hb dX6_rows_164 hl (by decide) rfl (fun ls hl => ?_)
                      obtain ⟨a9, ea9⟩ : ∃ y : Int32, y = x6 + 1 := ⟨_, rfl⟩
                      have hw := hw a9 ea9
                      refine lv_iinc (v := a9) (lv' := [(6, .int a9), (4, .int a8), (0, .ref (g.2.1 0)), (1, .int x1), (2, .int x2), (3, .int x3)]) hx hb dX6_rows_166 hl (k := 5) rfl (by rw [ea9]; rfl) (by decide) rfl (fun ls hl => ?_)
                      refine lv_goto (tgt := 117) hx hb dX6_rows_169 (by decide) ?_
                      rw [hK117] at hw
                      exact ih117 _ _ _ _ _ _ _ hI hS (lv_sub hl [2, 3, 4, 5, 1, 0] rfl) hw
                    have hw := hw.2 hc
                    refine lv_iconst (v := 0) hx hb dX6_rows_148 (by decide) ?_
                    refine lv_aload_n hx hb dX6_rows_149 rfl (lv_at hl 0 rfl) ?_
                    refine mG_X6_excess hx hb hF hown hI (hts _ (List.mem_of_getElem? (i := 5) rfl : (Cond.fieldLink RX6 59 "PlateRoomModel" "excess" "[I" : Cond) ∈ wsX6_rows)) dX6_rows_150 ?_
                    refine lv_iload hx hb dX6_rows_153 (lv_at hl 5 rfl) ?_
                    have hin := hw.1
                    have hw := hw.2
                    refine mR_X6_excess hx hb hI hin dX6_rows_155 ?_
                    refine va_mmax hx hb (hml.trans hl.1.symm) hown (hts _ (List.mem_of_getElem? (i := 6) rfl : (Cond.methodLink RX6 217 Lib.Math.max.name : Cond) ∈ wsX6_rows)) (hts _ (List.mem_of_getElem? (i := 7) rfl : (Cond.static Lib.Math.max.name : Cond) ∈ wsX6_rows)) (hts _ (List.mem_of_getElem? (i := 8) rfl : (Cond.initialized "java/lang/Math" : Cond) ∈ wsX6_rows)) (hts _ (List.mem_of_getElem? (i := 9) rfl : (Cond.code Lib.Math.max.name Lib.Math.max.code 2 (some .int) : Cond) ∈ wsX6_rows)) (Nat.le_of_ble_eq_true rfl) (Nat.le_of_ble_eq_true rfl) (Nat.zero_le _) (Nat.zero_le _) dX6_rows_156 ?_
                    refine lv_topi (fun m10 em10 => ?_)
                    have hw := hw m10 em10
                    refine lv_goto (tgt := 163) hx hb dX6_rows_159 (by decide) ?_
                    refine lv_iadd hx hb dX6_rows_163 ?_
                    refine lv_topi (fun a11 ea11 => ?_)
                    have hw := hw a11 ea11
                    refine lv_istore (lv' := [(4, .int a11), (0, .ref (g.2.1 0)), (1, .int x1), (2, .int x2), (3, .int x3), (6, .int x6)]) hx hb dX6_rows_164 hl (by decide) rfl (fun ls hl => ?_)
                    obtain ⟨a12, ea12⟩ : ∃ y : Int32, y = x6 + 1 := ⟨_, rfl⟩
                    have hw := hw a12 ea12
                    refine lv_iinc (v := a12) (lv' := [(6, .int a12), (4, .int a11), (0, .ref (g.2.1 0)), (1, .int x1), (2, .int x2), (3, .int x3)]) hx hb dX6_rows_166 hl (k := 5) rfl (by rw [ea12]; rfl) (by decide) rfl (fun ls hl => ?_)
                    refine lv_goto (tgt := 117) hx hb dX6_rows_169 (by decide) ?_
                    rw [hK117] at hw
                    exact ih117 _ _ _ _ _ _ _ hI hS (lv_sub hl [2, 3, 4, 5, 1, 0] rfl) hw
                exact key117 n117 _ _ _ _ _ _ _ hI hS (lv_sub hl [1, 2, 3, 4, 5, 0] rfl) hw
              have hw := hw.2 hc
              refine lv_goto (tgt := 181) hx hb dX6_rows_111 (by decide) ?_
              obtain ⟨a1, ea1⟩ : ∃ y : Int32, y = x3 + 1 := ⟨_, rfl⟩
              have hw := hw a1 ea1
              refine lv_iinc (v := a1) (lv' := [(3, .int a1), (0, .ref (g.2.1 0)), (1, .int x1), (2, .int x2), (4, .int x4), (5, .int x5), (6, .int x6)]) hx hb dX6_rows_181 hl (k := 3) rfl (by rw [ea1]; rfl) (by decide) rfl (fun ls hl => ?_)
              refine lv_goto (tgt := 38) hx hb dX6_rows_184 (by decide) ?_
              rw [hK38] at hw
              exact ih38 _ _ _ _ _ _ _ hI hS (lv_sub hl [1, 2, 3, 0] rfl) hw
            have hw := hw.2 hc
            refine lv_iload hx hb dX6_rows_63 (lv_at hl 5 rfl) ?_
            refine lv_if_ne (tgt := 93) hx hb dX6_rows_65 (by decide) (fun hc => ?_) (fun hc => ?_)
            · have hw := hw.1 hc
              refine lv_iconst (v := 1) hx hb dX6_rows_93 (by decide) ?_
              refine lv_goto (tgt := 98) hx hb dX6_rows_94 (by decide) ?_
              refine lv_istore (lv' := [(5, .int 1), (0, .ref (g.2.1 0)), (1, .int x1), (2, .int x2), (3, .int x3), (4, .int x4), (6, .int x6)]) hx hb dX6_rows_98 hl (by decide) rfl (fun ls hl => ?_)
              obtain ⟨a2, ea2⟩ : ∃ y : Int32, y = x6 + 1 := ⟨_, rfl⟩
              have hw := hw a2 ea2
              refine lv_iinc (v := a2) (lv' := [(6, .int a2), (5, .int 1), (0, .ref (g.2.1 0)), (1, .int x1), (2, .int x2), (3, .int x3), (4, .int x4)]) hx hb dX6_rows_100 hl (k := 6) rfl (by rw [ea2]; rfl) (by decide) rfl (fun ls hl => ?_)
              refine lv_goto (tgt := 54) hx hb dX6_rows_103 (by decide) ?_
              rw [hK54] at hw
              exact ih54 _ _ _ _ _ _ _ _ hI hS (lv_sub hl [2, 3, 4, 5, 6, 1, 0] rfl) hw
            have hw := hw.2 hc
            refine lv_iload_n hx hb dX6_rows_68 rfl (lv_at hl 1 rfl) ?_
            refine lv_iload hx hb dX6_rows_69 (lv_at hl 6 rfl) ?_
            refine lv_ishr hx hb dX6_rows_71 ?_
            refine lv_iconst (v := 1) hx hb dX6_rows_72 (by decide) ?_
            refine lv_iand hx hb dX6_rows_73 ?_
            refine lv_iconst (v := 1) hx hb dX6_rows_74 (by decide) ?_
            refine lv_icmp_ne (tgt := 97) hx hb dX6_rows_75 (by decide) (fun hc => ?_) (fun hc => ?_)
            · have hw := hw.1 hc
              refine lv_iconst (v := 0) hx hb dX6_rows_97 (by decide) ?_
              refine lv_istore (lv' := [(5, .int 0), (0, .ref (g.2.1 0)), (1, .int x1), (2, .int x2), (3, .int x3), (4, .int x4), (6, .int x6)]) hx hb dX6_rows_98 hl (by decide) rfl (fun ls hl => ?_)
              obtain ⟨a3, ea3⟩ : ∃ y : Int32, y = x6 + 1 := ⟨_, rfl⟩
              have hw := hw a3 ea3
              refine lv_iinc (v := a3) (lv' := [(6, .int a3), (5, .int 0), (0, .ref (g.2.1 0)), (1, .int x1), (2, .int x2), (3, .int x3), (4, .int x4)]) hx hb dX6_rows_100 hl (k := 6) rfl (by rw [ea3]; rfl) (by decide) rfl (fun ls hl => ?_)
              refine lv_goto (tgt := 54) hx hb dX6_rows_103 (by decide) ?_
              rw [hK54] at hw
              exact ih54 _ _ _ _ _ _ _ _ hI hS (lv_sub hl [2, 3, 4, 5, 6, 1, 0] rfl) hw
            have hw := hw.2 hc
            refine lv_aload_n hx hb dX6_rows_78 rfl (lv_at hl 0 rfl) ?_
            refine mG_X6_mark hx hb hF hown hI (hts _ (List.mem_of_getElem? (i := 4) rfl : (Cond.fieldLink RX6 62 "PlateRoomModel" "mark" "[I" : Cond) ∈ wsX6_rows)) dX6_rows_79 ?_
            refine lv_aload_n hx hb dX6_rows_82 rfl (lv_at hl 0 rfl) ?_
            refine lv_iload hx hb dX6_rows_83 (lv_at hl 6 rfl) ?_
            refine gVi (cm_X6_leftOf l g (σ := σ) hw) (mMv g) ⟨hx, hb, hml, hown, hts⟩ (cwV 1 hts gX6_rows_X6_leftOf rfl rfl rfl (by decide +kernel) ⟨Nat.le_of_ble_eq_true rfl, Nat.le_of_ble_eq_true rfl⟩) (mRecv_X6 hI) hI hS hl.1 rfl rfl (Nat.le_of_ble_eq_true rfl) dX6_rows_85 (fun r4 σ5 H locs hw hI hS => ?_)
            obtain ⟨hw, hq⟩ := hw
            rw [hq] at hI
            have hin := hw.1
            have hw := hw.2
            refine mR_X6_mark hx hb hI hin dX6_rows_88 ?_
            refine lv_iload_n hx hb dX6_rows_89 rfl (lv_at hl 3 rfl) ?_
            refine lv_icmp_ne (tgt := 97) hx hb dX6_rows_90 (by decide) (fun hc => ?_) (fun hc => ?_)
            · have hw := hw.1 hc
              refine lv_iconst (v := 0) hx hb dX6_rows_97 (by decide) ?_
              refine lv_istore (lv' := [(5, .int 0), (0, .ref (g.2.1 0)), (1, .int x1), (2, .int x2), (3, .int x3), (4, .int x4), (6, .int x6)]) hx hb dX6_rows_98 hl (by decide) rfl (fun ls hl => ?_)
              obtain ⟨a6, ea6⟩ : ∃ y : Int32, y = x6 + 1 := ⟨_, rfl⟩
              have hw := hw a6 ea6
              refine lv_iinc (v := a6) (lv' := [(6, .int a6), (5, .int 0), (0, .ref (g.2.1 0)), (1, .int x1), (2, .int x2), (3, .int x3), (4, .int x4)]) hx hb dX6_rows_100 hl (k := 6) rfl (by rw [ea6]; rfl) (by decide) rfl (fun ls hl => ?_)
              refine lv_goto (tgt := 54) hx hb dX6_rows_103 (by decide) ?_
              rw [hK54] at hw
              exact ih54 _ _ _ _ _ _ _ _ hI hS (lv_sub hl [2, 3, 4, 5, 6, 1, 0] rfl) hw
            have hw := hw.2 hc
            refine lv_iconst (v := 1) hx hb dX6_rows_93 (by decide) ?_
            refine lv_goto (tgt := 98) hx hb dX6_rows_94 (by decide) ?_
            refine lv_istore (lv' := [(5, .int 1), (0, .ref (g.2.1 0)), (1, .int x1), (2, .int x2), (3, .int x3), (4, .int x4), (6, .int x6)]) hx hb dX6_rows_98 hl (by decide) rfl (fun ls hl => ?_)
            obtain ⟨a7, ea7⟩ : ∃ y : Int32, y = x6 + 1 := ⟨_, rfl⟩
            have hw := hw a7 ea7
            refine lv_iinc (v := a7) (lv' := [(6, .int a7), (5, .int 1), (0, .ref (g.2.1 0)), (1, .int x1), (2, .int x2), (3, .int x3), (4, .int x4)]) hx hb dX6_rows_100 hl (k := 6) rfl (by rw [ea7]; rfl) (by decide) rfl (fun ls hl => ?_)
            refine lv_goto (tgt := 54) hx hb dX6_rows_103 (by decide) ?_
            rw [hK54] at hw
            exact ih54 _ _ _ _ _ _ _ _ hI hS (lv_sub hl [2, 3, 4, 5, 6, 1, 0] rfl) hw
        exact key54 n54 _ _ _ _ _ _ _ _ hI hS (lv_sub hl [3, 4, 5, 6, 2, 1, 0] rfl) hw
    exact key38 n38 _ _ _ _ _ _ _ hI hS (lv_sub hl [2, 3, 1, 0] rfl) hw
  have hw := hw.2 hc
  refine lv_aload_n hx hb dX6_rows_18 rfl (lv_at hl 0 rfl) ?_
  refine lv_iconst (v := 2) hx hb dX6_rows_19 (by decide) ?_
  refine gVi (cm_X6_refuse l g (σ := σ2) hw) (mMv g) ⟨hx, hb, hml, hown, hts⟩ (cwV 1 hts gX6_rows_X6_refuse rfl rfl rfl (by decide +kernel) ⟨Nat.le_of_ble_eq_true rfl, Nat.le_of_ble_eq_true rfl⟩) (mRecv_X6 hI) hI hS hl.1 rfl rfl (Nat.le_of_ble_eq_true rfl) dX6_rows_20 (fun r7 σ8 H locs hw hI hS => ?_)
  exact hret _ _ _ _ _ _ dX6_rows_23 hw hI hS
set_option maxRecDepth 100000 in
set_option maxHeartbeats 4000000 in
theorem cm_X6_out (l : Launch) (g : wG) {σ : wS} {x1 : Int32} {Q : Int32 → wS → Prop} (hw : wm_X6_out Q x1 σ) : Met l yX6_out wsX6_out ({ frames := 0, cells := 0, slots := 0, locals := 0 } : Room) (va_Pc [.ref (g.2.1 0), .int x1] (fun U => mIn g σ U.heap U)) (va_Qi Q (fun σ1 t => mIn g σ1 t.heap t) (mA g)) 0 0 (mA g) := by
  refine gOfI (maxL := 2) (mMv g) (by decide) rfl (Nat.le_of_ble_eq_true rfl) ?_
  intro p e s m args below meth c QQ hx hb hml hown hts hret ls hl hI
  have hl : lv_has ls 2 [(0, .ref (g.2.1 0)), (1, .int x1)] := hl
  have hS : va_S (mA g) s.heap s.heap [] := va_S.rf
  have hF : ∀ w ∈ wsX60, w.before args s = true := fun w h => hts w (List.mem_cons_of_mem _ (List.mem_append_right _ h))
  refine lv_aload_n hx hb dX6_out_0 rfl (lv_at hl 0 rfl) ?_
  refine lv_iconst (v := 0) hx hb dX6_out_1 (by decide) ?_
  refine mP_X6_thrown hx hb hF hown hI hS (hts _ (List.mem_of_getElem? (i := 1) rfl : (Cond.fieldLink RX6 101 "PlateRoomModel" "thrown" "I" : Cond) ∈ wsX6_out)) dX6_out_2 (fun σ1 eσ1 H locs hI hS => ?_)
  have hw := hw σ1 eσ1
  refine lv_iload_n hx hb dX6_out_5 rfl (lv_at hl 1 rfl) ?_
  refine lv_if_lt (tgt := 26) hx hb dX6_out_6 (by decide) (fun hc => ?_) (fun hc => ?_)
  · have hw := hw.1 hc
    refine lv_iconst (v := (-1)) hx hb dX6_out_26 (by decide) ?_
    exact hret _ _ _ _ _ _ dX6_out_27 hw hI hS
  have hw := hw.2 hc
  refine lv_iload_n hx hb dX6_out_9 rfl (lv_at hl 1 rfl) ?_
  refine lv_aload_n hx hb dX6_out_10 rfl (lv_at hl 0 rfl) ?_
  refine mG_X6_outs hx hb hF hown hI (hts _ (List.mem_of_getElem? (i := 2) rfl : (Cond.fieldLink RX6 235 "PlateRoomModel" "outs" "I" : Cond) ∈ wsX6_out)) dX6_out_11 ?_
  refine lv_icmp_ge (tgt := 26) hx hb dX6_out_14 (by decide) (fun hc => ?_) (fun hc => ?_)
  · have hw := hw.1 hc
    refine lv_iconst (v := (-1)) hx hb dX6_out_26 (by decide) ?_
    exact hret _ _ _ _ _ _ dX6_out_27 hw hI hS
  have hw := hw.2 hc
  refine lv_aload_n hx hb dX6_out_17 rfl (lv_at hl 0 rfl) ?_
  refine mG_X6_out hx hb hF hown hI (hts _ (List.mem_of_getElem? (i := 3) rfl : (Cond.fieldLink RX6 53 "PlateRoomModel" "out" "[I" : Cond) ∈ wsX6_out)) dX6_out_18 ?_
  refine lv_iload_n hx hb dX6_out_21 rfl (lv_at hl 1 rfl) ?_
  have hin := hw.1
  have hw := hw.2
  refine mR_X6_out hx hb hI hin dX6_out_22 ?_
  refine lv_goto (tgt := 27) hx hb dX6_out_23 (by decide) ?_
  exact hret _ _ _ _ _ _ dX6_out_27 hw hI hS
set_option maxRecDepth 100000 in
set_option maxHeartbeats 4000000 in
theorem cm_X6_want (l : Launch) (g : wG) {σ : wS} {x1 : Int32} {x2 : Int32} {x3 : Int32} {x4 : Int32} {Q : Int32 → wS → Prop} (hw : wm_X6_want Q x1 x2 x3 x4 σ) : Met l yX6_want wsX6_want ({ frames := 1, cells := 0, slots := 0, locals := 21 } : Room) (va_Pc [.ref (g.2.1 0), .int x1, .int x2, .int x3, .int x4] (fun U => mIn g σ U.heap U)) (va_Qi Q (fun σ1 t => mIn g σ1 t.heap t) (mA g)) 0 0 (mA g) := by
  refine gOfZ (maxL := 5) (mMv g) (by decide) rfl (Nat.le_of_ble_eq_true rfl) ?_
  intro p e s m args below meth c QQ hx hb hml hown hts hret ls hl hI
  have hl : lv_has ls 5 [(0, .ref (g.2.1 0)), (1, .int x1), (2, .int x2), (3, .int x3), (4, .int x4)] := hl
  have hS : va_S (mA g) s.heap s.heap [] := va_S.rf
  have hF : ∀ w ∈ wsX60, w.before args s = true := fun w h => hts w (List.mem_cons_of_mem _ (List.mem_append_right _ h))
  refine lv_aload_n hx hb dX6_want_0 rfl (lv_at hl 0 rfl) ?_
  refine lv_iconst (v := 0) hx hb dX6_want_1 (by decide) ?_
  refine mP_X6_thrown hx hb hF hown hI hS (hts _ (List.mem_of_getElem? (i := 1) rfl : (Cond.fieldLink RX6 101 "PlateRoomModel" "thrown" "I" : Cond) ∈ wsX6_want)) dX6_want_2 (fun σ1 eσ1 H locs hI hS => ?_)
  have hw := hw σ1 eσ1
  refine lv_aload_n hx hb dX6_want_5 rfl (lv_at hl 0 rfl) ?_
  refine lv_iconst (v := 0) hx hb dX6_want_6 (by decide) ?_
  refine mP_X6_status hx hb hF hown hI hS (hts _ (List.mem_of_getElem? (i := 2) rfl : (Cond.fieldLink RX6 105 "PlateRoomModel" "status" "I" : Cond) ∈ wsX6_want)) dX6_want_7 (fun σ2 eσ2 H locs hI hS => ?_)
  have hw := hw σ2 eσ2
  refine lv_aload_n hx hb dX6_want_10 rfl (lv_at hl 0 rfl) ?_
  refine lv_iload_n hx hb dX6_want_11 rfl (lv_at hl 1 rfl) ?_
  refine gVi (cm_X6_isPlate l g (σ := σ2) hw) (mMv g) ⟨hx, hb, hml, hown, hts⟩ (cwV 1 hts gX6_want_X6_isPlate rfl rfl rfl (by decide +kernel) ⟨Nat.le_of_ble_eq_true rfl, Nat.le_of_ble_eq_true rfl⟩) (mRecv_X6 hI) hI hS hl.1 rfl rfl (Nat.le_of_ble_eq_true rfl) dX6_want_12 (fun r3 σ4 H locs hw hI hS => ?_)
  obtain ⟨hw, hq⟩ := hw
  rw [hq] at hI
  refine lv_if_ne (tgt := 24) hx hb dX6_want_15 (by decide) (fun hc => ?_) (fun hc => ?_)
  · have hw := hw.1 hc
    refine lv_iload_n hx hb dX6_want_24 rfl (lv_at hl 2 rfl) ?_
    refine lv_if_lt (tgt := 59) hx hb dX6_want_25 (by decide) (fun hc => ?_) (fun hc => ?_)
    · have hw := hw.1 hc
      refine lv_aload_n hx hb dX6_want_59 rfl (lv_at hl 0 rfl) ?_
      refine lv_iconst (v := 2) hx hb dX6_want_60 (by decide) ?_
      refine gVi (cm_X6_no l g (σ := σ2) hw) (mMv g) ⟨hx, hb, hml, hown, hts⟩ (cwV 1 hts gX6_want_X6_no rfl rfl rfl (by decide +kernel) ⟨Nat.le_of_ble_eq_true rfl, Nat.le_of_ble_eq_true rfl⟩) (mRecv_X6 hI) hI hS hl.1 rfl rfl (Nat.le_of_ble_eq_true rfl) dX6_want_61 (fun r5 σ6 H locs hw hI hS => ?_)
      exact hret _ _ _ _ _ _ dX6_want_64 hw.1 hw.2 hI hS
    have hw := hw.2 hc
    refine lv_iload_n hx hb dX6_want_28 rfl (lv_at hl 2 rfl) ?_
    refine lv_bipush (v := 99) hx hb dX6_want_29 (by decide) ?_
    refine lv_icmp_gt (tgt := 59) hx hb dX6_want_31 (by decide) (fun hc => ?_) (fun hc => ?_)
    · have hw := hw.1 hc
      refine lv_aload_n hx hb dX6_want_59 rfl (lv_at hl 0 rfl) ?_
      refine lv_iconst (v := 2) hx hb dX6_want_60 (by decide) ?_
      refine gVi (cm_X6_no l g (σ := σ2) hw) (mMv g) ⟨hx, hb, hml, hown, hts⟩ (cwV 1 hts gX6_want_X6_no rfl rfl rfl (by decide +kernel) ⟨Nat.le_of_ble_eq_true rfl, Nat.le_of_ble_eq_true rfl⟩) (mRecv_X6 hI) hI hS hl.1 rfl rfl (Nat.le_of_ble_eq_true rfl) dX6_want_61 (fun r7 σ8 H locs hw hI hS => ?_)
      exact hret _ _ _ _ _ _ dX6_want_64 hw.1 hw.2 hI hS
    have hw := hw.2 hc
    refine lv_iload_n hx hb dX6_want_34 rfl (lv_at hl 3 rfl) ?_
    refine lv_iconst (v := 1) hx hb dX6_want_35 (by decide) ?_
    refine lv_icmp_lt (tgt := 59) hx hb dX6_want_36 (by decide) (fun hc => ?_) (fun hc => ?_)
    · have hw := hw.1 hc
      refine lv_aload_n hx hb dX6_want_59 rfl (lv_at hl 0 rfl) ?_
      refine lv_iconst (v := 2) hx hb dX6_want_60 (by decide) ?_
      refine gVi (cm_X6_no l g (σ := σ2) hw) (mMv g) ⟨hx, hb, hml, hown, hts⟩ (cwV 1 hts gX6_want_X6_no rfl rfl rfl (by decide +kernel) ⟨Nat.le_of_ble_eq_true rfl, Nat.le_of_ble_eq_true rfl⟩) (mRecv_X6 hI) hI hS hl.1 rfl rfl (Nat.le_of_ble_eq_true rfl) dX6_want_61 (fun r9 σ10 H locs hw hI hS => ?_)
      exact hret _ _ _ _ _ _ dX6_want_64 hw.1 hw.2 hI hS
    have hw := hw.2 hc
    refine lv_iload_n hx hb dX6_want_39 rfl (lv_at hl 3 rfl) ?_
    refine lv_bipush (v := 50) hx hb dX6_want_40 (by decide) ?_
    refine lv_icmp_gt (tgt := 59) hx hb dX6_want_42 (by decide) (fun hc => ?_) (fun hc => ?_)
    · have hw := hw.1 hc
      refine lv_aload_n hx hb dX6_want_59 rfl (lv_at hl 0 rfl) ?_
      refine lv_iconst (v := 2) hx hb dX6_want_60 (by decide) ?_
      refine gVi (cm_X6_no l g (σ := σ2) hw) (mMv g) ⟨hx, hb, hml, hown, hts⟩ (cwV 1 hts gX6_want_X6_no rfl rfl rfl (by decide +kernel) ⟨Nat.le_of_ble_eq_true rfl, Nat.le_of_ble_eq_true rfl⟩) (mRecv_X6 hI) hI hS hl.1 rfl rfl (Nat.le_of_ble_eq_true rfl) dX6_want_61 (fun r11 σ12 H locs hw hI hS => ?_)
      exact hret _ _ _ _ _ _ dX6_want_64 hw.1 hw.2 hI hS
    have hw := hw.2 hc
    refine lv_iload hx hb dX6_want_45 (lv_at hl 4 rfl) ?_
    refine lv_iconst (v := 1) hx hb dX6_want_47 (by decide) ?_
    refine lv_icmp_lt (tgt := 59) hx hb dX6_want_48 (by decide) (fun hc => ?_) (fun hc => ?_)
    · have hw := hw.1 hc
      refine lv_aload_n hx hb dX6_want_59 rfl (lv_at hl 0 rfl) ?_
      refine lv_iconst (v := 2) hx hb dX6_want_60 (by decide) ?_
      refine gVi (cm_X6_no l g (σ := σ2) hw) (mMv g) ⟨hx, hb, hml, hown, hts⟩ (cwV 1 hts gX6_want_X6_no rfl rfl rfl (by decide +kernel) ⟨Nat.le_of_ble_eq_true rfl, Nat.le_of_ble_eq_true rfl⟩) (mRecv_X6 hI) hI hS hl.1 rfl rfl (Nat.le_of_ble_eq_true rfl) dX6_want_61 (fun r13 σ14 H locs hw hI hS => ?_)
      exact hret _ _ _ _ _ _ dX6_want_64 hw.1 hw.2 hI hS
    have hw := hw.2 hc
    refine lv_iload hx hb dX6_want_51 (lv_at hl 4 rfl) ?_
    refine lv_sipush (v := 500) hx hb dX6_want_53 (by decide) ?_
    refine lv_icmp_le (tgt := 65) hx hb dX6_want_56 (by decide) (fun hc => ?_) (fun hc => ?_)
    · have hw := hw.1 hc
      refine lv_aload_n hx hb dX6_want_65 rfl (lv_at hl 0 rfl) ?_
      refine mG_X6_wanted hx hb hF hown hI (hts _ (List.mem_of_getElem? (i := 3) rfl : (Cond.fieldLink RX6 65 "PlateRoomModel" "wanted" "[I" : Cond) ∈ wsX6_want)) dX6_want_66 ?_
      refine lv_iload_n hx hb dX6_want_69 rfl (lv_at hl 1 rfl) ?_
      refine lv_iload_n hx hb dX6_want_70 rfl (lv_at hl 2 rfl) ?_
      have hin := hw.1
      have hw := hw.2
      refine mS_X6_wanted hx hb hI hS hin dX6_want_71 (fun σ15 eσ15 H locs hI hS => ?_)
      have hw := hw σ15 eσ15
      refine lv_aload_n hx hb dX6_want_72 rfl (lv_at hl 0 rfl) ?_
      refine mG_X6_hours hx hb hF hown hI (hts _ (List.mem_of_getElem? (i := 4) rfl : (Cond.fieldLink RX6 68 "PlateRoomModel" "hours" "[I" : Cond) ∈ wsX6_want)) dX6_want_73 ?_
      refine lv_iload_n hx hb dX6_want_76 rfl (lv_at hl 1 rfl) ?_
      refine lv_iload_n hx hb dX6_want_77 rfl (lv_at hl 3 rfl) ?_
      have hin := hw.1
      have hw := hw.2
      refine mS_X6_hours hx hb hI hS hin dX6_want_78 (fun σ16 eσ16 H locs hI hS => ?_)
      have hw := hw σ16 eσ16
      refine lv_aload_n hx hb dX6_want_79 rfl (lv_at hl 0 rfl) ?_
      refine mG_X6_lost hx hb hF hown hI (hts _ (List.mem_of_getElem? (i := 5) rfl : (Cond.fieldLink RX6 71 "PlateRoomModel" "lost" "[I" : Cond) ∈ wsX6_want)) dX6_want_80 ?_
      refine lv_iload_n hx hb dX6_want_83 rfl (lv_at hl 1 rfl) ?_
      refine lv_iload hx hb dX6_want_84 (lv_at hl 4 rfl) ?_
      have hin := hw.1
      have hw := hw.2
      refine mS_X6_lost hx hb hI hS hin dX6_want_86 (fun σ17 eσ17 H locs hI hS => ?_)
      have hw := hw σ17 eσ17
      refine lv_iconst (v := 1) hx hb dX6_want_87 (by decide) ?_
      exact hret _ _ _ _ _ _ dX6_want_88 isB1 hw hI hS
    have hw := hw.2 hc
    refine lv_aload_n hx hb dX6_want_59 rfl (lv_at hl 0 rfl) ?_
    refine lv_iconst (v := 2) hx hb dX6_want_60 (by decide) ?_
    refine gVi (cm_X6_no l g (σ := σ2) hw) (mMv g) ⟨hx, hb, hml, hown, hts⟩ (cwV 1 hts gX6_want_X6_no rfl rfl rfl (by decide +kernel) ⟨Nat.le_of_ble_eq_true rfl, Nat.le_of_ble_eq_true rfl⟩) (mRecv_X6 hI) hI hS hl.1 rfl rfl (Nat.le_of_ble_eq_true rfl) dX6_want_61 (fun r18 σ19 H locs hw hI hS => ?_)
    exact hret _ _ _ _ _ _ dX6_want_64 hw.1 hw.2 hI hS
  have hw := hw.2 hc
  refine lv_aload_n hx hb dX6_want_18 rfl (lv_at hl 0 rfl) ?_
  refine lv_iconst (v := 1) hx hb dX6_want_19 (by decide) ?_
  refine gVi (cm_X6_no l g (σ := σ2) hw) (mMv g) ⟨hx, hb, hml, hown, hts⟩ (cwV 1 hts gX6_want_X6_no rfl rfl rfl (by decide +kernel) ⟨Nat.le_of_ble_eq_true rfl, Nat.le_of_ble_eq_true rfl⟩) (mRecv_X6 hI) hI hS hl.1 rfl rfl (Nat.le_of_ble_eq_true rfl) dX6_want_20 (fun r20 σ21 H locs hw hI hS => ?_)
  exact hret _ _ _ _ _ _ dX6_want_23 hw.1 hw.2 hI hS
set_option maxRecDepth 100000 in
set_option maxHeartbeats 4000000 in
theorem cm_X6_orders (l : Launch) (g : wG) {σ : wS} {Q : wS → Prop} (hw : wm_X6_orders Q σ) : Met l yX6_orders wsX6_orders ({ frames := 0, cells := 0, slots := 0, locals := 0 } : Room) (va_Pc [.ref (g.2.1 0)] (fun U => mIn g σ U.heap U)) (va_Qv Q (fun σ1 t => mIn g σ1 t.heap t) (mA g)) 0 0 (mA g) := by
  refine gOfV (maxL := 3) (mMv g) (by decide) rfl (Nat.le_of_ble_eq_true rfl) ?_
  intro p e s m args below meth c QQ hx hb hml hown hts hret ls hl hI
  have hl : lv_has ls 3 [(0, .ref (g.2.1 0))] := hl
  have hS : va_S (mA g) s.heap s.heap [] := va_S.rf
  have hF : ∀ w ∈ wsX60, w.before args s = true := fun w h => hts w (List.mem_cons_of_mem _ (List.mem_append_right _ h))
  refine lv_iconst (v := 0) hx hb dX6_orders_0 (by decide) ?_
  refine lv_istore_n (lv' := [(1, .int 0), (0, .ref (g.2.1 0))]) hx hb dX6_orders_1 rfl hl (by decide) rfl (fun ls hl => ?_)
  obtain ⟨n2, hw⟩ := hw
  have key2 : ∀ (n : Nat) (x1 : Int32) (σ : wS) (H : Heap) (locs : List Loc) (ls : Array Slot), mIn g σ H s → va_S (mA g) s.heap H locs → lv_has ls 3 [(0, .ref (g.2.1 0)), (1, .int x1)] → wloop (wm_X6_orders_L2 Q) n (x1, σ) → W p l e ({ frames := 0, cells := 0, slots := 0, locals := 0 } : Room) s m args below meth c H locs 0 0 QQ (F0 m 2 ls []) := by
    intro n
    induction n with
    | zero => intro x1 σ H locs ls hI hS hl hw; exact False.elim hw
    | succ n ih =>
      intro x1 σ H locs ls hI hS hl hw
      obtain ⟨K2, hK2⟩ : ∃ K, K = wloop (wm_X6_orders_L2 Q) n := ⟨_, rfl⟩
      have hw : wm_X6_orders_L2 Q K2 (x1, σ) := by rw [hK2]; exact hw
      dsimp only [wm_X6_orders_L2] at hw
      have ih2 := ih
      have j58 : ∀ (x1 : Int32) (x2 : Int32) (σ : wS) (H : Heap) (locs : List Loc) (ls : Array Slot), mIn g σ H s → va_S (mA g) s.heap H locs → lv_has ls 3 [(0, .ref (g.2.1 0)), (1, .int x1), (2, .int x2)] → wm_X6_orders_J58 Q K2 x1 x2 σ → W p l e ({ frames := 0, cells := 0, slots := 0, locals := 0 } : Room) s m args below meth c H locs 0 0 QQ (F0 m 58 ls []) := by
        intro x1 x2 σ H locs ls hI hS hl hw
        refine lv_aload_n hx hb dX6_orders_58 rfl (lv_at hl 0 rfl) ?_
        refine mG_X6_order hx hb hF hown hI (hts _ (List.mem_of_getElem? (i := 3) rfl : (Cond.fieldLink RX6 74 "PlateRoomModel" "order" "[I" : Cond) ∈ wsX6_orders)) dX6_orders_59 ?_
        refine lv_iload_n hx hb dX6_orders_62 rfl (lv_at hl 2 rfl) ?_
        refine lv_iload_n hx hb dX6_orders_63 rfl (lv_at hl 1 rfl) ?_
        have hin := hw.1
        have hw := hw.2
        refine mS_X6_order hx hb hI hS hin dX6_orders_64 (fun σ1 eσ1 H locs hI hS => ?_)
        have hw := hw σ1 eσ1
        obtain ⟨a2, ea2⟩ : ∃ y : Int32, y = x1 + 1 := ⟨_, rfl⟩
        have hw := hw a2 ea2
        refine lv_iinc (v := a2) (lv' := [(1, .int a2), (0, .ref (g.2.1 0)), (2, .int x2)]) hx hb dX6_orders_65 hl (k := 1) rfl (by rw [ea2]; rfl) (by decide) rfl (fun ls hl => ?_)
        refine lv_goto (tgt := 2) hx hb dX6_orders_68 (by decide) ?_
        rw [hK2] at hw
        exact ih2 _ _ _ _ _ hI hS (lv_sub hl [1, 0] rfl) hw
      refine lv_iload_n hx hb dX6_orders_2 rfl (lv_at hl 1 rfl) ?_
      refine lv_aload_n hx hb dX6_orders_3 rfl (lv_at hl 0 rfl) ?_
      refine mG_X6_plates hx hb hF hown hI (hts _ (List.mem_of_getElem? (i := 1) rfl : (Cond.fieldLink RX6 108 "PlateRoomModel" "plates" "I" : Cond) ∈ wsX6_orders)) dX6_orders_4 ?_
      refine lv_icmp_ge (tgt := 71) hx hb dX6_orders_7 (by decide) (fun hc => ?_) (fun hc => ?_)
      · have hw := hw.1 hc
        exact hret _ _ _ _ _ dX6_orders_71 hw hI hS
      have hw := hw.2 hc
      refine lv_iload_n hx hb dX6_orders_10 rfl (lv_at hl 1 rfl) ?_
      refine lv_istore_n (lv' := [(2, .int x1), (0, .ref (g.2.1 0)), (1, .int x1)]) hx hb dX6_orders_11 rfl hl (by decide) rfl (fun ls hl => ?_)
      obtain ⟨n12, hw⟩ := hw
      have key12 : ∀ (n : Nat) (x1 : Int32) (x2 : Int32) (σ : wS) (H : Heap) (locs : List Loc) (ls : Array Slot), mIn g σ H s → va_S (mA g) s.heap H locs → lv_has ls 3 [(0, .ref (g.2.1 0)), (1, .int x1), (2, .int x2)] → wloop (wm_X6_orders_L12 Q K2 x1) n (x2, σ) → W p l e ({ frames := 0, cells := 0, slots := 0, locals := 0 } : Room) s m args below meth c H locs 0 0 QQ (F0 m 12 ls []) := by
        intro n
        induction n with
        | zero => intro x1 x2 σ H locs ls hI hS hl hw; exact False.elim hw
        | succ n ih =>
          intro x1 x2 σ H locs ls hI hS hl hw
          obtain ⟨K12, hK12⟩ : ∃ K, K = wloop (wm_X6_orders_L12 Q K2 x1) n := ⟨_, rfl⟩
          have hw : wm_X6_orders_L12 Q K2 x1 K12 (x2, σ) := by rw [hK12]; exact hw
          dsimp only [wm_X6_orders_L12] at hw
          have ih12 := ih
          refine lv_iload_n hx hb dX6_orders_12 rfl (lv_at hl 2 rfl) ?_
          refine lv_if_le (tgt := 58) hx hb dX6_orders_13 (by decide) (fun hc => ?_) (fun hc => ?_)
          · have hw := hw.1 hc
            exact j58 _ _ _ _ _ _ hI hS (lv_sub hl [0, 1, 2] rfl) hw
          have hw := hw.2 hc
          refine lv_aload_n hx hb dX6_orders_16 rfl (lv_at hl 0 rfl) ?_
          refine mG_X6_lost hx hb hF hown hI (hts _ (List.mem_of_getElem? (i := 2) rfl : (Cond.fieldLink RX6 71 "PlateRoomModel" "lost" "[I" : Cond) ∈ wsX6_orders)) dX6_orders_17 ?_
          refine lv_aload_n hx hb dX6_orders_20 rfl (lv_at hl 0 rfl) ?_
          refine mG_X6_order hx hb hF hown hI (hts _ (List.mem_of_getElem? (i := 3) rfl : (Cond.fieldLink RX6 74 "PlateRoomModel" "order" "[I" : Cond) ∈ wsX6_orders)) dX6_orders_21 ?_
          refine lv_iload_n hx hb dX6_orders_24 rfl (lv_at hl 2 rfl) ?_
          refine lv_iconst (v := 1) hx hb dX6_orders_25 (by decide) ?_
          refine lv_isub hx hb dX6_orders_26 ?_
          have hin := hw.1
          have hw := hw.2
          refine mR_X6_order hx hb hI hin dX6_orders_27 ?_
          have hin := hw.1
          have hw := hw.2
          refine mR_X6_lost hx hb hI hin dX6_orders_28 ?_
          refine lv_aload_n hx hb dX6_orders_29 rfl (lv_at hl 0 rfl) ?_
          refine mG_X6_lost hx hb hF hown hI (hts _ (List.mem_of_getElem? (i := 2) rfl : (Cond.fieldLink RX6 71 "PlateRoomModel" "lost" "[I" : Cond) ∈ wsX6_orders)) dX6_orders_30 ?_
          refine lv_iload_n hx hb dX6_orders_33 rfl (lv_at hl 1 rfl) ?_
          have hin := hw.1
          have hw := hw.2
          refine mR_X6_lost hx hb hI hin dX6_orders_34 ?_
          refine lv_icmp_le (tgt := 58) hx hb dX6_orders_35 (by decide) (fun hc => ?_) (fun hc => ?_)
          · have hw := hw.1 hc
            exact j58 _ _ _ _ _ _ hI hS (lv_sub hl [0, 1, 2] rfl) hw
          have hw := hw.2 hc
          refine lv_aload_n hx hb dX6_orders_38 rfl (lv_at hl 0 rfl) ?_
          refine mG_X6_order hx hb hF hown hI (hts _ (List.mem_of_getElem? (i := 3) rfl : (Cond.fieldLink RX6 74 "PlateRoomModel" "order" "[I" : Cond) ∈ wsX6_orders)) dX6_orders_39 ?_
          refine lv_iload_n hx hb dX6_orders_42 rfl (lv_at hl 2 rfl) ?_
          refine lv_aload_n hx hb dX6_orders_43 rfl (lv_at hl 0 rfl) ?_
          refine mG_X6_order hx hb hF hown hI (hts _ (List.mem_of_getElem? (i := 3) rfl : (Cond.fieldLink RX6 74 "PlateRoomModel" "order" "[I" : Cond) ∈ wsX6_orders)) dX6_orders_44 ?_
          refine lv_iload_n hx hb dX6_orders_47 rfl (lv_at hl 2 rfl) ?_
          refine lv_iconst (v := 1) hx hb dX6_orders_48 (by decide) ?_
          refine lv_isub hx hb dX6_orders_49 ?_
          have hin := hw.1
          have hw := hw.2
          refine mR_X6_order hx hb hI hin dX6_orders_50 ?_
          have hin := hw.1
          have hw := hw.2
          refine mS_X6_order hx hb hI hS hin dX6_orders_51 (fun σ1 eσ1 H locs hI hS => ?_)
          have hw := hw σ1 eσ1
          obtain ⟨a2, ea2⟩ : ∃ y : Int32, y = x2 + (-1) := ⟨_, rfl⟩
          have hw := hw a2 ea2
          refine lv_iinc (v := a2) (lv' := [(2, .int a2), (0, .ref (g.2.1 0)), (1, .int x1)]) hx hb dX6_orders_52 hl (k := 2) rfl (by rw [ea2]; rfl) (by decide) rfl (fun ls hl => ?_)
          refine lv_goto (tgt := 12) hx hb dX6_orders_55 (by decide) ?_
          rw [hK12] at hw
          exact ih12 _ _ _ _ _ _ hI hS (lv_sub hl [1, 2, 0] rfl) hw
      exact key12 n12 _ _ _ _ _ _ hI hS (lv_sub hl [1, 2, 0] rfl) hw
  exact key2 n2 _ _ _ _ _ hI hS (lv_sub hl [1, 0] rfl) hw
