set_option maxRecDepth 100000 in
set_option maxHeartbeats 4000000 in
theorem cm_X6_times (l : Launch) (g : wG) {σ : wS} {x1 : Int32} {x2 : Int32} {x3 : Int32} {x4 : Int32} {Q : Int32 → wS → Prop} (hw : wm_X6_times Q x1 x2 x3 x4 σ) : Met l yX6_times wsX6_times ({ frames := 4, cells := 0, slots := 0, locals := 95 } : Room) (va_Pc [.ref (g.2.1 0), .int x1, .int x2, .int x3, .int x4] (fun U => mIn g σ U.heap U)) (va_Qi Q (fun σ1 t => mIn g σ1 t.heap t) (mA g)) 0 0 (mA g) := by
  refine gOfI (maxL := 5) (mMv g) (by decide) rfl (Nat.le_of_ble_eq_true rfl) ?_
  intro p e s m args below meth c QQ hx hb hml hown hts hret ls hl hI
  have hl : lv_has ls 5 [(0, .ref (g.2.1 0)), (1, .int x1), (2, .int x2), (3, .int x3), (4, .int x4)] := hl
  have hS : va_S (mA g) s.heap s.heap [] := va_S.rf
  have hF : ∀ w ∈ wsX60, w.before args s = true := fun w h => hts w (List.mem_cons_of_mem _ (List.mem_append_right _ h))
  refine lv_aload_n hx hb dX6_times_0 rfl (lv_at hl 0 rfl) ?_
  refine lv_iconst (v := 0) hx hb dX6_times_1 (by decide) ?_
  refine mP_X6_thrown hx hb hF hown hI hS (hts _ (List.mem_of_getElem? (i := 1) rfl : (Cond.fieldLink RX6 101 "PlateRoomModel" "thrown" "I" : Cond) ∈ wsX6_times)) dX6_times_2 (fun σ1 eσ1 H locs hI hS => ?_)
  have hw := hw σ1 eσ1
  refine lv_aload_n hx hb dX6_times_5 rfl (lv_at hl 0 rfl) ?_
  refine lv_iconst (v := 0) hx hb dX6_times_6 (by decide) ?_
  refine mP_X6_status hx hb hF hown hI hS (hts _ (List.mem_of_getElem? (i := 2) rfl : (Cond.fieldLink RX6 105 "PlateRoomModel" "status" "I" : Cond) ∈ wsX6_times)) dX6_times_7 (fun σ2 eσ2 H locs hI hS => ?_)
  have hw := hw σ2 eσ2
  refine lv_aload_n hx hb dX6_times_10 rfl (lv_at hl 0 rfl) ?_
  refine lv_iload_n hx hb dX6_times_11 rfl (lv_at hl 1 rfl) ?_
  refine gVi (cm_X6_isMotif l g (σ := σ2) hw) (mMv g) ⟨hx, hb, hml, hown, hts⟩ (cwV 1 hts gX6_times_X6_isMotif rfl rfl rfl (by decide +kernel) ⟨Nat.le_of_ble_eq_true rfl, Nat.le_of_ble_eq_true rfl⟩) (mRecv_X6 hI) hI hS hl.1 rfl rfl (Nat.le_of_ble_eq_true rfl) dX6_times_12 (fun r3 σ4 H locs hw hI hS => ?_)
  obtain ⟨hw, hq⟩ := hw
  rw [hq] at hI
  refine lv_if_eq (tgt := 43) hx hb dX6_times_15 (by decide) (fun hc => ?_) (fun hc => ?_)
  · have hw := hw.1 hc
    refine lv_aload_n hx hb dX6_times_43 rfl (lv_at hl 0 rfl) ?_
    refine lv_iconst (v := 1) hx hb dX6_times_44 (by decide) ?_
    refine gVi (cm_X6_refuse l g (σ := σ2) hw) (mMv g) ⟨hx, hb, hml, hown, hts⟩ (cwV 1 hts gX6_times_X6_refuse rfl rfl rfl (by decide +kernel) ⟨Nat.le_of_ble_eq_true rfl, Nat.le_of_ble_eq_true rfl⟩) (mRecv_X6 hI) hI hS hl.1 rfl rfl (Nat.le_of_ble_eq_true rfl) dX6_times_45 (fun r5 σ6 H locs hw hI hS => ?_)
    exact hret _ _ _ _ _ _ dX6_times_48 hw hI hS
  have hw := hw.2 hc
  refine lv_aload_n hx hb dX6_times_18 rfl (lv_at hl 0 rfl) ?_
  refine lv_iload_n hx hb dX6_times_19 rfl (lv_at hl 2 rfl) ?_
  refine lv_if_eq (tgt := 30) hx hb dX6_times_20 (by decide) (fun hc => ?_) (fun hc => ?_)
  · have hw := hw.1 hc
    refine lv_iload_n hx hb dX6_times_30 rfl (lv_at hl 1 rfl) ?_
    refine gSi (cm_X6_begins l g (σ := σ2) hw) (mMv g) ⟨hx, hb, hml, hown, hts⟩ (va_cwS 1 hts gX6_times_X6_begins rfl rfl rfl (by decide +kernel) ⟨Nat.le_of_ble_eq_true rfl, Nat.le_of_ble_eq_true rfl⟩) hI hS hl.1 rfl rfl (Nat.le_of_ble_eq_true rfl) dX6_times_31 (fun r7 σ8 H locs hw hI hS => ?_)
    obtain ⟨hw, hq⟩ := hw
    rw [hq] at hI
    refine lv_iload_n hx hb dX6_times_34 rfl (lv_at hl 3 rfl) ?_
    refine lv_iload hx hb dX6_times_35 (lv_at hl 4 rfl) ?_
    refine gVi (cm_X6_spanOf l g (σ := σ2) hw) (mMv g) ⟨hx, hb, hml, hown, hts⟩ (cwV 3 hts gX6_times_X6_spanOf rfl rfl rfl (by decide +kernel) ⟨Nat.le_of_ble_eq_true rfl, Nat.le_of_ble_eq_true rfl⟩) (mRecv_X6 hI) hI hS hl.1 rfl rfl (Nat.le_of_ble_eq_true rfl) dX6_times_37 (fun r9 σ10 H locs hw hI hS => ?_)
    refine lv_goto (tgt := 48) hx hb dX6_times_40 (by decide) ?_
    exact hret _ _ _ _ _ _ dX6_times_48 hw hI hS
  have hw := hw.2 hc
  refine lv_iload_n hx hb dX6_times_23 rfl (lv_at hl 1 rfl) ?_
  refine gSi (cm_X6_endsAt l g (σ := σ2) hw) (mMv g) ⟨hx, hb, hml, hown, hts⟩ (va_cwS 1 hts gX6_times_X6_endsAt rfl rfl rfl (by decide +kernel) ⟨Nat.le_of_ble_eq_true rfl, Nat.le_of_ble_eq_true rfl⟩) hI hS hl.1 rfl rfl (Nat.le_of_ble_eq_true rfl) dX6_times_24 (fun r11 σ12 H locs hw hI hS => ?_)
  obtain ⟨hw, hq⟩ := hw
  rw [hq] at hI
  refine lv_goto (tgt := 34) hx hb dX6_times_27 (by decide) ?_
  refine lv_iload_n hx hb dX6_times_34 rfl (lv_at hl 3 rfl) ?_
  refine lv_iload hx hb dX6_times_35 (lv_at hl 4 rfl) ?_
  refine gVi (cm_X6_spanOf l g (σ := σ2) hw) (mMv g) ⟨hx, hb, hml, hown, hts⟩ (cwV 3 hts gX6_times_X6_spanOf rfl rfl rfl (by decide +kernel) ⟨Nat.le_of_ble_eq_true rfl, Nat.le_of_ble_eq_true rfl⟩) (mRecv_X6 hI) hI hS hl.1 rfl rfl (Nat.le_of_ble_eq_true rfl) dX6_times_37 (fun r13 σ14 H locs hw hI hS => ?_)
  refine lv_goto (tgt := 48) hx hb dX6_times_40 (by decide) ?_
  exact hret _ _ _ _ _ _ dX6_times_48 hw hI hS
set_option maxRecDepth 100000 in
set_option maxHeartbeats 4000000 in
theorem cm_X6_longer (l : Launch) (g : wG) {σ : wS} {x1 : Int32} {Q : wS → Prop} (hw : wm_X6_longer Q x1 σ) : Met l yX6_longer wsX6_longer ({ frames := 1, cells := 0, slots := 0, locals := 23 } : Room) (va_Pc [.ref (g.2.1 0), .int x1] (fun U => mIn g σ U.heap U)) (va_Qv Q (fun σ1 t => mIn g σ1 t.heap t) (mA g)) 0 0 (mA g) := by
  refine gOfV (maxL := 6) (mMv g) (by decide) rfl (Nat.le_of_ble_eq_true rfl) ?_
  intro p e s m args below meth c QQ hx hb hml hown hts hret ls hl hI
  have hl : lv_has ls 6 [(0, .ref (g.2.1 0)), (1, .int x1)] := hl
  have hS : va_S (mA g) s.heap s.heap [] := va_S.rf
  have hF : ∀ w ∈ wsX60, w.before args s = true := fun w h => hts w (List.mem_cons_of_mem _ (List.mem_append_right _ h))
  refine lv_iconst (v := 0) hx hb dX6_longer_0 (by decide) ?_
  refine lv_istore_n (lv' := [(2, .int 0), (0, .ref (g.2.1 0)), (1, .int x1)]) hx hb dX6_longer_1 rfl hl (by decide) rfl (fun ls hl => ?_)
  obtain ⟨n2, hw⟩ := hw
  have key2 : ∀ (n : Nat) (x1 : Int32) (x2 : Int32) (σ : wS) (H : Heap) (locs : List Loc) (ls : Array Slot), mIn g σ H s → va_S (mA g) s.heap H locs → lv_has ls 6 [(0, .ref (g.2.1 0)), (1, .int x1), (2, .int x2)] → wloop (wm_X6_longer_L2 Q x1) n (x2, σ) → W p l e ({ frames := 1, cells := 0, slots := 0, locals := 23 } : Room) s m args below meth c H locs 0 0 QQ (F0 m 2 ls []) := by
    intro n
    induction n with
    | zero => intro x1 x2 σ H locs ls hI hS hl hw; exact False.elim hw
    | succ n ih =>
      intro x1 x2 σ H locs ls hI hS hl hw
      obtain ⟨K2, hK2⟩ : ∃ K, K = wloop (wm_X6_longer_L2 Q x1) n := ⟨_, rfl⟩
      have hw : wm_X6_longer_L2 Q x1 K2 (x2, σ) := by rw [hK2]; exact hw
      dsimp only [wm_X6_longer_L2] at hw
      have ih2 := ih
      refine lv_iload_n hx hb dX6_longer_2 rfl (lv_at hl 2 rfl) ?_
      refine lv_bipush (v := 53) hx hb dX6_longer_3 (by decide) ?_
      refine lv_icmp_ge (tgt := 23) hx hb dX6_longer_5 (by decide) (fun hc => ?_) (fun hc => ?_)
      · have hw := hw.1 hc
        refine lv_aload_n hx hb dX6_longer_23 rfl (lv_at hl 0 rfl) ?_
        refine mG_X6_bounds hx hb hF hown hI (hts _ (List.mem_of_getElem? (i := 3) rfl : (Cond.fieldLink RX6 168 "PlateRoomModel" "bounds" "I" : Cond) ∈ wsX6_longer)) dX6_longer_24 ?_
        refine lv_topi (fun a1 ea1 => ?_)
        have hw := hw a1 ea1
        refine lv_istore_n (lv' := [(2, .int a1), (0, .ref (g.2.1 0)), (1, .int x1)]) hx hb dX6_longer_27 rfl hl (by decide) rfl (fun ls hl => ?_)
        obtain ⟨n28, hw⟩ := hw
        have key28 : ∀ (n : Nat) (x1 : Int32) (x2 : Int32) (σ : wS) (H : Heap) (locs : List Loc) (ls : Array Slot), mIn g σ H s → va_S (mA g) s.heap H locs → lv_has ls 6 [(0, .ref (g.2.1 0)), (1, .int x1), (2, .int x2)] → wloop (wm_X6_longer_L28 Q x1) n (x2, σ) → W p l e ({ frames := 1, cells := 0, slots := 0, locals := 23 } : Room) s m args below meth c H locs 0 0 QQ (F0 m 28 ls []) := by
          intro n
          induction n with
          | zero => intro x1 x2 σ H locs ls hI hS hl hw; exact False.elim hw
          | succ n ih =>
            intro x1 x2 σ H locs ls hI hS hl hw
            obtain ⟨K28, hK28⟩ : ∃ K, K = wloop (wm_X6_longer_L28 Q x1) n := ⟨_, rfl⟩
            have hw : wm_X6_longer_L28 Q x1 K28 (x2, σ) := by rw [hK28]; exact hw
            dsimp only [wm_X6_longer_L28] at hw
            have ih28 := ih
            refine lv_iload_n hx hb dX6_longer_28 rfl (lv_at hl 2 rfl) ?_
            refine lv_aload_n hx hb dX6_longer_29 rfl (lv_at hl 0 rfl) ?_
            refine mG_X6_ways hx hb hF hown hI (hts _ (List.mem_of_getElem? (i := 4) rfl : (Cond.fieldLink RX6 146 "PlateRoomModel" "ways" "I" : Cond) ∈ wsX6_longer)) dX6_longer_30 ?_
            refine lv_icmp_ge (tgt := 155) hx hb dX6_longer_33 (by decide) (fun hc => ?_) (fun hc => ?_)
            · have hw := hw.1 hc
              refine lv_iconst (v := 0) hx hb dX6_longer_155 (by decide) ?_
              refine lv_istore_n (lv' := [(2, .int 0), (0, .ref (g.2.1 0)), (1, .int x1)]) hx hb dX6_longer_156 rfl hl (by decide) rfl (fun ls hl => ?_)
              obtain ⟨n157, hw⟩ := hw
              have key157 : ∀ (n : Nat) (x1 : Int32) (x2 : Int32) (σ : wS) (H : Heap) (locs : List Loc) (ls : Array Slot), mIn g σ H s → va_S (mA g) s.heap H locs → lv_has ls 6 [(0, .ref (g.2.1 0)), (1, .int x1), (2, .int x2)] → wloop (wm_X6_longer_L157 Q x1) n (x2, σ) → W p l e ({ frames := 1, cells := 0, slots := 0, locals := 23 } : Room) s m args below meth c H locs 0 0 QQ (F0 m 157 ls []) := by
                intro n
                induction n with
                | zero => intro x1 x2 σ H locs ls hI hS hl hw; exact False.elim hw
                | succ n ih =>
                  intro x1 x2 σ H locs ls hI hS hl hw
                  obtain ⟨K157, hK157⟩ : ∃ K, K = wloop (wm_X6_longer_L157 Q x1) n := ⟨_, rfl⟩
                  have hw : wm_X6_longer_L157 Q x1 K157 (x2, σ) := by rw [hK157]; exact hw
                  dsimp only [wm_X6_longer_L157] at hw
                  have ih157 := ih
                  refine lv_iload_n hx hb dX6_longer_157 rfl (lv_at hl 2 rfl) ?_
                  refine lv_bipush (v := 53) hx hb dX6_longer_158 (by decide) ?_
                  refine lv_icmp_ge (tgt := 200) hx hb dX6_longer_160 (by decide) (fun hc => ?_) (fun hc => ?_)
                  · have hw := hw.1 hc
                    exact hret _ _ _ _ _ dX6_longer_200 hw hI hS
                  have hw := hw.2 hc
                  refine lv_aload_n hx hb dX6_longer_163 rfl (lv_at hl 0 rfl) ?_
                  refine mG_X6_now hx hb hF hown hI (hts _ (List.mem_of_getElem? (i := 5) rfl : (Cond.fieldLink RX6 44 "PlateRoomModel" "now" "[J" : Cond) ∈ wsX6_longer)) dX6_longer_164 ?_
                  refine lv_bipush (v := 53) hx hb dX6_longer_167 (by decide) ?_
                  refine lv_iload_n hx hb dX6_longer_169 rfl (lv_at hl 1 rfl) ?_
                  refine lv_imul hx hb dX6_longer_170 ?_
                  refine lv_iload_n hx hb dX6_longer_171 rfl (lv_at hl 2 rfl) ?_
                  refine lv_iadd hx hb dX6_longer_172 ?_
                  refine lv_aload_n hx hb dX6_longer_173 rfl (lv_at hl 0 rfl) ?_
                  refine mG_X6_now hx hb hF hown hI (hts _ (List.mem_of_getElem? (i := 5) rfl : (Cond.fieldLink RX6 44 "PlateRoomModel" "now" "[J" : Cond) ∈ wsX6_longer)) dX6_longer_174 ?_
                  refine lv_bipush (v := 53) hx hb dX6_longer_177 (by decide) ?_
                  refine lv_iload_n hx hb dX6_longer_179 rfl (lv_at hl 1 rfl) ?_
                  refine lv_imul hx hb dX6_longer_180 ?_
                  refine lv_iload_n hx hb dX6_longer_181 rfl (lv_at hl 2 rfl) ?_
                  refine lv_iadd hx hb dX6_longer_182 ?_
                  have hin := hw.1
                  have hw := hw.2
                  refine mR_X6_now hx hb hI hin dX6_longer_183 ?_
                  refine lv_aload_n hx hb dX6_longer_184 rfl (lv_at hl 0 rfl) ?_
                  refine mG_X6_far hx hb hF hown hI (hts _ (List.mem_of_getElem? (i := 1) rfl : (Cond.fieldLink RX6 38 "PlateRoomModel" "far" "[J" : Cond) ∈ wsX6_longer)) dX6_longer_185 ?_
                  refine lv_iload_n hx hb dX6_longer_188 rfl (lv_at hl 2 rfl) ?_
                  have hin := hw.1
                  have hw := hw.2
                  refine mR_X6_far hx hb hI hin dX6_longer_189 ?_
                  refine va_mmax_long hx hb (hml.trans hl.1.symm) hown (hts _ (List.mem_of_getElem? (i := 10) rfl : (Cond.methodLink RX6 195 Lib.MathLoose.max_long.x : Cond) ∈ wsX6_longer)) (hts _ (List.mem_of_getElem? (i := 11) rfl : (Cond.static Lib.MathLoose.max_long.x : Cond) ∈ wsX6_longer)) (hts _ (List.mem_of_getElem? (i := 12) rfl : (Cond.initialized "java/lang/Math" : Cond) ∈ wsX6_longer)) (hts _ (List.mem_of_getElem? (i := 13) rfl : (Cond.code Lib.MathLoose.max_long.x Lib.MathLoose.max_long.code 4 (some .long) : Cond) ∈ wsX6_longer)) (Nat.le_of_ble_eq_true rfl) (Nat.le_of_ble_eq_true rfl) (Nat.zero_le _) (Nat.zero_le _) dX6_longer_190 ?_
                  refine lv_topl (fun m1 em1 => ?_)
                  have hw := hw m1 em1
                  have hin := hw.1
                  have hw := hw.2
                  refine mS_X6_now hx hb hI hS hin dX6_longer_193 (fun σ2 eσ2 H locs hI hS => ?_)
                  have hw := hw σ2 eσ2
                  obtain ⟨a3, ea3⟩ : ∃ y : Int32, y = x2 + 1 := ⟨_, rfl⟩
                  have hw := hw a3 ea3
                  refine lv_iinc (v := a3) (lv' := [(2, .int a3), (0, .ref (g.2.1 0)), (1, .int x1)]) hx hb dX6_longer_194 hl (k := 2) rfl (by rw [ea3]; rfl) (by decide) rfl (fun ls hl => ?_)
                  refine lv_goto (tgt := 157) hx hb dX6_longer_197 (by decide) ?_
                  rw [hK157] at hw
                  exact ih157 _ _ _ _ _ _ hI hS (lv_sub hl [1, 2, 0] rfl) hw
              exact key157 n157 _ _ _ _ _ _ hI hS (lv_sub hl [1, 2, 0] rfl) hw
            have hw := hw.2 hc
            refine lv_aload_n hx hb dX6_longer_36 rfl (lv_at hl 0 rfl) ?_
            refine mG_X6_now hx hb hF hown hI (hts _ (List.mem_of_getElem? (i := 5) rfl : (Cond.fieldLink RX6 44 "PlateRoomModel" "now" "[J" : Cond) ∈ wsX6_longer)) dX6_longer_37 ?_
            refine lv_bipush (v := 53) hx hb dX6_longer_40 (by decide) ?_
            refine lv_iload_n hx hb dX6_longer_42 rfl (lv_at hl 1 rfl) ?_
            refine lv_imul hx hb dX6_longer_43 ?_
            refine lv_aload_n hx hb dX6_longer_44 rfl (lv_at hl 0 rfl) ?_
            refine mG_X6_wayFrom hx hb hF hown hI (hts _ (List.mem_of_getElem? (i := 6) rfl : (Cond.fieldLink RX6 28 "PlateRoomModel" "wayFrom" "[I" : Cond) ∈ wsX6_longer)) dX6_longer_45 ?_
            refine lv_iload_n hx hb dX6_longer_48 rfl (lv_at hl 2 rfl) ?_
            have hin := hw.1
            have hw := hw.2
            refine mR_X6_wayFrom hx hb hI hin dX6_longer_49 ?_
            refine lv_iadd hx hb dX6_longer_50 ?_
            have hin := hw.1
            have hw := hw.2
            refine mR_X6_now hx hb hI hin dX6_longer_51 ?_
            refine lv_topl (fun a1 ea1 => ?_)
            have hw := hw a1 ea1
            refine lv_lstore_n (lv' := [(3, .long a1), (0, .ref (g.2.1 0)), (1, .int x1), (2, .int x2)]) hx hb dX6_longer_52 rfl hl (by decide) rfl (fun ls hl => ?_)
            refine lv_lload_n hx hb dX6_longer_53 rfl (lv_at hl 0 rfl) ?_
            refine lv_ldc2 (own := RX6) hx hb hown (hts _ (List.mem_of_getElem? (i := 2) rfl : (Cond.constantLong RX6 179 (-4000000000000) : Cond) ∈ wsX6_longer)) dX6_longer_54 ?_
            refine W.lcmp hx hb dX6_longer_57 ?_
            refine lv_if_ne (tgt := 64) hx hb dX6_longer_58 (by decide) (fun hc => ?_) (fun hc => ?_)
            · have hw := hw.1 (fun h => hc ((lg_cmp_eq _ _).mpr h))
              refine lv_lload_n hx hb dX6_longer_64 rfl (lv_at hl 0 rfl) ?_
              refine lv_aload_n hx hb dX6_longer_65 rfl (lv_at hl 1 rfl) ?_
              refine mG_X6_wayMore hx hb hF hown hI (hts _ (List.mem_of_getElem? (i := 7) rfl : (Cond.fieldLink RX6 34 "PlateRoomModel" "wayMore" "[J" : Cond) ∈ wsX6_longer)) dX6_longer_66 ?_
              refine lv_iload_n hx hb dX6_longer_69 rfl (lv_at hl 3 rfl) ?_
              have hin := hw.1
              have hw := hw.2
              refine mR_X6_wayMore hx hb hI hin dX6_longer_70 ?_
              refine lv_ladd hx hb dX6_longer_71 ?_
              refine lv_topl (fun a2 ea2 => ?_)
              have hw := hw a2 ea2
              refine lv_lstore_n (lv' := [(3, .long a2), (0, .ref (g.2.1 0)), (1, .int x1), (2, .int x2)]) hx hb dX6_longer_72 rfl hl (by decide) rfl (fun ls hl => ?_)
              refine lv_iconst (v := 0) hx hb dX6_longer_73 (by decide) ?_
              refine lv_istore (lv' := [(5, .int 0), (3, .long a2), (0, .ref (g.2.1 0)), (1, .int x1), (2, .int x2)]) hx hb dX6_longer_74 hl (by decide) rfl (fun ls hl => ?_)
              obtain ⟨n76, hw⟩ := hw
              have key76 : ∀ (n : Nat) (x2 : Int32) (x3 : Int64) (x5 : Int32) (σ : wS) (H : Heap) (locs : List Loc) (ls : Array Slot), mIn g σ H s → va_S (mA g) s.heap H locs → lv_has ls 6 [(0, .ref (g.2.1 0)), (1, .int x1), (2, .int x2), (3, .long x3), (5, .int x5)] → wloop (wm_X6_longer_L76 Q K28 x1 x2 x3) n (x5, σ) → W p l e ({ frames := 1, cells := 0, slots := 0, locals := 23 } : Room) s m args below meth c H locs 0 0 QQ (F0 m 76 ls []) := by
                intro n
                induction n with
                | zero => intro x2 x3 x5 σ H locs ls hI hS hl hw; exact False.elim hw
                | succ n ih =>
                  intro x2 x3 x5 σ H locs ls hI hS hl hw
                  obtain ⟨K76, hK76⟩ : ∃ K, K = wloop (wm_X6_longer_L76 Q K28 x1 x2 x3) n := ⟨_, rfl⟩
                  have hw : wm_X6_longer_L76 Q K28 x1 x2 x3 K76 (x5, σ) := by rw [hK76]; exact hw
                  dsimp only [wm_X6_longer_L76] at hw
                  have ih76 := ih
                  refine lv_iload hx hb dX6_longer_76 (lv_at hl 4 rfl) ?_
                  refine lv_bipush (v := 53) hx hb dX6_longer_78 (by decide) ?_
                  refine lv_icmp_ge (tgt := 149) hx hb dX6_longer_80 (by decide) (fun hc => ?_) (fun hc => ?_)
                  · have hw := hw.1 hc
                    obtain ⟨a1, ea1⟩ : ∃ y : Int32, y = x2 + 1 := ⟨_, rfl⟩
                    have hw := hw a1 ea1
                    refine lv_iinc (v := a1) (lv' := [(2, .int a1), (0, .ref (g.2.1 0)), (1, .int x1), (3, .long x3), (5, .int x5)]) hx hb dX6_longer_149 hl (k := 2) rfl (by rw [ea1]; rfl) (by decide) rfl (fun ls hl => ?_)
                    refine lv_goto (tgt := 28) hx hb dX6_longer_152 (by decide) ?_
                    rw [hK28] at hw
                    exact ih28 _ _ _ _ _ _ hI hS (lv_sub hl [1, 2, 0] rfl) hw
                  have hw := hw.2 hc
                  refine lv_aload_n hx hb dX6_longer_83 rfl (lv_at hl 0 rfl) ?_
                  refine mG_X6_more hx hb hF hown hI (hts _ (List.mem_of_getElem? (i := 8) rfl : (Cond.fieldLink RX6 41 "PlateRoomModel" "more" "[J" : Cond) ∈ wsX6_longer)) dX6_longer_84 ?_
                  refine lv_bipush (v := 53) hx hb dX6_longer_87 (by decide) ?_
                  refine lv_aload_n hx hb dX6_longer_89 rfl (lv_at hl 0 rfl) ?_
                  refine mG_X6_wayTo hx hb hF hown hI (hts _ (List.mem_of_getElem? (i := 9) rfl : (Cond.fieldLink RX6 31 "PlateRoomModel" "wayTo" "[I" : Cond) ∈ wsX6_longer)) dX6_longer_90 ?_
                  refine lv_iload_n hx hb dX6_longer_93 rfl (lv_at hl 2 rfl) ?_
                  have hin := hw.1
                  have hw := hw.2
                  refine mR_X6_wayTo hx hb hI hin dX6_longer_94 ?_
                  refine lv_imul hx hb dX6_longer_95 ?_
                  refine lv_iload hx hb dX6_longer_96 (lv_at hl 4 rfl) ?_
                  refine lv_iadd hx hb dX6_longer_98 ?_
                  have hin := hw.1
                  have hw := hw.2
                  refine mR_X6_more hx hb hI hin dX6_longer_99 ?_
                  refine lv_ldc2 (own := RX6) hx hb hown (hts _ (List.mem_of_getElem? (i := 2) rfl : (Cond.constantLong RX6 179 (-4000000000000) : Cond) ∈ wsX6_longer)) dX6_longer_100 ?_
                  refine W.lcmp hx hb dX6_longer_103 ?_
                  refine lv_if_eq (tgt := 143) hx hb dX6_longer_104 (by decide) (fun hc => ?_) (fun hc => ?_)
                  · have hw := hw.1 ((lg_cmp_eq _ _).mp hc)
                    obtain ⟨a2, ea2⟩ : ∃ y : Int32, y = x5 + 1 := ⟨_, rfl⟩
                    have hw := hw a2 ea2
                    refine lv_iinc (v := a2) (lv' := [(5, .int a2), (0, .ref (g.2.1 0)), (1, .int x1), (2, .int x2), (3, .long x3)]) hx hb dX6_longer_143 hl (k := 4) rfl (by rw [ea2]; rfl) (by decide) rfl (fun ls hl => ?_)
                    refine lv_goto (tgt := 76) hx hb dX6_longer_146 (by decide) ?_
                    rw [hK76] at hw
                    exact ih76 _ _ _ _ _ _ _ hI hS (lv_sub hl [1, 2, 3, 4, 0] rfl) hw
                  have hw := hw.2 (fun h => hc ((lg_cmp_eq _ _).mpr h))
                  refine lv_aload_n hx hb dX6_longer_107 rfl (lv_at hl 0 rfl) ?_
                  refine mG_X6_far hx hb hF hown hI (hts _ (List.mem_of_getElem? (i := 1) rfl : (Cond.fieldLink RX6 38 "PlateRoomModel" "far" "[J" : Cond) ∈ wsX6_longer)) dX6_longer_108 ?_
                  refine lv_iload hx hb dX6_longer_111 (lv_at hl 4 rfl) ?_
                  refine lv_aload_n hx hb dX6_longer_113 rfl (lv_at hl 0 rfl) ?_
                  refine mG_X6_far hx hb hF hown hI (hts _ (List.mem_of_getElem? (i := 1) rfl : (Cond.fieldLink RX6 38 "PlateRoomModel" "far" "[J" : Cond) ∈ wsX6_longer)) dX6_longer_114 ?_
                  refine lv_iload hx hb dX6_longer_117 (lv_at hl 4 rfl) ?_
                  have hin := hw.1
                  have hw := hw.2
                  refine mR_X6_far hx hb hI hin dX6_longer_119 ?_
                  refine lv_lload_n hx hb dX6_longer_120 rfl (lv_at hl 3 rfl) ?_
                  refine lv_aload_n hx hb dX6_longer_121 rfl (lv_at hl 0 rfl) ?_
                  refine mG_X6_more hx hb hF hown hI (hts _ (List.mem_of_getElem? (i := 8) rfl : (Cond.fieldLink RX6 41 "PlateRoomModel" "more" "[J" : Cond) ∈ wsX6_longer)) dX6_longer_122 ?_
                  refine lv_bipush (v := 53) hx hb dX6_longer_125 (by decide) ?_
                  refine lv_aload_n hx hb dX6_longer_127 rfl (lv_at hl 0 rfl) ?_
                  refine mG_X6_wayTo hx hb hF hown hI (hts _ (List.mem_of_getElem? (i := 9) rfl : (Cond.fieldLink RX6 31 "PlateRoomModel" "wayTo" "[I" : Cond) ∈ wsX6_longer)) dX6_longer_128 ?_
                  refine lv_iload_n hx hb dX6_longer_131 rfl (lv_at hl 2 rfl) ?_
                  have hin := hw.1
                  have hw := hw.2
                  refine mR_X6_wayTo hx hb hI hin dX6_longer_132 ?_
                  refine lv_imul hx hb dX6_longer_133 ?_
                  refine lv_iload hx hb dX6_longer_134 (lv_at hl 4 rfl) ?_
                  refine lv_iadd hx hb dX6_longer_136 ?_
                  have hin := hw.1
                  have hw := hw.2
                  refine mR_X6_more hx hb hI hin dX6_longer_137 ?_
                  refine lv_ladd hx hb dX6_longer_138 ?_
                  refine va_mmax_long hx hb (hml.trans hl.1.symm) hown (hts _ (List.mem_of_getElem? (i := 10) rfl : (Cond.methodLink RX6 195 Lib.MathLoose.max_long.x : Cond) ∈ wsX6_longer)) (hts _ (List.mem_of_getElem? (i := 11) rfl : (Cond.static Lib.MathLoose.max_long.x : Cond) ∈ wsX6_longer)) (hts _ (List.mem_of_getElem? (i := 12) rfl : (Cond.initialized "java/lang/Math" : Cond) ∈ wsX6_longer)) (hts _ (List.mem_of_getElem? (i := 13) rfl : (Cond.code Lib.MathLoose.max_long.x Lib.MathLoose.max_long.code 4 (some .long) : Cond) ∈ wsX6_longer)) (Nat.le_of_ble_eq_true rfl) (Nat.le_of_ble_eq_true rfl) (Nat.zero_le _) (Nat.zero_le _) dX6_longer_139 ?_
                  refine lv_topl (fun m3 em3 => ?_)
                  have hw := hw m3 em3
                  have hin := hw.1
                  have hw := hw.2
                  refine mS_X6_far hx hb hI hS hin dX6_longer_142 (fun σ4 eσ4 H locs hI hS => ?_)
                  have hw := hw σ4 eσ4
                  obtain ⟨a5, ea5⟩ : ∃ y : Int32, y = x5 + 1 := ⟨_, rfl⟩
                  have hw := hw a5 ea5
                  refine lv_iinc (v := a5) (lv' := [(5, .int a5), (0, .ref (g.2.1 0)), (1, .int x1), (2, .int x2), (3, .long x3)]) hx hb dX6_longer_143 hl (k := 4) rfl (by rw [ea5]; rfl) (by decide) rfl (fun ls hl => ?_)
                  refine lv_goto (tgt := 76) hx hb dX6_longer_146 (by decide) ?_
                  rw [hK76] at hw
                  exact ih76 _ _ _ _ _ _ _ hI hS (lv_sub hl [1, 2, 3, 4, 0] rfl) hw
              exact key76 n76 _ _ _ _ _ _ _ hI hS (lv_sub hl [2, 3, 4, 1, 0] rfl) hw
            have hw := hw.2 ((lg_cmp_eq _ _).mp hc)
            refine lv_goto (tgt := 149) hx hb dX6_longer_61 (by decide) ?_
            obtain ⟨a3, ea3⟩ : ∃ y : Int32, y = x2 + 1 := ⟨_, rfl⟩
            have hw := hw a3 ea3
            refine lv_iinc (v := a3) (lv' := [(2, .int a3), (3, .long a1), (0, .ref (g.2.1 0)), (1, .int x1)]) hx hb dX6_longer_149 hl (k := 3) rfl (by rw [ea3]; rfl) (by decide) rfl (fun ls hl => ?_)
            refine lv_goto (tgt := 28) hx hb dX6_longer_152 (by decide) ?_
            rw [hK28] at hw
            exact ih28 _ _ _ _ _ _ hI hS (lv_sub hl [2, 3, 0] rfl) hw
        exact key28 n28 _ _ _ _ _ _ hI hS (lv_sub hl [1, 2, 0] rfl) hw
      have hw := hw.2 hc
      refine lv_aload_n hx hb dX6_longer_8 rfl (lv_at hl 0 rfl) ?_
      refine mG_X6_far hx hb hF hown hI (hts _ (List.mem_of_getElem? (i := 1) rfl : (Cond.fieldLink RX6 38 "PlateRoomModel" "far" "[J" : Cond) ∈ wsX6_longer)) dX6_longer_9 ?_
      refine lv_iload_n hx hb dX6_longer_12 rfl (lv_at hl 2 rfl) ?_
      refine lv_ldc2 (own := RX6) hx hb hown (hts _ (List.mem_of_getElem? (i := 2) rfl : (Cond.constantLong RX6 179 (-4000000000000) : Cond) ∈ wsX6_longer)) dX6_longer_13 ?_
      have hin := hw.1
      have hw := hw.2
      refine mS_X6_far hx hb hI hS hin dX6_longer_16 (fun σ2 eσ2 H locs hI hS => ?_)
      have hw := hw σ2 eσ2
      obtain ⟨a3, ea3⟩ : ∃ y : Int32, y = x2 + 1 := ⟨_, rfl⟩
      have hw := hw a3 ea3
      refine lv_iinc (v := a3) (lv' := [(2, .int a3), (0, .ref (g.2.1 0)), (1, .int x1)]) hx hb dX6_longer_17 hl (k := 2) rfl (by rw [ea3]; rfl) (by decide) rfl (fun ls hl => ?_)
      refine lv_goto (tgt := 2) hx hb dX6_longer_20 (by decide) ?_
      rw [hK2] at hw
      exact ih2 _ _ _ _ _ _ hI hS (lv_sub hl [1, 2, 0] rfl) hw
  exact key2 n2 _ _ _ _ _ _ hI hS (lv_sub hl [1, 2, 0] rfl) hw
set_option maxRecDepth 100000 in
set_option maxHeartbeats 4000000 in
theorem cm_X6_quarrel (l : Launch) (g : wG) {σ : wS} {x1 : Int32} {Q : Int32 → wS → Prop} (hw : wm_X6_quarrel Q x1 σ) : Met l yX6_quarrel wsX6_quarrel ({ frames := 3, cells := 0, slots := 0, locals := 72 } : Room) (va_Pc [.ref (g.2.1 0), .int x1] (fun U => mIn g σ U.heap U)) (va_Qi Q (fun σ1 t => mIn g σ1 t.heap t) (mA g)) 0 0 (mA g) := by
  refine gOfI (maxL := 6) (mMv g) (by decide) rfl (Nat.le_of_ble_eq_true rfl) ?_
  intro p e s m args below meth c QQ hx hb hml hown hts hret ls hl hI
  have hl : lv_has ls 6 [(0, .ref (g.2.1 0)), (1, .int x1)] := hl
  have hS : va_S (mA g) s.heap s.heap [] := va_S.rf
  have hF : ∀ w ∈ wsX60, w.before args s = true := fun w h => hts w (List.mem_cons_of_mem _ (List.mem_append_right _ h))
  refine lv_aload_n hx hb dX6_quarrel_0 rfl (lv_at hl 0 rfl) ?_
  refine lv_iconst (v := 0) hx hb dX6_quarrel_1 (by decide) ?_
  refine mP_X6_thrown hx hb hF hown hI hS (hts _ (List.mem_of_getElem? (i := 1) rfl : (Cond.fieldLink RX6 101 "PlateRoomModel" "thrown" "I" : Cond) ∈ wsX6_quarrel)) dX6_quarrel_2 (fun σ1 eσ1 H locs hI hS => ?_)
  have hw := hw σ1 eσ1
  refine lv_aload_n hx hb dX6_quarrel_5 rfl (lv_at hl 0 rfl) ?_
  refine lv_iconst (v := 0) hx hb dX6_quarrel_6 (by decide) ?_
  refine mP_X6_status hx hb hF hown hI hS (hts _ (List.mem_of_getElem? (i := 2) rfl : (Cond.fieldLink RX6 105 "PlateRoomModel" "status" "I" : Cond) ∈ wsX6_quarrel)) dX6_quarrel_7 (fun σ2 eσ2 H locs hI hS => ?_)
  have hw := hw σ2 eσ2
  refine lv_iload_n hx hb dX6_quarrel_10 rfl (lv_at hl 1 rfl) ?_
  refine gSi (cm_X6_isDay l g (σ := σ2) hw) (mMv g) ⟨hx, hb, hml, hown, hts⟩ (va_cwS 1 hts gX6_quarrel_X6_isDay rfl rfl rfl (by decide +kernel) ⟨Nat.le_of_ble_eq_true rfl, Nat.le_of_ble_eq_true rfl⟩) hI hS hl.1 rfl rfl (Nat.le_of_ble_eq_true rfl) dX6_quarrel_11 (fun r3 σ4 H locs hw hI hS => ?_)
  obtain ⟨hw, hq⟩ := hw
  rw [hq] at hI
  refine lv_if_ne (tgt := 23) hx hb dX6_quarrel_14 (by decide) (fun hc => ?_) (fun hc => ?_)
  · have hw := hw.1 hc
    refine lv_aload_n hx hb dX6_quarrel_23 rfl (lv_at hl 0 rfl) ?_
    refine lv_iload_n hx hb dX6_quarrel_24 rfl (lv_at hl 1 rfl) ?_
    refine lv_iconst (v := (-1)) hx hb dX6_quarrel_25 (by decide) ?_
    refine gVv (cm_X6_net l g (σ := σ2) hw) (mMv g) ⟨hx, hb, hml, hown, hts⟩ (cwV 2 hts gX6_quarrel_X6_net rfl rfl rfl (by decide +kernel) ⟨Nat.le_of_ble_eq_true rfl, Nat.le_of_ble_eq_true rfl⟩) (mRecv_X6 hI) hI hS hl.1 rfl rfl (Nat.le_of_ble_eq_true rfl) dX6_quarrel_26 (fun σ5 H locs hw hI hS => ?_)
    refine lv_aload_n hx hb dX6_quarrel_29 rfl (lv_at hl 0 rfl) ?_
    refine lv_iconst (v := 0) hx hb dX6_quarrel_30 (by decide) ?_
    refine gVi (cm_X6_goes l g (σ := σ5) hw) (mMv g) ⟨hx, hb, hml, hown, hts⟩ (cwV 1 hts gX6_quarrel_X6_goes rfl rfl rfl (by decide +kernel) ⟨Nat.le_of_ble_eq_true rfl, Nat.le_of_ble_eq_true rfl⟩) (mRecv_X6 hI) hI hS hl.1 rfl rfl (Nat.le_of_ble_eq_true rfl) dX6_quarrel_31 (fun r6 σ7 H locs hw hI hS => ?_)
    refine lv_if_eq (tgt := 44) hx hb dX6_quarrel_34 (by decide) (fun hc => ?_) (fun hc => ?_)
    · have hw := hw.1 hc
      refine lv_aload_n hx hb dX6_quarrel_44 rfl (lv_at hl 0 rfl) ?_
      refine mG_X6_ways hx hb hF hown hI (hts _ (List.mem_of_getElem? (i := 3) rfl : (Cond.fieldLink RX6 146 "PlateRoomModel" "ways" "I" : Cond) ∈ wsX6_quarrel)) dX6_quarrel_45 ?_
      refine lv_topi (fun a8 ea8 => ?_)
      have hw := hw a8 ea8
      refine lv_istore_n (lv' := [(2, .int a8), (0, .ref (g.2.1 0)), (1, .int x1)]) hx hb dX6_quarrel_48 rfl hl (by decide) rfl (fun ls hl => ?_)
      refine lv_aload_n hx hb dX6_quarrel_49 rfl (lv_at hl 1 rfl) ?_
      refine lv_aload_n hx hb dX6_quarrel_50 rfl (lv_at hl 1 rfl) ?_
      refine mG_X6_bounds hx hb hF hown hI (hts _ (List.mem_of_getElem? (i := 4) rfl : (Cond.fieldLink RX6 168 "PlateRoomModel" "bounds" "I" : Cond) ∈ wsX6_quarrel)) dX6_quarrel_51 ?_
      refine mP_X6_ways hx hb hF hown hI hS (hts _ (List.mem_of_getElem? (i := 3) rfl : (Cond.fieldLink RX6 146 "PlateRoomModel" "ways" "I" : Cond) ∈ wsX6_quarrel)) dX6_quarrel_54 (fun σ9 eσ9 H locs hI hS => ?_)
      have hw := hw σ9 eσ9
      refine lv_iconst (v := 0) hx hb dX6_quarrel_57 (by decide) ?_
      refine lv_istore_n (lv' := [(3, .int 0), (2, .int a8), (0, .ref (g.2.1 0)), (1, .int x1)]) hx hb dX6_quarrel_58 rfl hl (by decide) rfl (fun ls hl => ?_)
      obtain ⟨n59, hw⟩ := hw
      have key59 : ∀ (n : Nat) (x2 : Int32) (x3 : Int32) (σ : wS) (H : Heap) (locs : List Loc) (ls : Array Slot), mIn g σ H s → va_S (mA g) s.heap H locs → lv_has ls 6 [(0, .ref (g.2.1 0)), (2, .int x2), (3, .int x3)] → wloop (wm_X6_quarrel_L59 Q x2) n (x3, σ) → W p l e ({ frames := 3, cells := 0, slots := 0, locals := 72 } : Room) s m args below meth c H locs 0 0 QQ (F0 m 59 ls []) := by
        intro n
        induction n with
        | zero => intro x2 x3 σ H locs ls hI hS hl hw; exact False.elim hw
        | succ n ih =>
          intro x2 x3 σ H locs ls hI hS hl hw
          obtain ⟨K59, hK59⟩ : ∃ K, K = wloop (wm_X6_quarrel_L59 Q x2) n := ⟨_, rfl⟩
          have hw : wm_X6_quarrel_L59 Q x2 K59 (x3, σ) := by rw [hK59]; exact hw
          dsimp only [wm_X6_quarrel_L59] at hw
          have ih59 := ih
          refine lv_iload_n hx hb dX6_quarrel_59 rfl (lv_at hl 2 rfl) ?_
          refine lv_bipush (v := 53) hx hb dX6_quarrel_60 (by decide) ?_
          refine lv_icmp_ge (tgt := 131) hx hb dX6_quarrel_62 (by decide) (fun hc => ?_) (fun hc => ?_)
          · have hw := hw.1 hc
            refine lv_aload_n hx hb dX6_quarrel_131 rfl (lv_at hl 0 rfl) ?_
            refine lv_iload_n hx hb dX6_quarrel_132 rfl (lv_at hl 1 rfl) ?_
            refine mP_X6_ways hx hb hF hown hI hS (hts _ (List.mem_of_getElem? (i := 3) rfl : (Cond.fieldLink RX6 146 "PlateRoomModel" "ways" "I" : Cond) ∈ wsX6_quarrel)) dX6_quarrel_133 (fun σ1 eσ1 H locs hI hS => ?_)
            have hw := hw σ1 eσ1
            refine lv_iconst (v := 1) hx hb dX6_quarrel_136 (by decide) ?_
            refine lv_istore_n (lv' := [(3, .int 1), (0, .ref (g.2.1 0)), (2, .int x2)]) hx hb dX6_quarrel_137 rfl hl (by decide) rfl (fun ls hl => ?_)
            obtain ⟨n138, hw⟩ := hw
            have key138 : ∀ (n : Nat) (x3 : Int32) (σ : wS) (H : Heap) (locs : List Loc) (ls : Array Slot), mIn g σ H s → va_S (mA g) s.heap H locs → lv_has ls 6 [(0, .ref (g.2.1 0)), (3, .int x3)] → wloop (wm_X6_quarrel_L138 Q) n (x3, σ) → W p l e ({ frames := 3, cells := 0, slots := 0, locals := 72 } : Room) s m args below meth c H locs 0 0 QQ (F0 m 138 ls []) := by
              intro n
              induction n with
              | zero => intro x3 σ H locs ls hI hS hl hw; exact False.elim hw
              | succ n ih =>
                intro x3 σ H locs ls hI hS hl hw
                obtain ⟨K138, hK138⟩ : ∃ K, K = wloop (wm_X6_quarrel_L138 Q) n := ⟨_, rfl⟩
                have hw : wm_X6_quarrel_L138 Q K138 (x3, σ) := by rw [hK138]; exact hw
                dsimp only [wm_X6_quarrel_L138] at hw
                have ih138 := ih
                refine lv_iload_n hx hb dX6_quarrel_138 rfl (lv_at hl 1 rfl) ?_
                refine lv_bipush (v := 54) hx hb dX6_quarrel_139 (by decide) ?_
                refine lv_icmp_gt (tgt := 212) hx hb dX6_quarrel_141 (by decide) (fun hc => ?_) (fun hc => ?_)
                · have hw := hw.1 hc
                  refine lv_aload_n hx hb dX6_quarrel_212 rfl (lv_at hl 0 rfl) ?_
                  refine lv_bipush (v := 6) hx hb dX6_quarrel_213 (by decide) ?_
                  refine gVi (cm_X6_refuse l g (σ := σ) hw) (mMv g) ⟨hx, hb, hml, hown, hts⟩ (cwV 1 hts gX6_quarrel_X6_refuse rfl rfl rfl (by decide +kernel) ⟨Nat.le_of_ble_eq_true rfl, Nat.le_of_ble_eq_true rfl⟩) (mRecv_X6 hI) hI hS hl.1 rfl rfl (Nat.le_of_ble_eq_true rfl) dX6_quarrel_215 (fun r1 σ2 H locs hw hI hS => ?_)
                  exact hret _ _ _ _ _ _ dX6_quarrel_218 hw hI hS
                have hw := hw.2 hc
                refine lv_iconst (v := 0) hx hb dX6_quarrel_144 (by decide) ?_
                refine lv_istore (lv' := [(4, .int 0), (0, .ref (g.2.1 0)), (3, .int x3)]) hx hb dX6_quarrel_145 hl (by decide) rfl (fun ls hl => ?_)
                refine lv_iconst (v := 0) hx hb dX6_quarrel_147 (by decide) ?_
                refine lv_istore (lv' := [(5, .int 0), (4, .int 0), (0, .ref (g.2.1 0)), (3, .int x3)]) hx hb dX6_quarrel_148 hl (by decide) rfl (fun ls hl => ?_)
                obtain ⟨n150, hw⟩ := hw
                have key150 : ∀ (n : Nat) (x3 : Int32) (x4 : Int32) (x5 : Int32) (σ : wS) (H : Heap) (locs : List Loc) (ls : Array Slot), mIn g σ H s → va_S (mA g) s.heap H locs → lv_has ls 6 [(0, .ref (g.2.1 0)), (3, .int x3), (4, .int x4), (5, .int x5)] → wloop (wm_X6_quarrel_L150 Q K138 x3) n (x4, x5, σ) → W p l e ({ frames := 3, cells := 0, slots := 0, locals := 72 } : Room) s m args below meth c H locs 0 0 QQ (F0 m 150 ls []) := by
                  intro n
                  induction n with
                  | zero => intro x3 x4 x5 σ H locs ls hI hS hl hw; exact False.elim hw
                  | succ n ih =>
                    intro x3 x4 x5 σ H locs ls hI hS hl hw
                    obtain ⟨K150, hK150⟩ : ∃ K, K = wloop (wm_X6_quarrel_L150 Q K138 x3) n := ⟨_, rfl⟩
                    have hw : wm_X6_quarrel_L150 Q K138 x3 K150 (x4, x5, σ) := by rw [hK150]; exact hw
                    dsimp only [wm_X6_quarrel_L150] at hw
                    have ih150 := ih
                    refine lv_iload hx hb dX6_quarrel_150 (lv_at hl 3 rfl) ?_
                    refine lv_bipush (v := 53) hx hb dX6_quarrel_152 (by decide) ?_
                    refine lv_icmp_ge (tgt := 199) hx hb dX6_quarrel_154 (by decide) (fun hc => ?_) (fun hc => ?_)
                    · have hw := hw.1 hc
                      refine lv_iload hx hb dX6_quarrel_199 (lv_at hl 2 rfl) ?_
                      refine lv_if_eq (tgt := 206) hx hb dX6_quarrel_201 (by decide) (fun hc => ?_) (fun hc => ?_)
                      · have hw := hw.1 hc
                        obtain ⟨a1, ea1⟩ : ∃ y : Int32, y = x3 + 1 := ⟨_, rfl⟩
                        have hw := hw a1 ea1
                        refine lv_iinc (v := a1) (lv' := [(3, .int a1), (0, .ref (g.2.1 0)), (4, .int x4), (5, .int x5)]) hx hb dX6_quarrel_206 hl (k := 1) rfl (by rw [ea1]; rfl) (by decide) rfl (fun ls hl => ?_)
                        refine lv_goto (tgt := 138) hx hb dX6_quarrel_209 (by decide) ?_
                        rw [hK138] at hw
                        exact ih138 _ _ _ _ _ hI hS (lv_sub hl [1, 0] rfl) hw
                      have hw := hw.2 hc
                      refine lv_iload_n hx hb dX6_quarrel_204 rfl (lv_at hl 1 rfl) ?_
                      exact hret _ _ _ _ _ _ dX6_quarrel_205 hw hI hS
                    have hw := hw.2 hc
                    refine lv_iload hx hb dX6_quarrel_157 (lv_at hl 2 rfl) ?_
                    refine lv_if_ne (tgt := 199) hx hb dX6_quarrel_159 (by decide) (fun hc => ?_) (fun hc => ?_)
                    · have hw := hw.1 hc
                      refine lv_iload hx hb dX6_quarrel_199 (lv_at hl 2 rfl) ?_
                      refine lv_if_eq (tgt := 206) hx hb dX6_quarrel_201 (by decide) (fun hc => ?_) (fun hc => ?_)
                      · have hw := hw.1 hc
                        obtain ⟨a2, ea2⟩ : ∃ y : Int32, y = x3 + 1 := ⟨_, rfl⟩
                        have hw := hw a2 ea2
                        refine lv_iinc (v := a2) (lv' := [(3, .int a2), (0, .ref (g.2.1 0)), (4, .int x4), (5, .int x5)]) hx hb dX6_quarrel_206 hl (k := 1) rfl (by rw [ea2]; rfl) (by decide) rfl (fun ls hl => ?_)
                        refine lv_goto (tgt := 138) hx hb dX6_quarrel_209 (by decide) ?_
                        rw [hK138] at hw
                        exact ih138 _ _ _ _ _ hI hS (lv_sub hl [1, 0] rfl) hw
                      have hw := hw.2 hc
                      refine lv_iload_n hx hb dX6_quarrel_204 rfl (lv_at hl 1 rfl) ?_
                      exact hret _ _ _ _ _ _ dX6_quarrel_205 hw hI hS
                    have hw := hw.2 hc
                    refine lv_aload_n hx hb dX6_quarrel_162 rfl (lv_at hl 0 rfl) ?_
                    refine lv_iload hx hb dX6_quarrel_163 (lv_at hl 3 rfl) ?_
                    refine gVv (cm_X6_longer l g (σ := σ) hw) (mMv g) ⟨hx, hb, hml, hown, hts⟩ (cwV 1 hts gX6_quarrel_X6_longer rfl rfl rfl (by decide +kernel) ⟨Nat.le_of_ble_eq_true rfl, Nat.le_of_ble_eq_true rfl⟩) (mRecv_X6 hI) hI hS hl.1 rfl rfl (Nat.le_of_ble_eq_true rfl) dX6_quarrel_165 (fun σ3 H locs hw hI hS => ?_)
                    refine lv_aload_n hx hb dX6_quarrel_168 rfl (lv_at hl 0 rfl) ?_
                    refine mG_X6_now hx hb hF hown hI (hts _ (List.mem_of_getElem? (i := 7) rfl : (Cond.fieldLink RX6 44 "PlateRoomModel" "now" "[J" : Cond) ∈ wsX6_quarrel)) dX6_quarrel_169 ?_
                    refine lv_bipush (v := 53) hx hb dX6_quarrel_172 (by decide) ?_
                    refine lv_iload hx hb dX6_quarrel_174 (lv_at hl 3 rfl) ?_
                    refine lv_imul hx hb dX6_quarrel_176 ?_
                    refine lv_iload hx hb dX6_quarrel_177 (lv_at hl 3 rfl) ?_
                    refine lv_iadd hx hb dX6_quarrel_179 ?_
                    have hin := hw.1
                    have hw := hw.2
                    refine mR_X6_now hx hb hI hin dX6_quarrel_180 ?_
                    refine lv_lconst (v := 0) hx hb dX6_quarrel_181 (by decide) ?_
                    refine W.lcmp hx hb dX6_quarrel_182 ?_
                    refine lv_if_le (tgt := 190) hx hb dX6_quarrel_183 (by decide) (fun hc => ?_) (fun hc => ?_)
                    · have hw := hw.1 ((lg_cmp_le _ _).mp hc)
                      refine lv_iconst (v := 0) hx hb dX6_quarrel_190 (by decide) ?_
                      refine lv_istore (lv' := [(4, .int 0), (0, .ref (g.2.1 0)), (3, .int x3), (5, .int x5)]) hx hb dX6_quarrel_191 hl (by decide) rfl (fun ls hl => ?_)
                      obtain ⟨a4, ea4⟩ : ∃ y : Int32, y = x5 + 1 := ⟨_, rfl⟩
                      have hw := hw a4 ea4
                      refine lv_iinc (v := a4) (lv' := [(5, .int a4), (4, .int 0), (0, .ref (g.2.1 0)), (3, .int x3)]) hx hb dX6_quarrel_193 hl (k := 3) rfl (by rw [ea4]; rfl) (by decide) rfl (fun ls hl => ?_)
                      refine lv_goto (tgt := 150) hx hb dX6_quarrel_196 (by decide) ?_
                      rw [hK150] at hw
                      exact ih150 _ _ _ _ _ _ _ hI hS (lv_sub hl [2, 3, 1, 0] rfl) hw
                    have hw := hw.2 (fun h => hc ((lg_cmp_le _ _).mpr h))
                    refine lv_iconst (v := 1) hx hb dX6_quarrel_186 (by decide) ?_
                    refine lv_goto (tgt := 191) hx hb dX6_quarrel_187 (by decide) ?_
                    refine lv_istore (lv' := [(4, .int 1), (0, .ref (g.2.1 0)), (3, .int x3), (5, .int x5)]) hx hb dX6_quarrel_191 hl (by decide) rfl (fun ls hl => ?_)
                    obtain ⟨a5, ea5⟩ : ∃ y : Int32, y = x5 + 1 := ⟨_, rfl⟩
                    have hw := hw a5 ea5
                    refine lv_iinc (v := a5) (lv' := [(5, .int a5), (4, .int 1), (0, .ref (g.2.1 0)), (3, .int x3)]) hx hb dX6_quarrel_193 hl (k := 3) rfl (by rw [ea5]; rfl) (by decide) rfl (fun ls hl => ?_)
                    refine lv_goto (tgt := 150) hx hb dX6_quarrel_196 (by decide) ?_
                    rw [hK150] at hw
                    exact ih150 _ _ _ _ _ _ _ hI hS (lv_sub hl [2, 3, 1, 0] rfl) hw
                exact key150 n150 _ _ _ _ _ _ _ hI hS (lv_sub hl [2, 3, 1, 0] rfl) hw
            exact key138 n138 _ _ _ _ _ hI hS (lv_sub hl [1, 0] rfl) hw
          have hw := hw.2 hc
          refine lv_aload_n hx hb dX6_quarrel_65 rfl (lv_at hl 0 rfl) ?_
          refine lv_iload_n hx hb dX6_quarrel_66 rfl (lv_at hl 2 rfl) ?_
          refine gVi (cm_X6_goes l g (σ := σ) hw) (mMv g) ⟨hx, hb, hml, hown, hts⟩ (cwV 1 hts gX6_quarrel_X6_goes rfl rfl rfl (by decide +kernel) ⟨Nat.le_of_ble_eq_true rfl, Nat.le_of_ble_eq_true rfl⟩) (mRecv_X6 hI) hI hS hl.1 rfl rfl (Nat.le_of_ble_eq_true rfl) dX6_quarrel_67 (fun r2 σ3 H locs hw hI hS => ?_)
          refine lv_pop hx hb dX6_quarrel_70 rfl ?_
          refine lv_iconst (v := 0) hx hb dX6_quarrel_71 (by decide) ?_
          refine lv_istore (lv' := [(4, .int 0), (0, .ref (g.2.1 0)), (2, .int x2), (3, .int x3)]) hx hb dX6_quarrel_72 hl (by decide) rfl (fun ls hl => ?_)
          obtain ⟨n74, hw⟩ := hw
          have key74 : ∀ (n : Nat) (x3 : Int32) (x4 : Int32) (σ : wS) (H : Heap) (locs : List Loc) (ls : Array Slot), mIn g σ H s → va_S (mA g) s.heap H locs → lv_has ls 6 [(0, .ref (g.2.1 0)), (2, .int x2), (3, .int x3), (4, .int x4)] → wloop (wm_X6_quarrel_L74 Q K59 x2 x3) n (x4, σ) → W p l e ({ frames := 3, cells := 0, slots := 0, locals := 72 } : Room) s m args below meth c H locs 0 0 QQ (F0 m 74 ls []) := by
            intro n
            induction n with
            | zero => intro x3 x4 σ H locs ls hI hS hl hw; exact False.elim hw
            | succ n ih =>
              intro x3 x4 σ H locs ls hI hS hl hw
              obtain ⟨K74, hK74⟩ : ∃ K, K = wloop (wm_X6_quarrel_L74 Q K59 x2 x3) n := ⟨_, rfl⟩
              have hw : wm_X6_quarrel_L74 Q K59 x2 x3 K74 (x4, σ) := by rw [hK74]; exact hw
              dsimp only [wm_X6_quarrel_L74] at hw
              have ih74 := ih
              refine lv_iload hx hb dX6_quarrel_74 (lv_at hl 3 rfl) ?_
              refine lv_bipush (v := 53) hx hb dX6_quarrel_76 (by decide) ?_
              refine lv_icmp_ge (tgt := 125) hx hb dX6_quarrel_78 (by decide) (fun hc => ?_) (fun hc => ?_)
              · have hw := hw.1 hc
                obtain ⟨a1, ea1⟩ : ∃ y : Int32, y = x3 + 1 := ⟨_, rfl⟩
                have hw := hw a1 ea1
                refine lv_iinc (v := a1) (lv' := [(3, .int a1), (0, .ref (g.2.1 0)), (2, .int x2), (4, .int x4)]) hx hb dX6_quarrel_125 hl (k := 2) rfl (by rw [ea1]; rfl) (by decide) rfl (fun ls hl => ?_)
                refine lv_goto (tgt := 59) hx hb dX6_quarrel_128 (by decide) ?_
                rw [hK59] at hw
                exact ih59 _ _ _ _ _ _ hI hS (lv_sub hl [1, 2, 0] rfl) hw
              have hw := hw.2 hc
              refine lv_aload_n hx hb dX6_quarrel_81 rfl (lv_at hl 0 rfl) ?_
              refine mG_X6_more hx hb hF hown hI (hts _ (List.mem_of_getElem? (i := 5) rfl : (Cond.fieldLink RX6 41 "PlateRoomModel" "more" "[J" : Cond) ∈ wsX6_quarrel)) dX6_quarrel_82 ?_
              refine lv_bipush (v := 53) hx hb dX6_quarrel_85 (by decide) ?_
              refine lv_iload_n hx hb dX6_quarrel_87 rfl (lv_at hl 2 rfl) ?_
              refine lv_imul hx hb dX6_quarrel_88 ?_
              refine lv_iload hx hb dX6_quarrel_89 (lv_at hl 3 rfl) ?_
              refine lv_iadd hx hb dX6_quarrel_91 ?_
              refine lv_aload_n hx hb dX6_quarrel_92 rfl (lv_at hl 0 rfl) ?_
              refine mG_X6_far hx hb hF hown hI (hts _ (List.mem_of_getElem? (i := 6) rfl : (Cond.fieldLink RX6 38 "PlateRoomModel" "far" "[J" : Cond) ∈ wsX6_quarrel)) dX6_quarrel_93 ?_
              refine lv_iload hx hb dX6_quarrel_96 (lv_at hl 3 rfl) ?_
              have hin := hw.1
              have hw := hw.2
              refine mR_X6_far hx hb hI hin dX6_quarrel_98 ?_
              have hin := hw.1
              have hw := hw.2
              refine mS_X6_more hx hb hI hS hin dX6_quarrel_99 (fun σ2 eσ2 H locs hI hS => ?_)
              have hw := hw σ2 eσ2
              refine lv_aload_n hx hb dX6_quarrel_100 rfl (lv_at hl 0 rfl) ?_
              refine mG_X6_now hx hb hF hown hI (hts _ (List.mem_of_getElem? (i := 7) rfl : (Cond.fieldLink RX6 44 "PlateRoomModel" "now" "[J" : Cond) ∈ wsX6_quarrel)) dX6_quarrel_101 ?_
              refine lv_bipush (v := 53) hx hb dX6_quarrel_104 (by decide) ?_
              refine lv_iload_n hx hb dX6_quarrel_106 rfl (lv_at hl 2 rfl) ?_
              refine lv_imul hx hb dX6_quarrel_107 ?_
              refine lv_iload hx hb dX6_quarrel_108 (lv_at hl 3 rfl) ?_
              refine lv_iadd hx hb dX6_quarrel_110 ?_
              refine lv_aload_n hx hb dX6_quarrel_111 rfl (lv_at hl 0 rfl) ?_
              refine mG_X6_far hx hb hF hown hI (hts _ (List.mem_of_getElem? (i := 6) rfl : (Cond.fieldLink RX6 38 "PlateRoomModel" "far" "[J" : Cond) ∈ wsX6_quarrel)) dX6_quarrel_112 ?_
              refine lv_iload hx hb dX6_quarrel_115 (lv_at hl 3 rfl) ?_
              have hin := hw.1
              have hw := hw.2
              refine mR_X6_far hx hb hI hin dX6_quarrel_117 ?_
              have hin := hw.1
              have hw := hw.2
              refine mS_X6_now hx hb hI hS hin dX6_quarrel_118 (fun σ3 eσ3 H locs hI hS => ?_)
              have hw := hw σ3 eσ3
              obtain ⟨a4, ea4⟩ : ∃ y : Int32, y = x4 + 1 := ⟨_, rfl⟩
              have hw := hw a4 ea4
              refine lv_iinc (v := a4) (lv' := [(4, .int a4), (0, .ref (g.2.1 0)), (2, .int x2), (3, .int x3)]) hx hb dX6_quarrel_119 hl (k := 3) rfl (by rw [ea4]; rfl) (by decide) rfl (fun ls hl => ?_)
              refine lv_goto (tgt := 74) hx hb dX6_quarrel_122 (by decide) ?_
              rw [hK74] at hw
              exact ih74 _ _ _ _ _ _ hI hS (lv_sub hl [1, 2, 3, 0] rfl) hw
          exact key74 n74 _ _ _ _ _ _ hI hS (lv_sub hl [1, 2, 3, 0] rfl) hw
      exact key59 n59 _ _ _ _ _ _ hI hS (lv_sub hl [2, 1, 0] rfl) hw
    have hw := hw.2 hc
    refine lv_aload_n hx hb dX6_quarrel_37 rfl (lv_at hl 0 rfl) ?_
    refine lv_bipush (v := 6) hx hb dX6_quarrel_38 (by decide) ?_
    refine gVi (cm_X6_refuse l g (σ := σ7) hw) (mMv g) ⟨hx, hb, hml, hown, hts⟩ (cwV 1 hts gX6_quarrel_X6_refuse rfl rfl rfl (by decide +kernel) ⟨Nat.le_of_ble_eq_true rfl, Nat.le_of_ble_eq_true rfl⟩) (mRecv_X6 hI) hI hS hl.1 rfl rfl (Nat.le_of_ble_eq_true rfl) dX6_quarrel_40 (fun r10 σ11 H locs hw hI hS => ?_)
    exact hret _ _ _ _ _ _ dX6_quarrel_43 hw hI hS
  have hw := hw.2 hc
  refine lv_aload_n hx hb dX6_quarrel_17 rfl (lv_at hl 0 rfl) ?_
  refine lv_iconst (v := 2) hx hb dX6_quarrel_18 (by decide) ?_
  refine gVi (cm_X6_refuse l g (σ := σ2) hw) (mMv g) ⟨hx, hb, hml, hown, hts⟩ (cwV 1 hts gX6_quarrel_X6_refuse rfl rfl rfl (by decide +kernel) ⟨Nat.le_of_ble_eq_true rfl, Nat.le_of_ble_eq_true rfl⟩) (mRecv_X6 hI) hI hS hl.1 rfl rfl (Nat.le_of_ble_eq_true rfl) dX6_quarrel_19 (fun r12 σ13 H locs hw hI hS => ?_)
  exact hret _ _ _ _ _ _ dX6_quarrel_22 hw hI hS
set_option maxRecDepth 100000 in
set_option maxHeartbeats 4000000 in
theorem cm_X6_frees (l : Launch) (g : wG) {σ : wS} {x1 : Int32} {x2 : Int32} {Q : Int32 → wS → Prop} (hw : wm_X6_frees Q x1 x2 σ) : Met l yX6_frees wsX6_frees ({ frames := 3, cells := 0, slots := 0, locals := 72 } : Room) (va_Pc [.ref (g.2.1 0), .int x1, .int x2] (fun U => mIn g σ U.heap U)) (va_Qi Q (fun σ1 t => mIn g σ1 t.heap t) (mA g)) 0 0 (mA g) := by
  refine gOfI (maxL := 3) (mMv g) (by decide) rfl (Nat.le_of_ble_eq_true rfl) ?_
  intro p e s m args below meth c QQ hx hb hml hown hts hret ls hl hI
  have hl : lv_has ls 3 [(0, .ref (g.2.1 0)), (1, .int x1), (2, .int x2)] := hl
  have hS : va_S (mA g) s.heap s.heap [] := va_S.rf
  have hF : ∀ w ∈ wsX60, w.before args s = true := fun w h => hts w (List.mem_cons_of_mem _ (List.mem_append_right _ h))
  refine lv_aload_n hx hb dX6_frees_0 rfl (lv_at hl 0 rfl) ?_
  refine lv_iconst (v := 0) hx hb dX6_frees_1 (by decide) ?_
  refine mP_X6_thrown hx hb hF hown hI hS (hts _ (List.mem_of_getElem? (i := 1) rfl : (Cond.fieldLink RX6 101 "PlateRoomModel" "thrown" "I" : Cond) ∈ wsX6_frees)) dX6_frees_2 (fun σ1 eσ1 H locs hI hS => ?_)
  have hw := hw σ1 eσ1
  refine lv_aload_n hx hb dX6_frees_5 rfl (lv_at hl 0 rfl) ?_
  refine lv_iconst (v := 0) hx hb dX6_frees_6 (by decide) ?_
  refine mP_X6_status hx hb hF hown hI hS (hts _ (List.mem_of_getElem? (i := 2) rfl : (Cond.fieldLink RX6 105 "PlateRoomModel" "status" "I" : Cond) ∈ wsX6_frees)) dX6_frees_7 (fun σ2 eσ2 H locs hI hS => ?_)
  have hw := hw σ2 eσ2
  refine lv_aload_n hx hb dX6_frees_10 rfl (lv_at hl 0 rfl) ?_
  refine lv_iload_n hx hb dX6_frees_11 rfl (lv_at hl 1 rfl) ?_
  refine gVi (cm_X6_isFact l g (σ := σ2) hw) (mMv g) ⟨hx, hb, hml, hown, hts⟩ (cwV 1 hts gX6_frees_X6_isFact rfl rfl rfl (by decide +kernel) ⟨Nat.le_of_ble_eq_true rfl, Nat.le_of_ble_eq_true rfl⟩) (mRecv_X6 hI) hI hS hl.1 rfl rfl (Nat.le_of_ble_eq_true rfl) dX6_frees_12 (fun r3 σ4 H locs hw hI hS => ?_)
  obtain ⟨hw, hq⟩ := hw
  rw [hq] at hI
  refine lv_if_ne (tgt := 24) hx hb dX6_frees_15 (by decide) (fun hc => ?_) (fun hc => ?_)
  · have hw := hw.1 hc
    refine lv_iload_n hx hb dX6_frees_24 rfl (lv_at hl 2 rfl) ?_
    refine gSi (cm_X6_isDay l g (σ := σ2) hw) (mMv g) ⟨hx, hb, hml, hown, hts⟩ (va_cwS 1 hts gX6_frees_X6_isDay rfl rfl rfl (by decide +kernel) ⟨Nat.le_of_ble_eq_true rfl, Nat.le_of_ble_eq_true rfl⟩) hI hS hl.1 rfl rfl (Nat.le_of_ble_eq_true rfl) dX6_frees_25 (fun r5 σ6 H locs hw hI hS => ?_)
    obtain ⟨hw, hq⟩ := hw
    rw [hq] at hI
    refine lv_if_ne (tgt := 37) hx hb dX6_frees_28 (by decide) (fun hc => ?_) (fun hc => ?_)
    · have hw := hw.1 hc
      refine lv_aload_n hx hb dX6_frees_37 rfl (lv_at hl 0 rfl) ?_
      refine lv_iload_n hx hb dX6_frees_38 rfl (lv_at hl 2 rfl) ?_
      refine lv_iconst (v := (-1)) hx hb dX6_frees_39 (by decide) ?_
      refine gVv (cm_X6_net l g (σ := σ2) hw) (mMv g) ⟨hx, hb, hml, hown, hts⟩ (cwV 2 hts gX6_frees_X6_net rfl rfl rfl (by decide +kernel) ⟨Nat.le_of_ble_eq_true rfl, Nat.le_of_ble_eq_true rfl⟩) (mRecv_X6 hI) hI hS hl.1 rfl rfl (Nat.le_of_ble_eq_true rfl) dX6_frees_40 (fun σ7 H locs hw hI hS => ?_)
      refine lv_aload_n hx hb dX6_frees_43 rfl (lv_at hl 0 rfl) ?_
      refine lv_iconst (v := 0) hx hb dX6_frees_44 (by decide) ?_
      refine gVi (cm_X6_goes l g (σ := σ7) hw) (mMv g) ⟨hx, hb, hml, hown, hts⟩ (cwV 1 hts gX6_frees_X6_goes rfl rfl rfl (by decide +kernel) ⟨Nat.le_of_ble_eq_true rfl, Nat.le_of_ble_eq_true rfl⟩) (mRecv_X6 hI) hI hS hl.1 rfl rfl (Nat.le_of_ble_eq_true rfl) dX6_frees_45 (fun r8 σ9 H locs hw hI hS => ?_)
      refine lv_if_eq (tgt := 58) hx hb dX6_frees_48 (by decide) (fun hc => ?_) (fun hc => ?_)
      · have hw := hw.1 hc
        refine lv_aload_n hx hb dX6_frees_58 rfl (lv_at hl 0 rfl) ?_
        refine lv_iload_n hx hb dX6_frees_59 rfl (lv_at hl 1 rfl) ?_
        refine lv_iload_n hx hb dX6_frees_60 rfl (lv_at hl 2 rfl) ?_
        refine gVi (cm_X6_isKnown l g (σ := σ9) hw) (mMv g) ⟨hx, hb, hml, hown, hts⟩ (cwV 2 hts gX6_frees_X6_isKnown rfl rfl rfl (by decide +kernel) ⟨Nat.le_of_ble_eq_true rfl, Nat.le_of_ble_eq_true rfl⟩) (mRecv_X6 hI) hI hS hl.1 rfl rfl (Nat.le_of_ble_eq_true rfl) dX6_frees_61 (fun r10 σ11 H locs hw hI hS => ?_)
        obtain ⟨hw, hq⟩ := hw
        rw [hq] at hI
        refine lv_if_ne (tgt := 74) hx hb dX6_frees_64 (by decide) (fun hc => ?_) (fun hc => ?_)
        · have hw := hw.1 hc
          refine lv_aload_n hx hb dX6_frees_74 rfl (lv_at hl 0 rfl) ?_
          refine lv_iload_n hx hb dX6_frees_75 rfl (lv_at hl 2 rfl) ?_
          refine lv_iload_n hx hb dX6_frees_76 rfl (lv_at hl 1 rfl) ?_
          refine gVv (cm_X6_net l g (σ := σ9) hw) (mMv g) ⟨hx, hb, hml, hown, hts⟩ (cwV 2 hts gX6_frees_X6_net rfl rfl rfl (by decide +kernel) ⟨Nat.le_of_ble_eq_true rfl, Nat.le_of_ble_eq_true rfl⟩) (mRecv_X6 hI) hI hS hl.1 rfl rfl (Nat.le_of_ble_eq_true rfl) dX6_frees_77 (fun σ12 H locs hw hI hS => ?_)
          refine lv_aload_n hx hb dX6_frees_80 rfl (lv_at hl 0 rfl) ?_
          refine lv_iconst (v := 0) hx hb dX6_frees_81 (by decide) ?_
          refine gVi (cm_X6_goes l g (σ := σ12) hw) (mMv g) ⟨hx, hb, hml, hown, hts⟩ (cwV 1 hts gX6_frees_X6_goes rfl rfl rfl (by decide +kernel) ⟨Nat.le_of_ble_eq_true rfl, Nat.le_of_ble_eq_true rfl⟩) (mRecv_X6 hI) hI hS hl.1 rfl rfl (Nat.le_of_ble_eq_true rfl) dX6_frees_82 (fun r13 σ14 H locs hw hI hS => ?_)
          refine lv_if_eq (tgt := 92) hx hb dX6_frees_85 (by decide) (fun hc => ?_) (fun hc => ?_)
          · have hw := hw.1 hc
            refine lv_iconst (v := 0) hx hb dX6_frees_92 (by decide) ?_
            exact hret _ _ _ _ _ _ dX6_frees_93 hw hI hS
          have hw := hw.2 hc
          refine lv_iconst (v := 1) hx hb dX6_frees_88 (by decide) ?_
          refine lv_goto (tgt := 93) hx hb dX6_frees_89 (by decide) ?_
          exact hret _ _ _ _ _ _ dX6_frees_93 hw hI hS
        have hw := hw.2 hc
        refine lv_aload_n hx hb dX6_frees_67 rfl (lv_at hl 0 rfl) ?_
        refine lv_bipush (v := 8) hx hb dX6_frees_68 (by decide) ?_
        refine gVi (cm_X6_refuse l g (σ := σ9) hw) (mMv g) ⟨hx, hb, hml, hown, hts⟩ (cwV 1 hts gX6_frees_X6_refuse rfl rfl rfl (by decide +kernel) ⟨Nat.le_of_ble_eq_true rfl, Nat.le_of_ble_eq_true rfl⟩) (mRecv_X6 hI) hI hS hl.1 rfl rfl (Nat.le_of_ble_eq_true rfl) dX6_frees_70 (fun r15 σ16 H locs hw hI hS => ?_)
        exact hret _ _ _ _ _ _ dX6_frees_73 hw hI hS
      have hw := hw.2 hc
      refine lv_aload_n hx hb dX6_frees_51 rfl (lv_at hl 0 rfl) ?_
      refine lv_bipush (v := 6) hx hb dX6_frees_52 (by decide) ?_
      refine gVi (cm_X6_refuse l g (σ := σ9) hw) (mMv g) ⟨hx, hb, hml, hown, hts⟩ (cwV 1 hts gX6_frees_X6_refuse rfl rfl rfl (by decide +kernel) ⟨Nat.le_of_ble_eq_true rfl, Nat.le_of_ble_eq_true rfl⟩) (mRecv_X6 hI) hI hS hl.1 rfl rfl (Nat.le_of_ble_eq_true rfl) dX6_frees_54 (fun r17 σ18 H locs hw hI hS => ?_)
      exact hret _ _ _ _ _ _ dX6_frees_57 hw hI hS
    have hw := hw.2 hc
    refine lv_aload_n hx hb dX6_frees_31 rfl (lv_at hl 0 rfl) ?_
    refine lv_iconst (v := 2) hx hb dX6_frees_32 (by decide) ?_
    refine gVi (cm_X6_refuse l g (σ := σ2) hw) (mMv g) ⟨hx, hb, hml, hown, hts⟩ (cwV 1 hts gX6_frees_X6_refuse rfl rfl rfl (by decide +kernel) ⟨Nat.le_of_ble_eq_true rfl, Nat.le_of_ble_eq_true rfl⟩) (mRecv_X6 hI) hI hS hl.1 rfl rfl (Nat.le_of_ble_eq_true rfl) dX6_frees_33 (fun r19 σ20 H locs hw hI hS => ?_)
    exact hret _ _ _ _ _ _ dX6_frees_36 hw hI hS
  have hw := hw.2 hc
  refine lv_aload_n hx hb dX6_frees_18 rfl (lv_at hl 0 rfl) ?_
  refine lv_iconst (v := 1) hx hb dX6_frees_19 (by decide) ?_
  refine gVi (cm_X6_refuse l g (σ := σ2) hw) (mMv g) ⟨hx, hb, hml, hown, hts⟩ (cwV 1 hts gX6_frees_X6_refuse rfl rfl rfl (by decide +kernel) ⟨Nat.le_of_ble_eq_true rfl, Nat.le_of_ble_eq_true rfl⟩) (mRecv_X6 hI) hI hS hl.1 rfl rfl (Nat.le_of_ble_eq_true rfl) dX6_frees_20 (fun r21 σ22 H locs hw hI hS => ?_)
  exact hret _ _ _ _ _ _ dX6_frees_23 hw hI hS
