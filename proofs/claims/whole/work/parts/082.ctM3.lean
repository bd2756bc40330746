set_option maxRecDepth 100000 in
set_option maxHeartbeats 4000000 in
theorem cm_X6_net (l : Launch) (g : wG) {σ : wS} {x1 : Int32} {x2 : Int32} {Q : wS → Prop} (hw : wm_X6_net Q x1 x2 σ) : Met l yX6_net wsX6_net ({ frames := 2, cells := 0, slots := 0, locals := 47 } : Room) (va_Pc [.ref (g.2.1 0), .int x1, .int x2] (fun U => mIn g σ U.heap U)) (va_Qv Q (fun σ1 t => mIn g σ1 t.heap t) (mA g)) 0 0 (mA g) := by
  refine gOfV (maxL := 6) (mMv g) (by decide) rfl (Nat.le_of_ble_eq_true rfl) ?_
  intro p e s m args below meth c QQ hx hb hml hown hts hret ls hl hI
  have hl : lv_has ls 6 [(0, .ref (g.2.1 0)), (1, .int x1), (2, .int x2)] := hl
  have hS : va_S (mA g) s.heap s.heap [] := va_S.rf
  have hF : ∀ w ∈ wsX60, w.before args s = true := fun w h => hts w (List.mem_cons_of_mem _ (List.mem_append_right _ h))
  refine lv_aload_n hx hb dX6_net_0 rfl (lv_at hl 0 rfl) ?_
  refine lv_iconst (v := 0) hx hb dX6_net_1 (by decide) ?_
  refine mP_X6_ways hx hb hF hown hI hS (hts _ (List.mem_of_getElem? (i := 1) rfl : (Cond.fieldLink RX6 146 "PlateRoomModel" "ways" "I" : Cond) ∈ wsX6_net)) dX6_net_2 (fun σ1 eσ1 H locs hI hS => ?_)
  have hw := hw σ1 eσ1
  refine lv_iconst (v := 0) hx hb dX6_net_5 (by decide) ?_
  refine lv_istore_n (lv' := [(3, .int 0), (0, .ref (g.2.1 0)), (1, .int x1), (2, .int x2)]) hx hb dX6_net_6 rfl hl (by decide) rfl (fun ls hl => ?_)
  obtain ⟨n7, hw⟩ := hw
  have key7 : ∀ (n : Nat) (x1 : Int32) (x2 : Int32) (x3 : Int32) (σ : wS) (H : Heap) (locs : List Loc) (ls : Array Slot), mIn g σ H s → va_S (mA g) s.heap H locs → lv_has ls 6 [(0, .ref (g.2.1 0)), (1, .int x1), (2, .int x2), (3, .int x3)] → wloop (wm_X6_net_L7 Q x1 x2) n (x3, σ) → W p l e ({ frames := 2, cells := 0, slots := 0, locals := 47 } : Room) s m args below meth c H locs 0 0 QQ (F0 m 7 ls []) := by
    intro n
    induction n with
    | zero => intro x1 x2 x3 σ H locs ls hI hS hl hw; exact False.elim hw
    | succ n ih =>
      intro x1 x2 x3 σ H locs ls hI hS hl hw
      obtain ⟨K7, hK7⟩ : ∃ K, K = wloop (wm_X6_net_L7 Q x1 x2) n := ⟨_, rfl⟩
      have hw : wm_X6_net_L7 Q x1 x2 K7 (x3, σ) := by rw [hK7]; exact hw
      dsimp only [wm_X6_net_L7] at hw
      have ih7 := ih
      refine lv_iload_n hx hb dX6_net_7 rfl (lv_at hl 3 rfl) ?_
      refine lv_aload_n hx hb dX6_net_8 rfl (lv_at hl 0 rfl) ?_
      refine mG_X6_plates hx hb hF hown hI (hts _ (List.mem_of_getElem? (i := 2) rfl : (Cond.fieldLink RX6 108 "PlateRoomModel" "plates" "I" : Cond) ∈ wsX6_net)) dX6_net_9 ?_
      refine lv_icmp_ge (tgt := 29) hx hb dX6_net_12 (by decide) (fun hc => ?_) (fun hc => ?_)
      · have hw := hw.1 hc
        refine lv_iconst (v := 0) hx hb dX6_net_29 (by decide) ?_
        refine lv_istore_n (lv' := [(3, .int 0), (0, .ref (g.2.1 0)), (1, .int x1), (2, .int x2)]) hx hb dX6_net_30 rfl hl (by decide) rfl (fun ls hl => ?_)
        obtain ⟨n31, hw⟩ := hw
        have key31 : ∀ (n : Nat) (x1 : Int32) (x2 : Int32) (x3 : Int32) (σ : wS) (H : Heap) (locs : List Loc) (ls : Array Slot), mIn g σ H s → va_S (mA g) s.heap H locs → lv_has ls 6 [(0, .ref (g.2.1 0)), (1, .int x1), (2, .int x2), (3, .int x3)] → wloop (wm_X6_net_L31 Q x1 x2) n (x3, σ) → W p l e ({ frames := 2, cells := 0, slots := 0, locals := 47 } : Room) s m args below meth c H locs 0 0 QQ (F0 m 31 ls []) := by
          intro n
          induction n with
          | zero => intro x1 x2 x3 σ H locs ls hI hS hl hw; exact False.elim hw
          | succ n ih =>
            intro x1 x2 x3 σ H locs ls hI hS hl hw
            obtain ⟨K31, hK31⟩ : ∃ K, K = wloop (wm_X6_net_L31 Q x1 x2) n := ⟨_, rfl⟩
            have hw : wm_X6_net_L31 Q x1 x2 K31 (x3, σ) := by rw [hK31]; exact hw
            dsimp only [wm_X6_net_L31] at hw
            have ih31 := ih
            refine lv_iload_n hx hb dX6_net_31 rfl (lv_at hl 3 rfl) ?_
            refine lv_aload_n hx hb dX6_net_32 rfl (lv_at hl 0 rfl) ?_
            refine mG_X6_motifs hx hb hF hown hI (hts _ (List.mem_of_getElem? (i := 3) rfl : (Cond.fieldLink RX6 111 "PlateRoomModel" "motifs" "I" : Cond) ∈ wsX6_net)) dX6_net_33 ?_
            refine lv_icmp_ge (tgt := 74) hx hb dX6_net_36 (by decide) (fun hc => ?_) (fun hc => ?_)
            · have hw := hw.1 hc
              refine lv_aload_n hx hb dX6_net_74 rfl (lv_at hl 0 rfl) ?_
              refine lv_aload_n hx hb dX6_net_75 rfl (lv_at hl 0 rfl) ?_
              refine mG_X6_ways hx hb hF hown hI (hts _ (List.mem_of_getElem? (i := 1) rfl : (Cond.fieldLink RX6 146 "PlateRoomModel" "ways" "I" : Cond) ∈ wsX6_net)) dX6_net_76 ?_
              refine mP_X6_bounds hx hb hF hown hI hS (hts _ (List.mem_of_getElem? (i := 4) rfl : (Cond.fieldLink RX6 168 "PlateRoomModel" "bounds" "I" : Cond) ∈ wsX6_net)) dX6_net_79 (fun σ1 eσ1 H locs hI hS => ?_)
              have hw := hw σ1 eσ1
              refine lv_iconst (v := 0) hx hb dX6_net_82 (by decide) ?_
              refine lv_istore_n (lv' := [(3, .int 0), (0, .ref (g.2.1 0)), (1, .int x1), (2, .int x2)]) hx hb dX6_net_83 rfl hl (by decide) rfl (fun ls hl => ?_)
              obtain ⟨n84, hw⟩ := hw
              have key84 : ∀ (n : Nat) (x1 : Int32) (x2 : Int32) (x3 : Int32) (σ : wS) (H : Heap) (locs : List Loc) (ls : Array Slot), mIn g σ H s → va_S (mA g) s.heap H locs → lv_has ls 6 [(0, .ref (g.2.1 0)), (1, .int x1), (2, .int x2), (3, .int x3)] → wloop (wm_X6_net_L84 Q x1 x2) n (x3, σ) → W p l e ({ frames := 2, cells := 0, slots := 0, locals := 47 } : Room) s m args below meth c H locs 0 0 QQ (F0 m 84 ls []) := by
                intro n
                induction n with
                | zero => intro x1 x2 x3 σ H locs ls hI hS hl hw; exact False.elim hw
                | succ n ih =>
                  intro x1 x2 x3 σ H locs ls hI hS hl hw
                  obtain ⟨K84, hK84⟩ : ∃ K, K = wloop (wm_X6_net_L84 Q x1 x2) n := ⟨_, rfl⟩
                  have hw : wm_X6_net_L84 Q x1 x2 K84 (x3, σ) := by rw [hK84]; exact hw
                  dsimp only [wm_X6_net_L84] at hw
                  have ih84 := ih
                  refine lv_iload_n hx hb dX6_net_84 rfl (lv_at hl 3 rfl) ?_
                  refine lv_aload_n hx hb dX6_net_85 rfl (lv_at hl 0 rfl) ?_
                  refine mG_X6_facts hx hb hF hown hI (hts _ (List.mem_of_getElem? (i := 5) rfl : (Cond.fieldLink RX6 119 "PlateRoomModel" "facts" "I" : Cond) ∈ wsX6_net)) dX6_net_86 ?_
                  refine lv_icmp_ge (tgt := 317) hx hb dX6_net_89 (by decide) (fun hc => ?_) (fun hc => ?_)
                  · have hw := hw.1 hc
                    exact hret _ _ _ _ _ dX6_net_317 hw hI hS
                  have hw := hw.2 hc
                  refine lv_aload_n hx hb dX6_net_92 rfl (lv_at hl 0 rfl) ?_
                  refine lv_iload_n hx hb dX6_net_93 rfl (lv_at hl 3 rfl) ?_
                  refine lv_iload_n hx hb dX6_net_94 rfl (lv_at hl 1 rfl) ?_
                  refine gVi (cm_X6_isKnown l g (σ := σ) hw) (mMv g) ⟨hx, hb, hml, hown, hts⟩ (cwV 2 hts gX6_net_X6_isKnown rfl rfl rfl (by decide +kernel) ⟨Nat.le_of_ble_eq_true rfl, Nat.le_of_ble_eq_true rfl⟩) (mRecv_X6 hI) hI hS hl.1 rfl rfl (Nat.le_of_ble_eq_true rfl) dX6_net_95 (fun r1 σ2 H locs hw hI hS => ?_)
                  obtain ⟨hw, hq⟩ := hw
                  rw [hq] at hI
                  refine lv_if_eq (tgt := 311) hx hb dX6_net_98 (by decide) (fun hc => ?_) (fun hc => ?_)
                  · have hw := hw.1 hc
                    obtain ⟨a3, ea3⟩ : ∃ y : Int32, y = x3 + 1 := ⟨_, rfl⟩
                    have hw := hw a3 ea3
                    refine lv_iinc (v := a3) (lv' := [(3, .int a3), (0, .ref (g.2.1 0)), (1, .int x1), (2, .int x2)]) hx hb dX6_net_311 hl (k := 3) rfl (by rw [ea3]; rfl) (by decide) rfl (fun ls hl => ?_)
                    refine lv_goto (tgt := 84) hx hb dX6_net_314 (by decide) ?_
                    rw [hK84] at hw
                    exact ih84 _ _ _ _ _ _ _ hI hS (lv_sub hl [1, 2, 3, 0] rfl) hw
                  have hw := hw.2 hc
                  refine lv_iload_n hx hb dX6_net_101 rfl (lv_at hl 3 rfl) ?_
                  refine lv_iload_n hx hb dX6_net_102 rfl (lv_at hl 2 rfl) ?_
                  refine lv_icmp_ne (tgt := 109) hx hb dX6_net_103 (by decide) (fun hc => ?_) (fun hc => ?_)
                  · have hw := hw.1 hc
                    refine lv_aload_n hx hb dX6_net_109 rfl (lv_at hl 0 rfl) ?_
                    refine mG_X6_first hx hb hF hown hI (hts _ (List.mem_of_getElem? (i := 6) rfl : (Cond.fieldLink RX6 13 "PlateRoomModel" "first" "[I" : Cond) ∈ wsX6_net)) dX6_net_110 ?_
                    refine lv_iload_n hx hb dX6_net_113 rfl (lv_at hl 3 rfl) ?_
                    have hin := hw.1
                    have hw := hw.2
                    refine mR_X6_first hx hb hI hin dX6_net_114 ?_
                    refine lv_topi (fun a4 ea4 => ?_)
                    have hw := hw a4 ea4
                    refine lv_istore (lv' := [(4, .int a4), (0, .ref (g.2.1 0)), (1, .int x1), (2, .int x2), (3, .int x3)]) hx hb dX6_net_115 hl (by decide) rfl (fun ls hl => ?_)
                    refine lv_aload_n hx hb dX6_net_117 rfl (lv_at hl 1 rfl) ?_
                    refine mG_X6_second hx hb hF hown hI (hts _ (List.mem_of_getElem? (i := 7) rfl : (Cond.fieldLink RX6 16 "PlateRoomModel" "second" "[I" : Cond) ∈ wsX6_net)) dX6_net_118 ?_
                    refine lv_iload_n hx hb dX6_net_121 rfl (lv_at hl 4 rfl) ?_
                    have hin := hw.1
                    have hw := hw.2
                    refine mR_X6_second hx hb hI hin dX6_net_122 ?_
                    refine lv_topi (fun a5 ea5 => ?_)
                    have hw := hw a5 ea5
                    refine lv_istore (lv' := [(5, .int a5), (4, .int a4), (0, .ref (g.2.1 0)), (1, .int x1), (2, .int x2), (3, .int x3)]) hx hb dX6_net_123 hl (by decide) rfl (fun ls hl => ?_)
                    refine lv_aload_n hx hb dX6_net_125 rfl (lv_at hl 2 rfl) ?_
                    refine mG_X6_kind hx hb hF hown hI (hts _ (List.mem_of_getElem? (i := 8) rfl : (Cond.fieldLink RX6 7 "PlateRoomModel" "kind" "[I" : Cond) ∈ wsX6_net)) dX6_net_126 ?_
                    refine lv_iload_n hx hb dX6_net_129 rfl (lv_at hl 5 rfl) ?_
                    have hin := hw.1
                    have hw := hw.2
                    refine mR_X6_kind hx hb hI hin dX6_net_130 ?_
                    by_cases q0 : (aI σ 0 x3) = 0
                    · have hw := hw.1 q0
                      refine lv_tableIn (tgt := 164) hx hb dX6_net_131 (by rw [q0]; decide) (by rw [q0]; decide) (by rw [q0]; rfl) (by decide) ?_
                      refine lv_aload_n hx hb dX6_net_164 rfl (lv_at hl 2 rfl) ?_
                      refine lv_iload hx hb dX6_net_165 (lv_at hl 0 rfl) ?_
                      refine gSi (cm_X6_begins l g (σ := σ) hw) (mMv g) ⟨hx, hb, hml, hown, hts⟩ (va_cwS 1 hts gX6_net_X6_begins rfl rfl rfl (by decide +kernel) ⟨Nat.le_of_ble_eq_true rfl, Nat.le_of_ble_eq_true rfl⟩) hI hS hl.1 rfl rfl (Nat.le_of_ble_eq_true rfl) dX6_net_167 (fun r6 σ7 H locs hw hI hS => ?_)
                      obtain ⟨hw, hq⟩ := hw
                      rw [hq] at hI
                      refine lv_iload hx hb dX6_net_170 (lv_at hl 1 rfl) ?_
                      refine gSi (cm_X6_placeOf l g (σ := σ) hw) (mMv g) ⟨hx, hb, hml, hown, hts⟩ (va_cwS 1 hts gX6_net_X6_placeOf rfl rfl rfl (by decide +kernel) ⟨Nat.le_of_ble_eq_true rfl, Nat.le_of_ble_eq_true rfl⟩) hI hS hl.1 rfl rfl (Nat.le_of_ble_eq_true rfl) dX6_net_172 (fun r8 σ9 H locs hw hI hS => ?_)
                      obtain ⟨hw, hq⟩ := hw
                      rw [hq] at hI
                      refine lv_lconst (v := 0) hx hb dX6_net_175 (by decide) ?_
                      refine gVv (cm_X6_way l g (σ := σ) hw) (mMv g) ⟨hx, hb, hml, hown, hts⟩ (cwV 3 hts gX6_net_X6_way rfl rfl rfl (by decide +kernel) ⟨Nat.le_of_ble_eq_true rfl, Nat.le_of_ble_eq_true rfl⟩) (mRecv_X6 hI) hI hS hl.1 rfl rfl (Nat.le_of_ble_eq_true rfl) dX6_net_176 (fun σ10 H locs hw hI hS => ?_)
                      refine lv_aload_n hx hb dX6_net_179 rfl (lv_at hl 2 rfl) ?_
                      refine lv_iload hx hb dX6_net_180 (lv_at hl 1 rfl) ?_
                      refine gSi (cm_X6_placeOf l g (σ := σ10) hw) (mMv g) ⟨hx, hb, hml, hown, hts⟩ (va_cwS 1 hts gX6_net_X6_placeOf rfl rfl rfl (by decide +kernel) ⟨Nat.le_of_ble_eq_true rfl, Nat.le_of_ble_eq_true rfl⟩) hI hS hl.1 rfl rfl (Nat.le_of_ble_eq_true rfl) dX6_net_182 (fun r11 σ12 H locs hw hI hS => ?_)
                      obtain ⟨hw, hq⟩ := hw
                      rw [hq] at hI
                      refine lv_iload hx hb dX6_net_185 (lv_at hl 0 rfl) ?_
                      refine gSi (cm_X6_endsAt l g (σ := σ10) hw) (mMv g) ⟨hx, hb, hml, hown, hts⟩ (va_cwS 1 hts gX6_net_X6_endsAt rfl rfl rfl (by decide +kernel) ⟨Nat.le_of_ble_eq_true rfl, Nat.le_of_ble_eq_true rfl⟩) hI hS hl.1 rfl rfl (Nat.le_of_ble_eq_true rfl) dX6_net_187 (fun r13 σ14 H locs hw hI hS => ?_)
                      obtain ⟨hw, hq⟩ := hw
                      rw [hq] at hI
                      refine lv_lconst (v := 0) hx hb dX6_net_190 (by decide) ?_
                      refine gVv (cm_X6_way l g (σ := σ10) hw) (mMv g) ⟨hx, hb, hml, hown, hts⟩ (cwV 3 hts gX6_net_X6_way rfl rfl rfl (by decide +kernel) ⟨Nat.le_of_ble_eq_true rfl, Nat.le_of_ble_eq_true rfl⟩) (mRecv_X6 hI) hI hS hl.1 rfl rfl (Nat.le_of_ble_eq_true rfl) dX6_net_191 (fun σ15 H locs hw hI hS => ?_)
                      refine lv_goto (tgt := 311) hx hb dX6_net_194 (by decide) ?_
                      obtain ⟨a16, ea16⟩ : ∃ y : Int32, y = x3 + 1 := ⟨_, rfl⟩
                      have hw := hw a16 ea16
                      refine lv_iinc (v := a16) (lv' := [(3, .int a16), (5, .int a5), (4, .int a4), (0, .ref (g.2.1 0)), (1, .int x1), (2, .int x2)]) hx hb dX6_net_311 hl (k := 5) rfl (by rw [ea16]; rfl) (by decide) rfl (fun ls hl => ?_)
                      refine lv_goto (tgt := 84) hx hb dX6_net_314 (by decide) ?_
                      rw [hK84] at hw
                      exact ih84 _ _ _ _ _ _ _ hI hS (lv_sub hl [3, 4, 5, 0] rfl) hw
                    have hw := hw.2
                    by_cases q1 : (aI σ 0 x3) = 1
                    · have hw := hw.1 q1
                      refine lv_tableIn (tgt := 197) hx hb dX6_net_131 (by rw [q1]; decide) (by rw [q1]; decide) (by rw [q1]; rfl) (by decide) ?_
                      refine lv_aload_n hx hb dX6_net_197 rfl (lv_at hl 2 rfl) ?_
                      refine lv_iload hx hb dX6_net_198 (lv_at hl 1 rfl) ?_
                      refine gSi (cm_X6_placeOf l g (σ := σ) hw) (mMv g) ⟨hx, hb, hml, hown, hts⟩ (va_cwS 1 hts gX6_net_X6_placeOf rfl rfl rfl (by decide +kernel) ⟨Nat.le_of_ble_eq_true rfl, Nat.le_of_ble_eq_true rfl⟩) hI hS hl.1 rfl rfl (Nat.le_of_ble_eq_true rfl) dX6_net_200 (fun r17 σ18 H locs hw hI hS => ?_)
                      obtain ⟨hw, hq⟩ := hw
                      rw [hq] at hI
                      refine lv_iload hx hb dX6_net_203 (lv_at hl 0 rfl) ?_
                      refine gSi (cm_X6_placeOf l g (σ := σ) hw) (mMv g) ⟨hx, hb, hml, hown, hts⟩ (va_cwS 1 hts gX6_net_X6_placeOf rfl rfl rfl (by decide +kernel) ⟨Nat.le_of_ble_eq_true rfl, Nat.le_of_ble_eq_true rfl⟩) hI hS hl.1 rfl rfl (Nat.le_of_ble_eq_true rfl) dX6_net_205 (fun r19 σ20 H locs hw hI hS => ?_)
                      obtain ⟨hw, hq⟩ := hw
                      rw [hq] at hI
                      refine lv_aload_n hx hb dX6_net_208 rfl (lv_at hl 2 rfl) ?_
                      refine mG_X6_third hx hb hF hown hI (hts _ (List.mem_of_getElem? (i := 9) rfl : (Cond.fieldLink RX6 19 "PlateRoomModel" "third" "[I" : Cond) ∈ wsX6_net)) dX6_net_209 ?_
                      refine lv_iload_n hx hb dX6_net_212 rfl (lv_at hl 5 rfl) ?_
                      have hin := hw.1
                      have hw := hw.2
                      refine mR_X6_third hx hb hI hin dX6_net_213 ?_
                      refine lv_i2l hx hb dX6_net_214 rfl ?_
                      refine gVv (cm_X6_way l g (σ := σ) hw) (mMv g) ⟨hx, hb, hml, hown, hts⟩ (cwV 3 hts gX6_net_X6_way rfl rfl rfl (by decide +kernel) ⟨Nat.le_of_ble_eq_true rfl, Nat.le_of_ble_eq_true rfl⟩) (mRecv_X6 hI) hI hS hl.1 rfl rfl (Nat.le_of_ble_eq_true rfl) dX6_net_215 (fun σ21 H locs hw hI hS => ?_)
                      refine lv_goto (tgt := 311) hx hb dX6_net_218 (by decide) ?_
                      obtain ⟨a22, ea22⟩ : ∃ y : Int32, y = x3 + 1 := ⟨_, rfl⟩
                      have hw := hw a22 ea22
                      refine lv_iinc (v := a22) (lv' := [(3, .int a22), (5, .int a5), (4, .int a4), (0, .ref (g.2.1 0)), (1, .int x1), (2, .int x2)]) hx hb dX6_net_311 hl (k := 5) rfl (by rw [ea22]; rfl) (by decide) rfl (fun ls hl => ?_)
                      refine lv_goto (tgt := 84) hx hb dX6_net_314 (by decide) ?_
                      rw [hK84] at hw
                      exact ih84 _ _ _ _ _ _ _ hI hS (lv_sub hl [3, 4, 5, 0] rfl) hw
                    have hw := hw.2
                    by_cases q2 : (aI σ 0 x3) = 2
                    · have hw := hw.1 q2
                      refine lv_tableIn (tgt := 221) hx hb dX6_net_131 (by rw [q2]; decide) (by rw [q2]; decide) (by rw [q2]; rfl) (by decide) ?_
                      refine lv_aload_n hx hb dX6_net_221 rfl (lv_at hl 2 rfl) ?_
                      refine lv_iload hx hb dX6_net_222 (lv_at hl 1 rfl) ?_
                      refine gSi (cm_X6_placeOf l g (σ := σ) hw) (mMv g) ⟨hx, hb, hml, hown, hts⟩ (va_cwS 1 hts gX6_net_X6_placeOf rfl rfl rfl (by decide +kernel) ⟨Nat.le_of_ble_eq_true rfl, Nat.le_of_ble_eq_true rfl⟩) hI hS hl.1 rfl rfl (Nat.le_of_ble_eq_true rfl) dX6_net_224 (fun r23 σ24 H locs hw hI hS => ?_)
                      obtain ⟨hw, hq⟩ := hw
                      rw [hq] at hI
                      refine lv_iload hx hb dX6_net_227 (lv_at hl 0 rfl) ?_
                      refine lv_aload_n hx hb dX6_net_229 rfl (lv_at hl 2 rfl) ?_
                      refine mG_X6_third hx hb hF hown hI (hts _ (List.mem_of_getElem? (i := 9) rfl : (Cond.fieldLink RX6 19 "PlateRoomModel" "third" "[I" : Cond) ∈ wsX6_net)) dX6_net_230 ?_
                      refine lv_iload_n hx hb dX6_net_233 rfl (lv_at hl 5 rfl) ?_
                      have hin := hw.1
                      have hw := hw.2
                      refine mR_X6_third hx hb hI hin dX6_net_234 ?_
                      refine gVv (cm_X6_within l g (σ := σ) hw) (mMv g) ⟨hx, hb, hml, hown, hts⟩ (cwV 3 hts gX6_net_X6_within rfl rfl rfl (by decide +kernel) ⟨Nat.le_of_ble_eq_true rfl, Nat.le_of_ble_eq_true rfl⟩) (mRecv_X6 hI) hI hS hl.1 rfl rfl (Nat.le_of_ble_eq_true rfl) dX6_net_235 (fun σ25 H locs hw hI hS => ?_)
                      refine lv_goto (tgt := 311) hx hb dX6_net_238 (by decide) ?_
                      obtain ⟨a26, ea26⟩ : ∃ y : Int32, y = x3 + 1 := ⟨_, rfl⟩
                      have hw := hw a26 ea26
                      refine lv_iinc (v := a26) (lv' := [(3, .int a26), (5, .int a5), (4, .int a4), (0, .ref (g.2.1 0)), (1, .int x1), (2, .int x2)]) hx hb dX6_net_311 hl (k := 5) rfl (by rw [ea26]; rfl) (by decide) rfl (fun ls hl => ?_)
                      refine lv_goto (tgt := 84) hx hb dX6_net_314 (by decide) ?_
                      rw [hK84] at hw
                      exact ih84 _ _ _ _ _ _ _ hI hS (lv_sub hl [3, 4, 5, 0] rfl) hw
                    have hw := hw.2
                    by_cases q3 : (aI σ 0 x3) = 3
                    · have hw := hw.1 q3
                      refine lv_tableIn (tgt := 241) hx hb dX6_net_131 (by rw [q3]; decide) (by rw [q3]; decide) (by rw [q3]; rfl) (by decide) ?_
                      refine lv_aload_n hx hb dX6_net_241 rfl (lv_at hl 2 rfl) ?_
                      refine lv_iload hx hb dX6_net_242 (lv_at hl 1 rfl) ?_
                      refine gSi (cm_X6_begins l g (σ := σ) hw) (mMv g) ⟨hx, hb, hml, hown, hts⟩ (va_cwS 1 hts gX6_net_X6_begins rfl rfl rfl (by decide +kernel) ⟨Nat.le_of_ble_eq_true rfl, Nat.le_of_ble_eq_true rfl⟩) hI hS hl.1 rfl rfl (Nat.le_of_ble_eq_true rfl) dX6_net_244 (fun r27 σ28 H locs hw hI hS => ?_)
                      obtain ⟨hw, hq⟩ := hw
                      rw [hq] at hI
                      refine lv_iload hx hb dX6_net_247 (lv_at hl 0 rfl) ?_
                      refine lv_aload_n hx hb dX6_net_249 rfl (lv_at hl 2 rfl) ?_
                      refine mG_X6_third hx hb hF hown hI (hts _ (List.mem_of_getElem? (i := 9) rfl : (Cond.fieldLink RX6 19 "PlateRoomModel" "third" "[I" : Cond) ∈ wsX6_net)) dX6_net_250 ?_
                      refine lv_iload_n hx hb dX6_net_253 rfl (lv_at hl 5 rfl) ?_
                      have hin := hw.1
                      have hw := hw.2
                      refine mR_X6_third hx hb hI hin dX6_net_254 ?_
                      refine gVv (cm_X6_within l g (σ := σ) hw) (mMv g) ⟨hx, hb, hml, hown, hts⟩ (cwV 3 hts gX6_net_X6_within rfl rfl rfl (by decide +kernel) ⟨Nat.le_of_ble_eq_true rfl, Nat.le_of_ble_eq_true rfl⟩) (mRecv_X6 hI) hI hS hl.1 rfl rfl (Nat.le_of_ble_eq_true rfl) dX6_net_255 (fun σ29 H locs hw hI hS => ?_)
                      refine lv_goto (tgt := 311) hx hb dX6_net_258 (by decide) ?_
                      obtain ⟨a30, ea30⟩ : ∃ y : Int32, y = x3 + 1 := ⟨_, rfl⟩
                      have hw := hw a30 ea30
                      refine lv_iinc (v := a30) (lv' := [(3, .int a30), (5, .int a5), (4, .int a4), (0, .ref (g.2.1 0)), (1, .int x1), (2, .int x2)]) hx hb dX6_net_311 hl (k := 5) rfl (by rw [ea30]; rfl) (by decide) rfl (fun ls hl => ?_)
                      refine lv_goto (tgt := 84) hx hb dX6_net_314 (by decide) ?_
                      rw [hK84] at hw
                      exact ih84 _ _ _ _ _ _ _ hI hS (lv_sub hl [3, 4, 5, 0] rfl) hw
                    have hw := hw.2
                    by_cases q4 : (aI σ 0 x3) = 4
                    · have hw := hw.1 q4
                      refine lv_tableIn (tgt := 261) hx hb dX6_net_131 (by rw [q4]; decide) (by rw [q4]; decide) (by rw [q4]; rfl) (by decide) ?_
                      refine lv_aload_n hx hb dX6_net_261 rfl (lv_at hl 2 rfl) ?_
                      refine lv_iload hx hb dX6_net_262 (lv_at hl 1 rfl) ?_
                      refine gSi (cm_X6_endsAt l g (σ := σ) hw) (mMv g) ⟨hx, hb, hml, hown, hts⟩ (va_cwS 1 hts gX6_net_X6_endsAt rfl rfl rfl (by decide +kernel) ⟨Nat.le_of_ble_eq_true rfl, Nat.le_of_ble_eq_true rfl⟩) hI hS hl.1 rfl rfl (Nat.le_of_ble_eq_true rfl) dX6_net_264 (fun r31 σ32 H locs hw hI hS => ?_)
                      obtain ⟨hw, hq⟩ := hw
                      rw [hq] at hI
                      refine lv_iload hx hb dX6_net_267 (lv_at hl 0 rfl) ?_
                      refine lv_aload_n hx hb dX6_net_269 rfl (lv_at hl 2 rfl) ?_
                      refine mG_X6_third hx hb hF hown hI (hts _ (List.mem_of_getElem? (i := 9) rfl : (Cond.fieldLink RX6 19 "PlateRoomModel" "third" "[I" : Cond) ∈ wsX6_net)) dX6_net_270 ?_
                      refine lv_iload_n hx hb dX6_net_273 rfl (lv_at hl 5 rfl) ?_
                      have hin := hw.1
                      have hw := hw.2
                      refine mR_X6_third hx hb hI hin dX6_net_274 ?_
                      refine gVv (cm_X6_within l g (σ := σ) hw) (mMv g) ⟨hx, hb, hml, hown, hts⟩ (cwV 3 hts gX6_net_X6_within rfl rfl rfl (by decide +kernel) ⟨Nat.le_of_ble_eq_true rfl, Nat.le_of_ble_eq_true rfl⟩) (mRecv_X6 hI) hI hS hl.1 rfl rfl (Nat.le_of_ble_eq_true rfl) dX6_net_275 (fun σ33 H locs hw hI hS => ?_)
                      refine lv_goto (tgt := 311) hx hb dX6_net_278 (by decide) ?_
                      obtain ⟨a34, ea34⟩ : ∃ y : Int32, y = x3 + 1 := ⟨_, rfl⟩
                      have hw := hw a34 ea34
                      refine lv_iinc (v := a34) (lv' := [(3, .int a34), (5, .int a5), (4, .int a4), (0, .ref (g.2.1 0)), (1, .int x1), (2, .int x2)]) hx hb dX6_net_311 hl (k := 5) rfl (by rw [ea34]; rfl) (by decide) rfl (fun ls hl => ?_)
                      refine lv_goto (tgt := 84) hx hb dX6_net_314 (by decide) ?_
                      rw [hK84] at hw
                      exact ih84 _ _ _ _ _ _ _ hI hS (lv_sub hl [3, 4, 5, 0] rfl) hw
                    have hw := hw.2
                    have hw := hw q0 q1 q2 q3 q4
                    refine lv_tableOut (tgt := 281) hx hb dX6_net_131 (gSw5 q0 q1 q2 q3 q4) (by decide) ?_
                    refine lv_aload_n hx hb dX6_net_281 rfl (lv_at hl 2 rfl) ?_
                    refine lv_iload hx hb dX6_net_282 (lv_at hl 1 rfl) ?_
                    refine gSi (cm_X6_placeOf l g (σ := σ) hw) (mMv g) ⟨hx, hb, hml, hown, hts⟩ (va_cwS 1 hts gX6_net_X6_placeOf rfl rfl rfl (by decide +kernel) ⟨Nat.le_of_ble_eq_true rfl, Nat.le_of_ble_eq_true rfl⟩) hI hS hl.1 rfl rfl (Nat.le_of_ble_eq_true rfl) dX6_net_284 (fun r35 σ36 H locs hw hI hS => ?_)
                    obtain ⟨hw, hq⟩ := hw
                    rw [hq] at hI
                    refine lv_iload hx hb dX6_net_287 (lv_at hl 0 rfl) ?_
                    refine gSi (cm_X6_placeOf l g (σ := σ) hw) (mMv g) ⟨hx, hb, hml, hown, hts⟩ (va_cwS 1 hts gX6_net_X6_placeOf rfl rfl rfl (by decide +kernel) ⟨Nat.le_of_ble_eq_true rfl, Nat.le_of_ble_eq_true rfl⟩) hI hS hl.1 rfl rfl (Nat.le_of_ble_eq_true rfl) dX6_net_289 (fun r37 σ38 H locs hw hI hS => ?_)
                    obtain ⟨hw, hq⟩ := hw
                    rw [hq] at hI
                    refine lv_lconst (v := 0) hx hb dX6_net_292 (by decide) ?_
                    refine gVv (cm_X6_way l g (σ := σ) hw) (mMv g) ⟨hx, hb, hml, hown, hts⟩ (cwV 3 hts gX6_net_X6_way rfl rfl rfl (by decide +kernel) ⟨Nat.le_of_ble_eq_true rfl, Nat.le_of_ble_eq_true rfl⟩) (mRecv_X6 hI) hI hS hl.1 rfl rfl (Nat.le_of_ble_eq_true rfl) dX6_net_293 (fun σ39 H locs hw hI hS => ?_)
                    refine lv_aload_n hx hb dX6_net_296 rfl (lv_at hl 2 rfl) ?_
                    refine lv_iload hx hb dX6_net_297 (lv_at hl 0 rfl) ?_
                    refine gSi (cm_X6_placeOf l g (σ := σ39) hw) (mMv g) ⟨hx, hb, hml, hown, hts⟩ (va_cwS 1 hts gX6_net_X6_placeOf rfl rfl rfl (by decide +kernel) ⟨Nat.le_of_ble_eq_true rfl, Nat.le_of_ble_eq_true rfl⟩) hI hS hl.1 rfl rfl (Nat.le_of_ble_eq_true rfl) dX6_net_299 (fun r40 σ41 H locs hw hI hS => ?_)
                    obtain ⟨hw, hq⟩ := hw
                    rw [hq] at hI
                    refine lv_iload hx hb dX6_net_302 (lv_at hl 1 rfl) ?_
                    refine gSi (cm_X6_placeOf l g (σ := σ39) hw) (mMv g) ⟨hx, hb, hml, hown, hts⟩ (va_cwS 1 hts gX6_net_X6_placeOf rfl rfl rfl (by decide +kernel) ⟨Nat.le_of_ble_eq_true rfl, Nat.le_of_ble_eq_true rfl⟩) hI hS hl.1 rfl rfl (Nat.le_of_ble_eq_true rfl) dX6_net_304 (fun r42 σ43 H locs hw hI hS => ?_)
                    obtain ⟨hw, hq⟩ := hw
                    rw [hq] at hI
                    refine lv_lconst (v := 0) hx hb dX6_net_307 (by decide) ?_
                    refine gVv (cm_X6_way l g (σ := σ39) hw) (mMv g) ⟨hx, hb, hml, hown, hts⟩ (cwV 3 hts gX6_net_X6_way rfl rfl rfl (by decide +kernel) ⟨Nat.le_of_ble_eq_true rfl, Nat.le_of_ble_eq_true rfl⟩) (mRecv_X6 hI) hI hS hl.1 rfl rfl (Nat.le_of_ble_eq_true rfl) dX6_net_308 (fun σ44 H locs hw hI hS => ?_)
                    obtain ⟨a45, ea45⟩ : ∃ y : Int32, y = x3 + 1 := ⟨_, rfl⟩
                    have hw := hw a45 ea45
                    refine lv_iinc (v := a45) (lv' := [(3, .int a45), (5, .int a5), (4, .int a4), (0, .ref (g.2.1 0)), (1, .int x1), (2, .int x2)]) hx hb dX6_net_311 hl (k := 5) rfl (by rw [ea45]; rfl) (by decide) rfl (fun ls hl => ?_)
                    refine lv_goto (tgt := 84) hx hb dX6_net_314 (by decide) ?_
                    rw [hK84] at hw
                    exact ih84 _ _ _ _ _ _ _ hI hS (lv_sub hl [3, 4, 5, 0] rfl) hw
                  have hw := hw.2 hc
                  refine lv_goto (tgt := 311) hx hb dX6_net_106 (by decide) ?_
                  obtain ⟨a46, ea46⟩ : ∃ y : Int32, y = x3 + 1 := ⟨_, rfl⟩
                  have hw := hw a46 ea46
                  refine lv_iinc (v := a46) (lv' := [(3, .int a46), (0, .ref (g.2.1 0)), (1, .int x1), (2, .int x2)]) hx hb dX6_net_311 hl (k := 3) rfl (by rw [ea46]; rfl) (by decide) rfl (fun ls hl => ?_)
                  refine lv_goto (tgt := 84) hx hb dX6_net_314 (by decide) ?_
                  rw [hK84] at hw
                  exact ih84 _ _ _ _ _ _ _ hI hS (lv_sub hl [1, 2, 3, 0] rfl) hw
              exact key84 n84 _ _ _ _ _ _ _ hI hS (lv_sub hl [1, 2, 3, 0] rfl) hw
            have hw := hw.2 hc
            refine lv_aload_n hx hb dX6_net_39 rfl (lv_at hl 0 rfl) ?_
            refine lv_iload_n hx hb dX6_net_40 rfl (lv_at hl 3 rfl) ?_
            refine gSi (cm_X6_begins l g (σ := σ) hw) (mMv g) ⟨hx, hb, hml, hown, hts⟩ (va_cwS 1 hts gX6_net_X6_begins rfl rfl rfl (by decide +kernel) ⟨Nat.le_of_ble_eq_true rfl, Nat.le_of_ble_eq_true rfl⟩) hI hS hl.1 rfl rfl (Nat.le_of_ble_eq_true rfl) dX6_net_41 (fun r2 σ3 H locs hw hI hS => ?_)
            obtain ⟨hw, hq⟩ := hw
            rw [hq] at hI
            refine gVv (cm_X6_bound l g (σ := σ) hw) (mMv g) ⟨hx, hb, hml, hown, hts⟩ (cwV 1 hts gX6_net_X6_bound rfl rfl rfl (by decide +kernel) ⟨Nat.le_of_ble_eq_true rfl, Nat.le_of_ble_eq_true rfl⟩) (mRecv_X6 hI) hI hS hl.1 rfl rfl (Nat.le_of_ble_eq_true rfl) dX6_net_44 (fun σ4 H locs hw hI hS => ?_)
            refine lv_aload_n hx hb dX6_net_47 rfl (lv_at hl 0 rfl) ?_
            refine lv_iload_n hx hb dX6_net_48 rfl (lv_at hl 3 rfl) ?_
            refine gSi (cm_X6_endsAt l g (σ := σ4) hw) (mMv g) ⟨hx, hb, hml, hown, hts⟩ (va_cwS 1 hts gX6_net_X6_endsAt rfl rfl rfl (by decide +kernel) ⟨Nat.le_of_ble_eq_true rfl, Nat.le_of_ble_eq_true rfl⟩) hI hS hl.1 rfl rfl (Nat.le_of_ble_eq_true rfl) dX6_net_49 (fun r5 σ6 H locs hw hI hS => ?_)
            obtain ⟨hw, hq⟩ := hw
            rw [hq] at hI
            refine gVv (cm_X6_bound l g (σ := σ4) hw) (mMv g) ⟨hx, hb, hml, hown, hts⟩ (cwV 1 hts gX6_net_X6_bound rfl rfl rfl (by decide +kernel) ⟨Nat.le_of_ble_eq_true rfl, Nat.le_of_ble_eq_true rfl⟩) (mRecv_X6 hI) hI hS hl.1 rfl rfl (Nat.le_of_ble_eq_true rfl) dX6_net_52 (fun σ7 H locs hw hI hS => ?_)
            refine lv_aload_n hx hb dX6_net_55 rfl (lv_at hl 0 rfl) ?_
            refine lv_iload_n hx hb dX6_net_56 rfl (lv_at hl 3 rfl) ?_
            refine gSi (cm_X6_begins l g (σ := σ7) hw) (mMv g) ⟨hx, hb, hml, hown, hts⟩ (va_cwS 1 hts gX6_net_X6_begins rfl rfl rfl (by decide +kernel) ⟨Nat.le_of_ble_eq_true rfl, Nat.le_of_ble_eq_true rfl⟩) hI hS hl.1 rfl rfl (Nat.le_of_ble_eq_true rfl) dX6_net_57 (fun r8 σ9 H locs hw hI hS => ?_)
            obtain ⟨hw, hq⟩ := hw
            rw [hq] at hI
            refine lv_iload_n hx hb dX6_net_60 rfl (lv_at hl 3 rfl) ?_
            refine gSi (cm_X6_endsAt l g (σ := σ7) hw) (mMv g) ⟨hx, hb, hml, hown, hts⟩ (va_cwS 1 hts gX6_net_X6_endsAt rfl rfl rfl (by decide +kernel) ⟨Nat.le_of_ble_eq_true rfl, Nat.le_of_ble_eq_true rfl⟩) hI hS hl.1 rfl rfl (Nat.le_of_ble_eq_true rfl) dX6_net_61 (fun r10 σ11 H locs hw hI hS => ?_)
            obtain ⟨hw, hq⟩ := hw
            rw [hq] at hI
            refine lv_lconst (v := 0) hx hb dX6_net_64 (by decide) ?_
            refine gVv (cm_X6_way l g (σ := σ7) hw) (mMv g) ⟨hx, hb, hml, hown, hts⟩ (cwV 3 hts gX6_net_X6_way rfl rfl rfl (by decide +kernel) ⟨Nat.le_of_ble_eq_true rfl, Nat.le_of_ble_eq_true rfl⟩) (mRecv_X6 hI) hI hS hl.1 rfl rfl (Nat.le_of_ble_eq_true rfl) dX6_net_65 (fun σ12 H locs hw hI hS => ?_)
            obtain ⟨a13, ea13⟩ : ∃ y : Int32, y = x3 + 1 := ⟨_, rfl⟩
            have hw := hw a13 ea13
            refine lv_iinc (v := a13) (lv' := [(3, .int a13), (0, .ref (g.2.1 0)), (1, .int x1), (2, .int x2)]) hx hb dX6_net_68 hl (k := 3) rfl (by rw [ea13]; rfl) (by decide) rfl (fun ls hl => ?_)
            refine lv_goto (tgt := 31) hx hb dX6_net_71 (by decide) ?_
            rw [hK31] at hw
            exact ih31 _ _ _ _ _ _ _ hI hS (lv_sub hl [1, 2, 3, 0] rfl) hw
        exact key31 n31 _ _ _ _ _ _ _ hI hS (lv_sub hl [1, 2, 3, 0] rfl) hw
      have hw := hw.2 hc
      refine lv_aload_n hx hb dX6_net_15 rfl (lv_at hl 0 rfl) ?_
      refine lv_iload_n hx hb dX6_net_16 rfl (lv_at hl 3 rfl) ?_
      refine gSi (cm_X6_placeOf l g (σ := σ) hw) (mMv g) ⟨hx, hb, hml, hown, hts⟩ (va_cwS 1 hts gX6_net_X6_placeOf rfl rfl rfl (by decide +kernel) ⟨Nat.le_of_ble_eq_true rfl, Nat.le_of_ble_eq_true rfl⟩) hI hS hl.1 rfl rfl (Nat.le_of_ble_eq_true rfl) dX6_net_17 (fun r1 σ2 H locs hw hI hS => ?_)
      obtain ⟨hw, hq⟩ := hw
      rw [hq] at hI
      refine gVv (cm_X6_bound l g (σ := σ) hw) (mMv g) ⟨hx, hb, hml, hown, hts⟩ (cwV 1 hts gX6_net_X6_bound rfl rfl rfl (by decide +kernel) ⟨Nat.le_of_ble_eq_true rfl, Nat.le_of_ble_eq_true rfl⟩) (mRecv_X6 hI) hI hS hl.1 rfl rfl (Nat.le_of_ble_eq_true rfl) dX6_net_20 (fun σ3 H locs hw hI hS => ?_)
      obtain ⟨a4, ea4⟩ : ∃ y : Int32, y = x3 + 1 := ⟨_, rfl⟩
      have hw := hw a4 ea4
      refine lv_iinc (v := a4) (lv' := [(3, .int a4), (0, .ref (g.2.1 0)), (1, .int x1), (2, .int x2)]) hx hb dX6_net_23 hl (k := 3) rfl (by rw [ea4]; rfl) (by decide) rfl (fun ls hl => ?_)
      refine lv_goto (tgt := 7) hx hb dX6_net_26 (by decide) ?_
      rw [hK7] at hw
      exact ih7 _ _ _ _ _ _ _ hI hS (lv_sub hl [1, 2, 3, 0] rfl) hw
  exact key7 n7 _ _ _ _ _ _ _ hI hS (lv_sub hl [1, 2, 3, 0] rfl) hw
set_option maxRecDepth 100000 in
set_option maxHeartbeats 4000000 in
theorem cm_X6_goes (l : Launch) (g : wG) {σ : wS} {x1 : Int32} {Q : Int32 → wS → Prop} (hw : wm_X6_goes Q x1 σ) : Met l yX6_goes wsX6_goes ({ frames := 0, cells := 0, slots := 0, locals := 0 } : Room) (va_Pc [.ref (g.2.1 0), .int x1] (fun U => mIn g σ U.heap U)) (va_Qi Q (fun σ1 t => mIn g σ1 t.heap t) (mA g)) 0 0 (mA g) := by
  refine gOfZ (maxL := 5) (mMv g) (by decide) rfl (Nat.le_of_ble_eq_true rfl) ?_
  intro p e s m args below meth c QQ hx hb hml hown hts hret ls hl hI
  have hl : lv_has ls 5 [(0, .ref (g.2.1 0)), (1, .int x1)] := hl
  have hS : va_S (mA g) s.heap s.heap [] := va_S.rf
  have hF : ∀ w ∈ wsX60, w.before args s = true := fun w h => hts w (List.mem_cons_of_mem _ (List.mem_append_right _ h))
  have j164 : ∀ (x2 : Int32) (σ : wS) (H : Heap) (locs : List Loc) (ls : Array Slot), mIn g σ H s → va_S (mA g) s.heap H locs → lv_has ls 5 [(2, .int x2)] → wm_X6_goes_J164 Q x2 σ → W p l e ({ frames := 0, cells := 0, slots := 0, locals := 0 } : Room) s m args below meth c H locs 0 0 QQ (F0 m 164 ls []) := by
    intro x2 σ H locs ls hI hS hl hw
    refine lv_iload_n hx hb dX6_goes_164 rfl (lv_at hl 0 rfl) ?_
    refine lv_if_ne (tgt := 172) hx hb dX6_goes_165 (by decide) (fun hc => ?_) (fun hc => ?_)
    · have hw := hw.1 hc
      refine lv_iconst (v := 0) hx hb dX6_goes_172 (by decide) ?_
      exact hret _ _ _ _ _ _ dX6_goes_173 isB0 hw hI hS
    have hw := hw.2 hc
    refine lv_iconst (v := 1) hx hb dX6_goes_168 (by decide) ?_
    refine lv_goto (tgt := 173) hx hb dX6_goes_169 (by decide) ?_
    exact hret _ _ _ _ _ _ dX6_goes_173 isB1 hw hI hS
  refine lv_iconst (v := 0) hx hb dX6_goes_0 (by decide) ?_
  refine lv_istore_n (lv' := [(2, .int 0), (0, .ref (g.2.1 0)), (1, .int x1)]) hx hb dX6_goes_1 rfl hl (by decide) rfl (fun ls hl => ?_)
  obtain ⟨n2, hw⟩ := hw
  have key2 : ∀ (n : Nat) (x1 : Int32) (x2 : Int32) (σ : wS) (H : Heap) (locs : List Loc) (ls : Array Slot), mIn g σ H s → va_S (mA g) s.heap H locs → lv_has ls 5 [(0, .ref (g.2.1 0)), (1, .int x1), (2, .int x2)] → wloop (wm_X6_goes_L2 Q x1) n (x2, σ) → W p l e ({ frames := 0, cells := 0, slots := 0, locals := 0 } : Room) s m args below meth c H locs 0 0 QQ (F0 m 2 ls []) := by
    intro n
    induction n with
    | zero => intro x1 x2 σ H locs ls hI hS hl hw; exact False.elim hw
    | succ n ih =>
      intro x1 x2 σ H locs ls hI hS hl hw
      obtain ⟨K2, hK2⟩ : ∃ K, K = wloop (wm_X6_goes_L2 Q x1) n := ⟨_, rfl⟩
      have hw : wm_X6_goes_L2 Q x1 K2 (x2, σ) := by rw [hK2]; exact hw
      dsimp only [wm_X6_goes_L2] at hw
      have ih2 := ih
      refine lv_iload_n hx hb dX6_goes_2 rfl (lv_at hl 2 rfl) ?_
      refine lv_bipush (v := 53) hx hb dX6_goes_3 (by decide) ?_
      refine lv_icmp_ge (tgt := 32) hx hb dX6_goes_5 (by decide) (fun hc => ?_) (fun hc => ?_)
      · have hw := hw.1 hc
        refine lv_iconst (v := 1) hx hb dX6_goes_32 (by decide) ?_
        refine lv_istore_n (lv' := [(2, .int 1), (0, .ref (g.2.1 0)), (1, .int x1)]) hx hb dX6_goes_33 rfl hl (by decide) rfl (fun ls hl => ?_)
        refine lv_iconst (v := 0) hx hb dX6_goes_34 (by decide) ?_
        refine lv_istore_n (lv' := [(3, .int 0), (2, .int 1), (0, .ref (g.2.1 0)), (1, .int x1)]) hx hb dX6_goes_35 rfl hl (by decide) rfl (fun ls hl => ?_)
        obtain ⟨n36, hw⟩ := hw
        have key36 : ∀ (n : Nat) (x2 : Int32) (x3 : Int32) (σ : wS) (H : Heap) (locs : List Loc) (ls : Array Slot), mIn g σ H s → va_S (mA g) s.heap H locs → lv_has ls 5 [(0, .ref (g.2.1 0)), (2, .int x2), (3, .int x3)] → wloop (wm_X6_goes_L36 Q) n (x2, x3, σ) → W p l e ({ frames := 0, cells := 0, slots := 0, locals := 0 } : Room) s m args below meth c H locs 0 0 QQ (F0 m 36 ls []) := by
          intro n
          induction n with
          | zero => intro x2 x3 σ H locs ls hI hS hl hw; exact False.elim hw
          | succ n ih =>
            intro x2 x3 σ H locs ls hI hS hl hw
            obtain ⟨K36, hK36⟩ : ∃ K, K = wloop (wm_X6_goes_L36 Q) n := ⟨_, rfl⟩
            have hw : wm_X6_goes_L36 Q K36 (x2, x3, σ) := by rw [hK36]; exact hw
            dsimp only [wm_X6_goes_L36] at hw
            have ih36 := ih
            refine lv_iload_n hx hb dX6_goes_36 rfl (lv_at hl 2 rfl) ?_
            refine lv_bipush (v := 53) hx hb dX6_goes_37 (by decide) ?_
            refine lv_icmp_gt (tgt := 164) hx hb dX6_goes_39 (by decide) (fun hc => ?_) (fun hc => ?_)
            · have hw := hw.1 hc
              exact j164 _ _ _ _ _ hI hS (lv_sub hl [1] rfl) hw
            have hw := hw.2 hc
            refine lv_iload_n hx hb dX6_goes_42 rfl (lv_at hl 1 rfl) ?_
            refine lv_if_eq (tgt := 164) hx hb dX6_goes_43 (by decide) (fun hc => ?_) (fun hc => ?_)
            · have hw := hw.1 hc
              exact j164 _ _ _ _ _ hI hS (lv_sub hl [1] rfl) hw
            have hw := hw.2 hc
            refine lv_iconst (v := 0) hx hb dX6_goes_46 (by decide) ?_
            refine lv_istore_n (lv' := [(2, .int 0), (0, .ref (g.2.1 0)), (3, .int x3)]) hx hb dX6_goes_47 rfl hl (by decide) rfl (fun ls hl => ?_)
            refine lv_iconst (v := 0) hx hb dX6_goes_48 (by decide) ?_
            refine lv_istore (lv' := [(4, .int 0), (2, .int 0), (0, .ref (g.2.1 0)), (3, .int x3)]) hx hb dX6_goes_49 hl (by decide) rfl (fun ls hl => ?_)
            obtain ⟨n51, hw⟩ := hw
            have key51 : ∀ (n : Nat) (x2 : Int32) (x3 : Int32) (x4 : Int32) (σ : wS) (H : Heap) (locs : List Loc) (ls : Array Slot), mIn g σ H s → va_S (mA g) s.heap H locs → lv_has ls 5 [(0, .ref (g.2.1 0)), (2, .int x2), (3, .int x3), (4, .int x4)] → wloop (wm_X6_goes_L51 Q K36 x3) n (x2, x4, σ) → W p l e ({ frames := 0, cells := 0, slots := 0, locals := 0 } : Room) s m args below meth c H locs 0 0 QQ (F0 m 51 ls []) := by
              intro n
              induction n with
              | zero => intro x2 x3 x4 σ H locs ls hI hS hl hw; exact False.elim hw
              | succ n ih =>
                intro x2 x3 x4 σ H locs ls hI hS hl hw
                obtain ⟨K51, hK51⟩ : ∃ K, K = wloop (wm_X6_goes_L51 Q K36 x3) n := ⟨_, rfl⟩
                have hw : wm_X6_goes_L51 Q K36 x3 K51 (x2, x4, σ) := by rw [hK51]; exact hw
                dsimp only [wm_X6_goes_L51] at hw
                have ih51 := ih
                refine lv_iload hx hb dX6_goes_51 (lv_at hl 3 rfl) ?_
                refine lv_aload_n hx hb dX6_goes_53 rfl (lv_at hl 0 rfl) ?_
                refine mG_X6_ways hx hb hF hown hI (hts _ (List.mem_of_getElem? (i := 3) rfl : (Cond.fieldLink RX6 146 "PlateRoomModel" "ways" "I" : Cond) ∈ wsX6_goes)) dX6_goes_54 ?_
                refine lv_icmp_ge (tgt := 158) hx hb dX6_goes_57 (by decide) (fun hc => ?_) (fun hc => ?_)
                · have hw := hw.1 hc
                  obtain ⟨a1, ea1⟩ : ∃ y : Int32, y = x3 + 1 := ⟨_, rfl⟩
                  have hw := hw a1 ea1
                  refine lv_iinc (v := a1) (lv' := [(3, .int a1), (0, .ref (g.2.1 0)), (2, .int x2), (4, .int x4)]) hx hb dX6_goes_158 hl (k := 2) rfl (by rw [ea1]; rfl) (by decide) rfl (fun ls hl => ?_)
                  refine lv_goto (tgt := 36) hx hb dX6_goes_161 (by decide) ?_
                  rw [hK36] at hw
                  exact ih36 _ _ _ _ _ _ hI hS (lv_sub hl [1, 2, 0] rfl) hw
                have hw := hw.2 hc
                refine lv_aload_n hx hb dX6_goes_60 rfl (lv_at hl 0 rfl) ?_
                refine mG_X6_far hx hb hF hown hI (hts _ (List.mem_of_getElem? (i := 1) rfl : (Cond.fieldLink RX6 38 "PlateRoomModel" "far" "[J" : Cond) ∈ wsX6_goes)) dX6_goes_61 ?_
                refine lv_aload_n hx hb dX6_goes_64 rfl (lv_at hl 0 rfl) ?_
                refine mG_X6_wayFrom hx hb hF hown hI (hts _ (List.mem_of_getElem? (i := 4) rfl : (Cond.fieldLink RX6 28 "PlateRoomModel" "wayFrom" "[I" : Cond) ∈ wsX6_goes)) dX6_goes_65 ?_
                refine lv_iload hx hb dX6_goes_68 (lv_at hl 3 rfl) ?_
                have hin := hw.1
                have hw := hw.2
                refine mR_X6_wayFrom hx hb hI hin dX6_goes_70 ?_
                have hin := hw.1
                have hw := hw.2
                refine mR_X6_far hx hb hI hin dX6_goes_71 ?_
                refine lv_ldc2 (own := RX6) hx hb hown (hts _ (List.mem_of_getElem? (i := 2) rfl : (Cond.constantLong RX6 179 (-4000000000000) : Cond) ∈ wsX6_goes)) dX6_goes_72 ?_
                refine W.lcmp hx hb dX6_goes_75 ?_
                refine lv_if_eq (tgt := 152) hx hb dX6_goes_76 (by decide) (fun hc => ?_) (fun hc => ?_)
                · have hw := hw.1 ((lg_cmp_eq _ _).mp hc)
                  obtain ⟨a2, ea2⟩ : ∃ y : Int32, y = x4 + 1 := ⟨_, rfl⟩
                  have hw := hw a2 ea2
                  refine lv_iinc (v := a2) (lv' := [(4, .int a2), (0, .ref (g.2.1 0)), (2, .int x2), (3, .int x3)]) hx hb dX6_goes_152 hl (k := 3) rfl (by rw [ea2]; rfl) (by decide) rfl (fun ls hl => ?_)
                  refine lv_goto (tgt := 51) hx hb dX6_goes_155 (by decide) ?_
                  rw [hK51] at hw
                  exact ih51 _ _ _ _ _ _ _ hI hS (lv_sub hl [1, 2, 3, 0] rfl) hw
                have hw := hw.2 (fun h => hc ((lg_cmp_eq _ _).mpr h))
                refine lv_aload_n hx hb dX6_goes_79 rfl (lv_at hl 0 rfl) ?_
                refine mG_X6_far hx hb hF hown hI (hts _ (List.mem_of_getElem? (i := 1) rfl : (Cond.fieldLink RX6 38 "PlateRoomModel" "far" "[J" : Cond) ∈ wsX6_goes)) dX6_goes_80 ?_
                refine lv_aload_n hx hb dX6_goes_83 rfl (lv_at hl 0 rfl) ?_
                refine mG_X6_wayFrom hx hb hF hown hI (hts _ (List.mem_of_getElem? (i := 4) rfl : (Cond.fieldLink RX6 28 "PlateRoomModel" "wayFrom" "[I" : Cond) ∈ wsX6_goes)) dX6_goes_84 ?_
                refine lv_iload hx hb dX6_goes_87 (lv_at hl 3 rfl) ?_
                have hin := hw.1
                have hw := hw.2
                refine mR_X6_wayFrom hx hb hI hin dX6_goes_89 ?_
                have hin := hw.1
                have hw := hw.2
                refine mR_X6_far hx hb hI hin dX6_goes_90 ?_
                refine lv_aload_n hx hb dX6_goes_91 rfl (lv_at hl 0 rfl) ?_
                refine mG_X6_wayMore hx hb hF hown hI (hts _ (List.mem_of_getElem? (i := 5) rfl : (Cond.fieldLink RX6 34 "PlateRoomModel" "wayMore" "[J" : Cond) ∈ wsX6_goes)) dX6_goes_92 ?_
                refine lv_iload hx hb dX6_goes_95 (lv_at hl 3 rfl) ?_
                have hin := hw.1
                have hw := hw.2
                refine mR_X6_wayMore hx hb hI hin dX6_goes_97 ?_
                refine lv_ladd hx hb dX6_goes_98 ?_
                refine lv_aload_n hx hb dX6_goes_99 rfl (lv_at hl 0 rfl) ?_
                refine mG_X6_far hx hb hF hown hI (hts _ (List.mem_of_getElem? (i := 1) rfl : (Cond.fieldLink RX6 38 "PlateRoomModel" "far" "[J" : Cond) ∈ wsX6_goes)) dX6_goes_100 ?_
                refine lv_aload_n hx hb dX6_goes_103 rfl (lv_at hl 0 rfl) ?_
                refine mG_X6_wayTo hx hb hF hown hI (hts _ (List.mem_of_getElem? (i := 6) rfl : (Cond.fieldLink RX6 31 "PlateRoomModel" "wayTo" "[I" : Cond) ∈ wsX6_goes)) dX6_goes_104 ?_
                refine lv_iload hx hb dX6_goes_107 (lv_at hl 3 rfl) ?_
                have hin := hw.1
                have hw := hw.2
                refine mR_X6_wayTo hx hb hI hin dX6_goes_109 ?_
                have hin := hw.1
                have hw := hw.2
                refine mR_X6_far hx hb hI hin dX6_goes_110 ?_
                refine W.lcmp hx hb dX6_goes_111 ?_
                refine lv_if_gt (tgt := 118) hx hb dX6_goes_112 (by decide) (fun hc => ?_) (fun hc => ?_)
                · have hw := hw.1 ((lg_cmp_gt _ _).mp hc)
                  refine lv_aload_n hx hb dX6_goes_118 rfl (lv_at hl 0 rfl) ?_
                  refine mG_X6_far hx hb hF hown hI (hts _ (List.mem_of_getElem? (i := 1) rfl : (Cond.fieldLink RX6 38 "PlateRoomModel" "far" "[J" : Cond) ∈ wsX6_goes)) dX6_goes_119 ?_
                  refine lv_aload_n hx hb dX6_goes_122 rfl (lv_at hl 0 rfl) ?_
                  refine mG_X6_wayTo hx hb hF hown hI (hts _ (List.mem_of_getElem? (i := 6) rfl : (Cond.fieldLink RX6 31 "PlateRoomModel" "wayTo" "[I" : Cond) ∈ wsX6_goes)) dX6_goes_123 ?_
                  refine lv_iload hx hb dX6_goes_126 (lv_at hl 3 rfl) ?_
                  have hin := hw.1
                  have hw := hw.2
                  refine mR_X6_wayTo hx hb hI hin dX6_goes_128 ?_
                  refine lv_aload_n hx hb dX6_goes_129 rfl (lv_at hl 0 rfl) ?_
                  refine mG_X6_far hx hb hF hown hI (hts _ (List.mem_of_getElem? (i := 1) rfl : (Cond.fieldLink RX6 38 "PlateRoomModel" "far" "[J" : Cond) ∈ wsX6_goes)) dX6_goes_130 ?_
                  refine lv_aload_n hx hb dX6_goes_133 rfl (lv_at hl 0 rfl) ?_
                  refine mG_X6_wayFrom hx hb hF hown hI (hts _ (List.mem_of_getElem? (i := 4) rfl : (Cond.fieldLink RX6 28 "PlateRoomModel" "wayFrom" "[I" : Cond) ∈ wsX6_goes)) dX6_goes_134 ?_
                  refine lv_iload hx hb dX6_goes_137 (lv_at hl 3 rfl) ?_
                  have hin := hw.1
                  have hw := hw.2
                  refine mR_X6_wayFrom hx hb hI hin dX6_goes_139 ?_
                  have hin := hw.1
                  have hw := hw.2
                  refine mR_X6_far hx hb hI hin dX6_goes_140 ?_
                  refine lv_aload_n hx hb dX6_goes_141 rfl (lv_at hl 0 rfl) ?_
                  refine mG_X6_wayMore hx hb hF hown hI (hts _ (List.mem_of_getElem? (i := 5) rfl : (Cond.fieldLink RX6 34 "PlateRoomModel" "wayMore" "[J" : Cond) ∈ wsX6_goes)) dX6_goes_142 ?_
                  refine lv_iload hx hb dX6_goes_145 (lv_at hl 3 rfl) ?_
                  have hin := hw.1
                  have hw := hw.2
                  refine mR_X6_wayMore hx hb hI hin dX6_goes_147 ?_
                  refine lv_ladd hx hb dX6_goes_148 ?_
                  have hin := hw.1
                  have hw := hw.2
                  refine mS_X6_far hx hb hI hS hin dX6_goes_149 (fun σ3 eσ3 H locs hI hS => ?_)
                  have hw := hw σ3 eσ3
                  refine lv_iconst (v := 1) hx hb dX6_goes_150 (by decide) ?_
                  refine lv_istore_n (lv' := [(2, .int 1), (0, .ref (g.2.1 0)), (3, .int x3), (4, .int x4)]) hx hb dX6_goes_151 rfl hl (by decide) rfl (fun ls hl => ?_)
                  obtain ⟨a4, ea4⟩ : ∃ y : Int32, y = x4 + 1 := ⟨_, rfl⟩
                  have hw := hw a4 ea4
                  refine lv_iinc (v := a4) (lv' := [(4, .int a4), (2, .int 1), (0, .ref (g.2.1 0)), (3, .int x3)]) hx hb dX6_goes_152 hl (k := 3) rfl (by rw [ea4]; rfl) (by decide) rfl (fun ls hl => ?_)
                  refine lv_goto (tgt := 51) hx hb dX6_goes_155 (by decide) ?_
                  rw [hK51] at hw
                  exact ih51 _ _ _ _ _ _ _ hI hS (lv_sub hl [2, 1, 3, 0] rfl) hw
                have hw := hw.2 (fun h => hc ((lg_cmp_gt _ _).mpr h))
                refine lv_goto (tgt := 152) hx hb dX6_goes_115 (by decide) ?_
                obtain ⟨a5, ea5⟩ : ∃ y : Int32, y = x4 + 1 := ⟨_, rfl⟩
                have hw := hw a5 ea5
                refine lv_iinc (v := a5) (lv' := [(4, .int a5), (0, .ref (g.2.1 0)), (2, .int x2), (3, .int x3)]) hx hb dX6_goes_152 hl (k := 3) rfl (by rw [ea5]; rfl) (by decide) rfl (fun ls hl => ?_)
                refine lv_goto (tgt := 51) hx hb dX6_goes_155 (by decide) ?_
                rw [hK51] at hw
                exact ih51 _ _ _ _ _ _ _ hI hS (lv_sub hl [1, 2, 3, 0] rfl) hw
            exact key51 n51 _ _ _ _ _ _ _ hI hS (lv_sub hl [2, 1, 3, 0] rfl) hw
        exact key36 n36 _ _ _ _ _ _ hI hS (lv_sub hl [2, 1, 0] rfl) hw
      have hw := hw.2 hc
      refine lv_aload_n hx hb dX6_goes_8 rfl (lv_at hl 0 rfl) ?_
      refine mG_X6_far hx hb hF hown hI (hts _ (List.mem_of_getElem? (i := 1) rfl : (Cond.fieldLink RX6 38 "PlateRoomModel" "far" "[J" : Cond) ∈ wsX6_goes)) dX6_goes_9 ?_
      refine lv_iload_n hx hb dX6_goes_12 rfl (lv_at hl 2 rfl) ?_
      refine lv_iload_n hx hb dX6_goes_13 rfl (lv_at hl 2 rfl) ?_
      refine lv_iload_n hx hb dX6_goes_14 rfl (lv_at hl 1 rfl) ?_
      refine lv_icmp_ne (tgt := 22) hx hb dX6_goes_15 (by decide) (fun hc => ?_) (fun hc => ?_)
      · have hw := hw.1 hc
        refine lv_ldc2 (own := RX6) hx hb hown (hts _ (List.mem_of_getElem? (i := 2) rfl : (Cond.constantLong RX6 179 (-4000000000000) : Cond) ∈ wsX6_goes)) dX6_goes_22 ?_
        have hin := hw.1
        have hw := hw.2
        refine mS_X6_far hx hb hI hS hin dX6_goes_25 (fun σ1 eσ1 H locs hI hS => ?_)
        have hw := hw σ1 eσ1
        obtain ⟨a2, ea2⟩ : ∃ y : Int32, y = x2 + 1 := ⟨_, rfl⟩
        have hw := hw a2 ea2
        refine lv_iinc (v := a2) (lv' := [(2, .int a2), (0, .ref (g.2.1 0)), (1, .int x1)]) hx hb dX6_goes_26 hl (k := 2) rfl (by rw [ea2]; rfl) (by decide) rfl (fun ls hl => ?_)
        refine lv_goto (tgt := 2) hx hb dX6_goes_29 (by decide) ?_
        rw [hK2] at hw
        exact ih2 _ _ _ _ _ _ hI hS (lv_sub hl [1, 2, 0] rfl) hw
      have hw := hw.2 hc
      refine lv_lconst (v := 0) hx hb dX6_goes_18 (by decide) ?_
      refine lv_goto (tgt := 25) hx hb dX6_goes_19 (by decide) ?_
      have hin := hw.1
      have hw := hw.2
      refine mS_X6_far hx hb hI hS hin dX6_goes_25 (fun σ3 eσ3 H locs hI hS => ?_)
      have hw := hw σ3 eσ3
      obtain ⟨a4, ea4⟩ : ∃ y : Int32, y = x2 + 1 := ⟨_, rfl⟩
      have hw := hw a4 ea4
      refine lv_iinc (v := a4) (lv' := [(2, .int a4), (0, .ref (g.2.1 0)), (1, .int x1)]) hx hb dX6_goes_26 hl (k := 2) rfl (by rw [ea4]; rfl) (by decide) rfl (fun ls hl => ?_)
      refine lv_goto (tgt := 2) hx hb dX6_goes_29 (by decide) ?_
      rw [hK2] at hw
      exact ih2 _ _ _ _ _ _ hI hS (lv_sub hl [1, 2, 0] rfl) hw
  exact key2 n2 _ _ _ _ _ _ hI hS (lv_sub hl [1, 2, 0] rfl) hw
set_option maxRecDepth 100000 in
set_option maxHeartbeats 4000000 in
theorem cm_X6_spanOf (l : Launch) (g : wG) {σ : wS} {x1 : Int32} {x2 : Int32} {x3 : Int32} {Q : Int32 → wS → Prop} (hw : wm_X6_spanOf Q x1 x2 x3 σ) : Met l yX6_spanOf wsX6_spanOf ({ frames := 3, cells := 0, slots := 0, locals := 72 } : Room) (va_Pc [.ref (g.2.1 0), .int x1, .int x2, .int x3] (fun U => mIn g σ U.heap U)) (va_Qi Q (fun σ1 t => mIn g σ1 t.heap t) (mA g)) 0 0 (mA g) := by
  refine gOfI (maxL := 4) (mMv g) (by decide) rfl (Nat.le_of_ble_eq_true rfl) ?_
  intro p e s m args below meth c QQ hx hb hml hown hts hret ls hl hI
  have hl : lv_has ls 4 [(0, .ref (g.2.1 0)), (1, .int x1), (2, .int x2), (3, .int x3)] := hl
  have hS : va_S (mA g) s.heap s.heap [] := va_S.rf
  have hF : ∀ w ∈ wsX60, w.before args s = true := fun w h => hts w (List.mem_cons_of_mem _ (List.mem_append_right _ h))
  refine lv_iload_n hx hb dX6_spanOf_0 rfl (lv_at hl 3 rfl) ?_
  refine gSi (cm_X6_isDay l g (σ := σ) hw) (mMv g) ⟨hx, hb, hml, hown, hts⟩ (va_cwS 1 hts gX6_spanOf_X6_isDay rfl rfl rfl (by decide +kernel) ⟨Nat.le_of_ble_eq_true rfl, Nat.le_of_ble_eq_true rfl⟩) hI hS hl.1 rfl rfl (Nat.le_of_ble_eq_true rfl) dX6_spanOf_1 (fun r1 σ2 H locs hw hI hS => ?_)
  obtain ⟨hw, hq⟩ := hw
  rw [hq] at hI
  refine lv_if_ne (tgt := 13) hx hb dX6_spanOf_4 (by decide) (fun hc => ?_) (fun hc => ?_)
  · have hw := hw.1 hc
    refine lv_aload_n hx hb dX6_spanOf_13 rfl (lv_at hl 0 rfl) ?_
    refine lv_iload_n hx hb dX6_spanOf_14 rfl (lv_at hl 3 rfl) ?_
    refine lv_iconst (v := (-1)) hx hb dX6_spanOf_15 (by decide) ?_
    refine gVv (cm_X6_net l g (σ := σ) hw) (mMv g) ⟨hx, hb, hml, hown, hts⟩ (cwV 2 hts gX6_spanOf_X6_net rfl rfl rfl (by decide +kernel) ⟨Nat.le_of_ble_eq_true rfl, Nat.le_of_ble_eq_true rfl⟩) (mRecv_X6 hI) hI hS hl.1 rfl rfl (Nat.le_of_ble_eq_true rfl) dX6_spanOf_16 (fun σ3 H locs hw hI hS => ?_)
    refine lv_aload_n hx hb dX6_spanOf_19 rfl (lv_at hl 0 rfl) ?_
    refine lv_iconst (v := 0) hx hb dX6_spanOf_20 (by decide) ?_
    refine gVi (cm_X6_goes l g (σ := σ3) hw) (mMv g) ⟨hx, hb, hml, hown, hts⟩ (cwV 1 hts gX6_spanOf_X6_goes rfl rfl rfl (by decide +kernel) ⟨Nat.le_of_ble_eq_true rfl, Nat.le_of_ble_eq_true rfl⟩) (mRecv_X6 hI) hI hS hl.1 rfl rfl (Nat.le_of_ble_eq_true rfl) dX6_spanOf_21 (fun r4 σ5 H locs hw hI hS => ?_)
    refine lv_if_ne (tgt := 33) hx hb dX6_spanOf_24 (by decide) (fun hc => ?_) (fun hc => ?_)
    · have hw := hw.1 hc
      refine lv_iload_n hx hb dX6_spanOf_33 rfl (lv_at hl 2 rfl) ?_
      refine lv_if_ne (tgt := 45) hx hb dX6_spanOf_34 (by decide) (fun hc => ?_) (fun hc => ?_)
      · have hw := hw.1 hc
        refine lv_aload_n hx hb dX6_spanOf_45 rfl (lv_at hl 0 rfl) ?_
        refine lv_iload_n hx hb dX6_spanOf_46 rfl (lv_at hl 1 rfl) ?_
        refine gVi (cm_X6_goes l g (σ := σ5) hw) (mMv g) ⟨hx, hb, hml, hown, hts⟩ (cwV 1 hts gX6_spanOf_X6_goes rfl rfl rfl (by decide +kernel) ⟨Nat.le_of_ble_eq_true rfl, Nat.le_of_ble_eq_true rfl⟩) (mRecv_X6 hI) hI hS hl.1 rfl rfl (Nat.le_of_ble_eq_true rfl) dX6_spanOf_47 (fun r6 σ7 H locs hw hI hS => ?_)
        refine lv_pop hx hb dX6_spanOf_50 rfl ?_
        refine lv_aload_n hx hb dX6_spanOf_51 rfl (lv_at hl 0 rfl) ?_
        refine mG_X6_far hx hb hF hown hI (hts _ (List.mem_of_getElem? (i := 1) rfl : (Cond.fieldLink RX6 38 "PlateRoomModel" "far" "[J" : Cond) ∈ wsX6_spanOf)) dX6_spanOf_52 ?_
        refine lv_iconst (v := 0) hx hb dX6_spanOf_55 (by decide) ?_
        have hin := hw.1
        have hw := hw.2
        refine mR_X6_far hx hb hI hin dX6_spanOf_56 ?_
        refine lv_lneg hx hb dX6_spanOf_57 ?_
        refine lv_l2i hx hb dX6_spanOf_58 rfl ?_
        exact hret _ _ _ _ _ _ dX6_spanOf_59 hw hI hS
      have hw := hw.2 hc
      refine lv_aload_n hx hb dX6_spanOf_37 rfl (lv_at hl 0 rfl) ?_
      refine mG_X6_far hx hb hF hown hI (hts _ (List.mem_of_getElem? (i := 1) rfl : (Cond.fieldLink RX6 38 "PlateRoomModel" "far" "[J" : Cond) ∈ wsX6_spanOf)) dX6_spanOf_38 ?_
      refine lv_iload_n hx hb dX6_spanOf_41 rfl (lv_at hl 1 rfl) ?_
      have hin := hw.1
      have hw := hw.2
      refine mR_X6_far hx hb hI hin dX6_spanOf_42 ?_
      refine lv_l2i hx hb dX6_spanOf_43 rfl ?_
      exact hret _ _ _ _ _ _ dX6_spanOf_44 hw hI hS
    have hw := hw.2 hc
    refine lv_aload_n hx hb dX6_spanOf_27 rfl (lv_at hl 0 rfl) ?_
    refine lv_iconst (v := 5) hx hb dX6_spanOf_28 (by decide) ?_
    refine gVi (cm_X6_refuse l g (σ := σ5) hw) (mMv g) ⟨hx, hb, hml, hown, hts⟩ (cwV 1 hts gX6_spanOf_X6_refuse rfl rfl rfl (by decide +kernel) ⟨Nat.le_of_ble_eq_true rfl, Nat.le_of_ble_eq_true rfl⟩) (mRecv_X6 hI) hI hS hl.1 rfl rfl (Nat.le_of_ble_eq_true rfl) dX6_spanOf_29 (fun r8 σ9 H locs hw hI hS => ?_)
    exact hret _ _ _ _ _ _ dX6_spanOf_32 hw hI hS
  have hw := hw.2 hc
  refine lv_aload_n hx hb dX6_spanOf_7 rfl (lv_at hl 0 rfl) ?_
  refine lv_iconst (v := 2) hx hb dX6_spanOf_8 (by decide) ?_
  refine gVi (cm_X6_refuse l g (σ := σ) hw) (mMv g) ⟨hx, hb, hml, hown, hts⟩ (cwV 1 hts gX6_spanOf_X6_refuse rfl rfl rfl (by decide +kernel) ⟨Nat.le_of_ble_eq_true rfl, Nat.le_of_ble_eq_true rfl⟩) (mRecv_X6 hI) hI hS hl.1 rfl rfl (Nat.le_of_ble_eq_true rfl) dX6_spanOf_9 (fun r10 σ11 H locs hw hI hS => ?_)
  exact hret _ _ _ _ _ _ dX6_spanOf_12 hw hI hS
set_option maxRecDepth 100000 in
set_option maxHeartbeats 4000000 in
theorem cm_X6_span (l : Launch) (g : wG) {σ : wS} {x1 : Int32} {x2 : Int32} {x3 : Int32} {Q : Int32 → wS → Prop} (hw : wm_X6_span Q x1 x2 x3 σ) : Met l yX6_span wsX6_span ({ frames := 4, cells := 0, slots := 0, locals := 95 } : Room) (va_Pc [.ref (g.2.1 0), .int x1, .int x2, .int x3] (fun U => mIn g σ U.heap U)) (va_Qi Q (fun σ1 t => mIn g σ1 t.heap t) (mA g)) 0 0 (mA g) := by
  refine gOfI (maxL := 4) (mMv g) (by decide) rfl (Nat.le_of_ble_eq_true rfl) ?_
  intro p e s m args below meth c QQ hx hb hml hown hts hret ls hl hI
  have hl : lv_has ls 4 [(0, .ref (g.2.1 0)), (1, .int x1), (2, .int x2), (3, .int x3)] := hl
  have hS : va_S (mA g) s.heap s.heap [] := va_S.rf
  have hF : ∀ w ∈ wsX60, w.before args s = true := fun w h => hts w (List.mem_cons_of_mem _ (List.mem_append_right _ h))
  refine lv_aload_n hx hb dX6_span_0 rfl (lv_at hl 0 rfl) ?_
  refine lv_iconst (v := 0) hx hb dX6_span_1 (by decide) ?_
  refine mP_X6_thrown hx hb hF hown hI hS (hts _ (List.mem_of_getElem? (i := 1) rfl : (Cond.fieldLink RX6 101 "PlateRoomModel" "thrown" "I" : Cond) ∈ wsX6_span)) dX6_span_2 (fun σ1 eσ1 H locs hI hS => ?_)
  have hw := hw σ1 eσ1
  refine lv_aload_n hx hb dX6_span_5 rfl (lv_at hl 0 rfl) ?_
  refine lv_iconst (v := 0) hx hb dX6_span_6 (by decide) ?_
  refine mP_X6_status hx hb hF hown hI hS (hts _ (List.mem_of_getElem? (i := 2) rfl : (Cond.fieldLink RX6 105 "PlateRoomModel" "status" "I" : Cond) ∈ wsX6_span)) dX6_span_7 (fun σ2 eσ2 H locs hI hS => ?_)
  have hw := hw σ2 eσ2
  refine lv_aload_n hx hb dX6_span_10 rfl (lv_at hl 0 rfl) ?_
  refine lv_iload_n hx hb dX6_span_11 rfl (lv_at hl 1 rfl) ?_
  refine gVi (cm_X6_isPlate l g (σ := σ2) hw) (mMv g) ⟨hx, hb, hml, hown, hts⟩ (cwV 1 hts gX6_span_X6_isPlate rfl rfl rfl (by decide +kernel) ⟨Nat.le_of_ble_eq_true rfl, Nat.le_of_ble_eq_true rfl⟩) (mRecv_X6 hI) hI hS hl.1 rfl rfl (Nat.le_of_ble_eq_true rfl) dX6_span_12 (fun r3 σ4 H locs hw hI hS => ?_)
  obtain ⟨hw, hq⟩ := hw
  rw [hq] at hI
  refine lv_if_eq (tgt := 31) hx hb dX6_span_15 (by decide) (fun hc => ?_) (fun hc => ?_)
  · have hw := hw.1 hc
    refine lv_aload_n hx hb dX6_span_31 rfl (lv_at hl 0 rfl) ?_
    refine lv_iconst (v := 1) hx hb dX6_span_32 (by decide) ?_
    refine gVi (cm_X6_refuse l g (σ := σ2) hw) (mMv g) ⟨hx, hb, hml, hown, hts⟩ (cwV 1 hts gX6_span_X6_refuse rfl rfl rfl (by decide +kernel) ⟨Nat.le_of_ble_eq_true rfl, Nat.le_of_ble_eq_true rfl⟩) (mRecv_X6 hI) hI hS hl.1 rfl rfl (Nat.le_of_ble_eq_true rfl) dX6_span_33 (fun r5 σ6 H locs hw hI hS => ?_)
    exact hret _ _ _ _ _ _ dX6_span_36 hw hI hS
  have hw := hw.2 hc
  refine lv_aload_n hx hb dX6_span_18 rfl (lv_at hl 0 rfl) ?_
  refine lv_iload_n hx hb dX6_span_19 rfl (lv_at hl 1 rfl) ?_
  refine gSi (cm_X6_placeOf l g (σ := σ2) hw) (mMv g) ⟨hx, hb, hml, hown, hts⟩ (va_cwS 1 hts gX6_span_X6_placeOf rfl rfl rfl (by decide +kernel) ⟨Nat.le_of_ble_eq_true rfl, Nat.le_of_ble_eq_true rfl⟩) hI hS hl.1 rfl rfl (Nat.le_of_ble_eq_true rfl) dX6_span_20 (fun r7 σ8 H locs hw hI hS => ?_)
  obtain ⟨hw, hq⟩ := hw
  rw [hq] at hI
  refine lv_iload_n hx hb dX6_span_23 rfl (lv_at hl 2 rfl) ?_
  refine lv_iload_n hx hb dX6_span_24 rfl (lv_at hl 3 rfl) ?_
  refine gVi (cm_X6_spanOf l g (σ := σ2) hw) (mMv g) ⟨hx, hb, hml, hown, hts⟩ (cwV 3 hts gX6_span_X6_spanOf rfl rfl rfl (by decide +kernel) ⟨Nat.le_of_ble_eq_true rfl, Nat.le_of_ble_eq_true rfl⟩) (mRecv_X6 hI) hI hS hl.1 rfl rfl (Nat.le_of_ble_eq_true rfl) dX6_span_25 (fun r9 σ10 H locs hw hI hS => ?_)
  refine lv_goto (tgt := 36) hx hb dX6_span_28 (by decide) ?_
  exact hret _ _ _ _ _ _ dX6_span_36 hw hI hS
