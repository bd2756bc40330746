set_option maxRecDepth 100000 in
set_option maxHeartbeats 4000000 in
theorem cm_X6_mostOf (l : Launch) (g : wG) {σ : wS} {Q : Int32 → wS → Prop} (hw : wm_X6_mostOf Q σ) : Met l yX6_mostOf wsX6_mostOf ({ frames := 1, cells := 0, slots := 0, locals := 23 } : Room) (va_Pc [.ref (g.2.1 0)] (fun U => mIn g σ U.heap U)) (va_Qi Q (fun σ1 t => mIn g σ1 t.heap t) (mA g)) 0 0 (mA g) := by
  refine gOfI (maxL := 5) (mMv g) (by decide) rfl (Nat.le_of_ble_eq_true rfl) ?_
  intro p e s m args below meth c QQ hx hb hml hown hts hret ls hl hI
  have hl : lv_has ls 5 [(0, .ref (g.2.1 0))] := hl
  have hS : va_S (mA g) s.heap s.heap [] := va_S.rf
  have hF : ∀ w ∈ wsX60, w.before args s = true := fun w h => hts w (List.mem_cons_of_mem _ (List.mem_append_right _ h))
  refine lv_iconst (v := 0) hx hb dX6_mostOf_0 (by decide) ?_
  refine lv_istore_n (lv' := [(1, .int 0), (0, .ref (g.2.1 0))]) hx hb dX6_mostOf_1 rfl hl (by decide) rfl (fun ls hl => ?_)
  obtain ⟨n2, hw⟩ := hw
  have key2 : ∀ (n : Nat) (x1 : Int32) (σ : wS) (H : Heap) (locs : List Loc) (ls : Array Slot), mIn g σ H s → va_S (mA g) s.heap H locs → lv_has ls 5 [(0, .ref (g.2.1 0)), (1, .int x1)] → wloop (wm_X6_mostOf_L2 Q) n (x1, σ) → W p l e ({ frames := 1, cells := 0, slots := 0, locals := 23 } : Room) s m args below meth c H locs 0 0 QQ (F0 m 2 ls []) := by
    intro n
    induction n with
    | zero => intro x1 σ H locs ls hI hS hl hw; exact False.elim hw
    | succ n ih =>
      intro x1 σ H locs ls hI hS hl hw
      obtain ⟨K2, hK2⟩ : ∃ K, K = wloop (wm_X6_mostOf_L2 Q) n := ⟨_, rfl⟩
      have hw : wm_X6_mostOf_L2 Q K2 (x1, σ) := by rw [hK2]; exact hw
      dsimp only [wm_X6_mostOf_L2] at hw
      have ih2 := ih
      refine lv_iload_n hx hb dX6_mostOf_2 rfl (lv_at hl 1 rfl) ?_
      refine lv_sipush (v := 500) hx hb dX6_mostOf_3 (by decide) ?_
      refine lv_icmp_gt (tgt := 30) hx hb dX6_mostOf_6 (by decide) (fun hc => ?_) (fun hc => ?_)
      · have hw := hw.1 hc
        refine lv_iconst (v := 0) hx hb dX6_mostOf_30 (by decide) ?_
        refine lv_istore_n (lv' := [(1, .int 0), (0, .ref (g.2.1 0))]) hx hb dX6_mostOf_31 rfl hl (by decide) rfl (fun ls hl => ?_)
        obtain ⟨n32, hw⟩ := hw
        have key32 : ∀ (n : Nat) (x1 : Int32) (σ : wS) (H : Heap) (locs : List Loc) (ls : Array Slot), mIn g σ H s → va_S (mA g) s.heap H locs → lv_has ls 5 [(0, .ref (g.2.1 0)), (1, .int x1)] → wloop (wm_X6_mostOf_L32 Q) n (x1, σ) → W p l e ({ frames := 1, cells := 0, slots := 0, locals := 23 } : Room) s m args below meth c H locs 0 0 QQ (F0 m 32 ls []) := by
          intro n
          induction n with
          | zero => intro x1 σ H locs ls hI hS hl hw; exact False.elim hw
          | succ n ih =>
            intro x1 σ H locs ls hI hS hl hw
            obtain ⟨K32, hK32⟩ : ∃ K, K = wloop (wm_X6_mostOf_L32 Q) n := ⟨_, rfl⟩
            have hw : wm_X6_mostOf_L32 Q K32 (x1, σ) := by rw [hK32]; exact hw
            dsimp only [wm_X6_mostOf_L32] at hw
            have ih32 := ih
            refine lv_iload_n hx hb dX6_mostOf_32 rfl (lv_at hl 1 rfl) ?_
            refine lv_aload_n hx hb dX6_mostOf_33 rfl (lv_at hl 0 rfl) ?_
            refine mG_X6_plates hx hb hF hown hI (hts _ (List.mem_of_getElem? (i := 2) rfl : (Cond.fieldLink RX6 108 "PlateRoomModel" "plates" "I" : Cond) ∈ wsX6_mostOf)) dX6_mostOf_34 ?_
            refine lv_icmp_ge (tgt := 195) hx hb dX6_mostOf_37 (by decide) (fun hc => ?_) (fun hc => ?_)
            · have hw := hw.1 hc
              refine lv_iconst (v := (-1)) hx hb dX6_mostOf_195 (by decide) ?_
              refine lv_topi (fun a1 ea1 => ?_)
              have hw := hw a1 ea1
              refine lv_istore_n (lv' := [(1, .int a1), (0, .ref (g.2.1 0))]) hx hb dX6_mostOf_196 rfl hl (by decide) rfl (fun ls hl => ?_)
              refine lv_iconst (v := 0) hx hb dX6_mostOf_197 (by decide) ?_
              refine lv_istore_n (lv' := [(2, .int 0), (1, .int a1), (0, .ref (g.2.1 0))]) hx hb dX6_mostOf_198 rfl hl (by decide) rfl (fun ls hl => ?_)
              obtain ⟨n199, hw⟩ := hw
              have key199 : ∀ (n : Nat) (x1 : Int32) (x2 : Int32) (σ : wS) (H : Heap) (locs : List Loc) (ls : Array Slot), mIn g σ H s → va_S (mA g) s.heap H locs → lv_has ls 5 [(0, .ref (g.2.1 0)), (1, .int x1), (2, .int x2)] → wloop (wm_X6_mostOf_L199 Q σ) n (x1, x2) → W p l e ({ frames := 1, cells := 0, slots := 0, locals := 23 } : Room) s m args below meth c H locs 0 0 QQ (F0 m 199 ls []) := by
                intro n
                induction n with
                | zero => intro x1 x2 σ H locs ls hI hS hl hw; exact False.elim hw
                | succ n ih =>
                  intro x1 x2 σ H locs ls hI hS hl hw
                  obtain ⟨K199, hK199⟩ : ∃ K, K = wloop (wm_X6_mostOf_L199 Q σ) n := ⟨_, rfl⟩
                  have hw : wm_X6_mostOf_L199 Q σ K199 (x1, x2) := by rw [hK199]; exact hw
                  dsimp only [wm_X6_mostOf_L199] at hw
                  have ih199 := ih
                  refine lv_iload_n hx hb dX6_mostOf_199 rfl (lv_at hl 2 rfl) ?_
                  refine lv_sipush (v := 500) hx hb dX6_mostOf_200 (by decide) ?_
                  refine lv_icmp_gt (tgt := 223) hx hb dX6_mostOf_203 (by decide) (fun hc => ?_) (fun hc => ?_)
                  · have hw := hw.1 hc
                    refine lv_iload_n hx hb dX6_mostOf_223 rfl (lv_at hl 1 rfl) ?_
                    exact hret _ _ _ _ _ _ dX6_mostOf_224 hw hI hS
                  have hw := hw.2 hc
                  refine lv_iload_n hx hb dX6_mostOf_206 rfl (lv_at hl 1 rfl) ?_
                  refine lv_aload_n hx hb dX6_mostOf_207 rfl (lv_at hl 0 rfl) ?_
                  refine mG_X6_most hx hb hF hown hI (hts _ (List.mem_of_getElem? (i := 1) rfl : (Cond.fieldLink RX6 80 "PlateRoomModel" "most" "[I" : Cond) ∈ wsX6_mostOf)) dX6_mostOf_208 ?_
                  refine lv_iload_n hx hb dX6_mostOf_211 rfl (lv_at hl 2 rfl) ?_
                  have hin := hw.1
                  have hw := hw.2
                  refine mR_X6_most hx hb hI hin dX6_mostOf_212 ?_
                  refine va_mmax hx hb (hml.trans hl.1.symm) hown (hts _ (List.mem_of_getElem? (i := 9) rfl : (Cond.methodLink RX6 217 Lib.Math.max.name : Cond) ∈ wsX6_mostOf)) (hts _ (List.mem_of_getElem? (i := 10) rfl : (Cond.static Lib.Math.max.name : Cond) ∈ wsX6_mostOf)) (hts _ (List.mem_of_getElem? (i := 11) rfl : (Cond.initialized "java/lang/Math" : Cond) ∈ wsX6_mostOf)) (hts _ (List.mem_of_getElem? (i := 12) rfl : (Cond.code Lib.Math.max.name Lib.Math.max.code 2 (some .int) : Cond) ∈ wsX6_mostOf)) (Nat.le_of_ble_eq_true rfl) (Nat.le_of_ble_eq_true rfl) (Nat.zero_le _) (Nat.zero_le _) dX6_mostOf_213 ?_
                  refine lv_topi (fun m1 em1 => ?_)
                  have hw := hw m1 em1
                  refine lv_istore_n (lv' := [(1, .int m1), (0, .ref (g.2.1 0)), (2, .int x2)]) hx hb dX6_mostOf_216 rfl hl (by decide) rfl (fun ls hl => ?_)
                  obtain ⟨a2, ea2⟩ : ∃ y : Int32, y = x2 + 1 := ⟨_, rfl⟩
                  have hw := hw a2 ea2
                  refine lv_iinc (v := a2) (lv' := [(2, .int a2), (1, .int m1), (0, .ref (g.2.1 0))]) hx hb dX6_mostOf_217 hl (k := 2) rfl (by rw [ea2]; rfl) (by decide) rfl (fun ls hl => ?_)
                  refine lv_goto (tgt := 199) hx hb dX6_mostOf_220 (by decide) ?_
                  rw [hK199] at hw
                  exact ih199 _ _ _ _ _ _ hI hS (lv_sub hl [2, 1, 0] rfl) hw
              exact key199 n199 _ _ _ _ _ _ hI hS (lv_sub hl [2, 1, 0] rfl) hw
            have hw := hw.2 hc
            refine lv_aload_n hx hb dX6_mostOf_40 rfl (lv_at hl 0 rfl) ?_
            refine mG_X6_order hx hb hF hown hI (hts _ (List.mem_of_getElem? (i := 3) rfl : (Cond.fieldLink RX6 74 "PlateRoomModel" "order" "[I" : Cond) ∈ wsX6_mostOf)) dX6_mostOf_41 ?_
            refine lv_iload_n hx hb dX6_mostOf_44 rfl (lv_at hl 1 rfl) ?_
            have hin := hw.1
            have hw := hw.2
            refine mR_X6_order hx hb hI hin dX6_mostOf_45 ?_
            refine lv_topi (fun a2 ea2 => ?_)
            have hw := hw a2 ea2
            refine lv_istore_n (lv' := [(2, .int a2), (0, .ref (g.2.1 0)), (1, .int x1)]) hx hb dX6_mostOf_46 rfl hl (by decide) rfl (fun ls hl => ?_)
            refine lv_iconst (v := 0) hx hb dX6_mostOf_47 (by decide) ?_
            refine lv_istore_n (lv' := [(3, .int 0), (2, .int a2), (0, .ref (g.2.1 0)), (1, .int x1)]) hx hb dX6_mostOf_48 rfl hl (by decide) rfl (fun ls hl => ?_)
            obtain ⟨n49, hw⟩ := hw
            have key49 : ∀ (n : Nat) (x1 : Int32) (x2 : Int32) (x3 : Int32) (σ : wS) (H : Heap) (locs : List Loc) (ls : Array Slot), mIn g σ H s → va_S (mA g) s.heap H locs → lv_has ls 5 [(0, .ref (g.2.1 0)), (1, .int x1), (2, .int x2), (3, .int x3)] → wloop (wm_X6_mostOf_L49 Q K32 x1 x2) n (x3, σ) → W p l e ({ frames := 1, cells := 0, slots := 0, locals := 23 } : Room) s m args below meth c H locs 0 0 QQ (F0 m 49 ls []) := by
              intro n
              induction n with
              | zero => intro x1 x2 x3 σ H locs ls hI hS hl hw; exact False.elim hw
              | succ n ih =>
                intro x1 x2 x3 σ H locs ls hI hS hl hw
                obtain ⟨K49, hK49⟩ : ∃ K, K = wloop (wm_X6_mostOf_L49 Q K32 x1 x2) n := ⟨_, rfl⟩
                have hw : wm_X6_mostOf_L49 Q K32 x1 x2 K49 (x3, σ) := by rw [hK49]; exact hw
                dsimp only [wm_X6_mostOf_L49] at hw
                have ih49 := ih
                have j81 : ∀ (x3 : Int32) (s1 : Int32) (s2 : Int32) (σ : wS) (H : Heap) (locs : List Loc) (ls : Array Slot), mIn g σ H s → va_S (mA g) s.heap H locs → lv_has ls 5 [(0, .ref (g.2.1 0)), (1, .int x1), (2, .int x2), (3, .int x3)] → wm_X6_mostOf_J81 Q K32 K49 x1 x2 x3 s1 s2 σ → W p l e ({ frames := 1, cells := 0, slots := 0, locals := 23 } : Room) s m args below meth c H locs 0 0 QQ (F0 m 81 ls [.int s2, .int s1, .ref (g.2.1 25)]) := by
                  intro x3 s1 s2 σ H locs ls hI hS hl hw
                  have hin := hw.1
                  have hw := hw.2
                  refine mS_X6_then hx hb hI hS hin dX6_mostOf_81 (fun σ1 eσ1 H locs hI hS => ?_)
                  have hw := hw σ1 eσ1
                  refine lv_iload_n hx hb dX6_mostOf_82 rfl (lv_at hl 3 rfl) ?_
                  refine lv_aload_n hx hb dX6_mostOf_83 rfl (lv_at hl 0 rfl) ?_
                  refine mG_X6_hours hx hb hF hown hI (hts _ (List.mem_of_getElem? (i := 6) rfl : (Cond.fieldLink RX6 68 "PlateRoomModel" "hours" "[I" : Cond) ∈ wsX6_mostOf)) dX6_mostOf_84 ?_
                  refine lv_iload_n hx hb dX6_mostOf_87 rfl (lv_at hl 2 rfl) ?_
                  have hin := hw.1
                  have hw := hw.2
                  refine mR_X6_hours hx hb hI hin dX6_mostOf_88 ?_
                  refine lv_isub hx hb dX6_mostOf_89 ?_
                  refine lv_topi (fun a2 ea2 => ?_)
                  have hw := hw a2 ea2
                  refine lv_istore (lv' := [(4, .int a2), (0, .ref (g.2.1 0)), (1, .int x1), (2, .int x2), (3, .int x3)]) hx hb dX6_mostOf_90 hl (by decide) rfl (fun ls hl => ?_)
                  refine lv_aload_n hx hb dX6_mostOf_92 rfl (lv_at hl 1 rfl) ?_
                  refine mG_X6_fixed hx hb hF hown hI (hts _ (List.mem_of_getElem? (i := 5) rfl : (Cond.fieldLink RX6 77 "PlateRoomModel" "fixed" "[I" : Cond) ∈ wsX6_mostOf)) dX6_mostOf_93 ?_
                  refine lv_iload_n hx hb dX6_mostOf_96 rfl (lv_at hl 3 rfl) ?_
                  have hin := hw.1
                  have hw := hw.2
                  refine mR_X6_fixed hx hb hI hin dX6_mostOf_97 ?_
                  refine lv_iconst (v := 2) hx hb dX6_mostOf_98 (by decide) ?_
                  refine lv_icmp_eq (tgt := 156) hx hb dX6_mostOf_99 (by decide) (fun hc => ?_) (fun hc => ?_)
                  · have hw := hw.1 hc
                    obtain ⟨a3, ea3⟩ : ∃ y : Int32, y = x3 + 1 := ⟨_, rfl⟩
                    have hw := hw a3 ea3
                    refine lv_iinc (v := a3) (lv' := [(3, .int a3), (4, .int a2), (0, .ref (g.2.1 0)), (1, .int x1), (2, .int x2)]) hx hb dX6_mostOf_156 hl (k := 4) rfl (by rw [ea3]; rfl) (by decide) rfl (fun ls hl => ?_)
                    refine lv_goto (tgt := 49) hx hb dX6_mostOf_159 (by decide) ?_
                    rw [hK49] at hw
                    exact ih49 _ _ _ _ _ _ _ hI hS (lv_sub hl [2, 3, 4, 0] rfl) hw
                  have hw := hw.2 hc
                  refine lv_iload_n hx hb dX6_mostOf_102 rfl (lv_at hl 4 rfl) ?_
                  refine lv_aload_n hx hb dX6_mostOf_103 rfl (lv_at hl 1 rfl) ?_
                  refine mG_X6_lost hx hb hF hown hI (hts _ (List.mem_of_getElem? (i := 7) rfl : (Cond.fieldLink RX6 71 "PlateRoomModel" "lost" "[I" : Cond) ∈ wsX6_mostOf)) dX6_mostOf_104 ?_
                  refine lv_iload_n hx hb dX6_mostOf_107 rfl (lv_at hl 3 rfl) ?_
                  have hin := hw.1
                  have hw := hw.2
                  refine mR_X6_lost hx hb hI hin dX6_mostOf_108 ?_
                  refine lv_icmp_gt (tgt := 156) hx hb dX6_mostOf_109 (by decide) (fun hc => ?_) (fun hc => ?_)
                  · have hw := hw.1 hc
                    obtain ⟨a4, ea4⟩ : ∃ y : Int32, y = x3 + 1 := ⟨_, rfl⟩
                    have hw := hw a4 ea4
                    refine lv_iinc (v := a4) (lv' := [(3, .int a4), (4, .int a2), (0, .ref (g.2.1 0)), (1, .int x1), (2, .int x2)]) hx hb dX6_mostOf_156 hl (k := 4) rfl (by rw [ea4]; rfl) (by decide) rfl (fun ls hl => ?_)
                    refine lv_goto (tgt := 49) hx hb dX6_mostOf_159 (by decide) ?_
                    rw [hK49] at hw
                    exact ih49 _ _ _ _ _ _ _ hI hS (lv_sub hl [2, 3, 4, 0] rfl) hw
                  have hw := hw.2 hc
                  refine lv_iload hx hb dX6_mostOf_112 (lv_at hl 0 rfl) ?_
                  refine lv_if_lt (tgt := 156) hx hb dX6_mostOf_114 (by decide) (fun hc => ?_) (fun hc => ?_)
                  · have hw := hw.1 hc
                    obtain ⟨a5, ea5⟩ : ∃ y : Int32, y = x3 + 1 := ⟨_, rfl⟩
                    have hw := hw a5 ea5
                    refine lv_iinc (v := a5) (lv' := [(3, .int a5), (4, .int a2), (0, .ref (g.2.1 0)), (1, .int x1), (2, .int x2)]) hx hb dX6_mostOf_156 hl (k := 4) rfl (by rw [ea5]; rfl) (by decide) rfl (fun ls hl => ?_)
                    refine lv_goto (tgt := 49) hx hb dX6_mostOf_159 (by decide) ?_
                    rw [hK49] at hw
                    exact ih49 _ _ _ _ _ _ _ hI hS (lv_sub hl [2, 3, 4, 0] rfl) hw
                  have hw := hw.2 hc
                  refine lv_aload_n hx hb dX6_mostOf_117 rfl (lv_at hl 1 rfl) ?_
                  refine mG_X6_most hx hb hF hown hI (hts _ (List.mem_of_getElem? (i := 1) rfl : (Cond.fieldLink RX6 80 "PlateRoomModel" "most" "[I" : Cond) ∈ wsX6_mostOf)) dX6_mostOf_118 ?_
                  refine lv_iload hx hb dX6_mostOf_121 (lv_at hl 0 rfl) ?_
                  have hin := hw.1
                  have hw := hw.2
                  refine mR_X6_most hx hb hI hin dX6_mostOf_123 ?_
                  refine lv_if_lt (tgt := 156) hx hb dX6_mostOf_124 (by decide) (fun hc => ?_) (fun hc => ?_)
                  · have hw := hw.1 hc
                    obtain ⟨a6, ea6⟩ : ∃ y : Int32, y = x3 + 1 := ⟨_, rfl⟩
                    have hw := hw a6 ea6
                    refine lv_iinc (v := a6) (lv' := [(3, .int a6), (4, .int a2), (0, .ref (g.2.1 0)), (1, .int x1), (2, .int x2)]) hx hb dX6_mostOf_156 hl (k := 4) rfl (by rw [ea6]; rfl) (by decide) rfl (fun ls hl => ?_)
                    refine lv_goto (tgt := 49) hx hb dX6_mostOf_159 (by decide) ?_
                    rw [hK49] at hw
                    exact ih49 _ _ _ _ _ _ _ hI hS (lv_sub hl [2, 3, 4, 0] rfl) hw
                  have hw := hw.2 hc
                  refine lv_aload_n hx hb dX6_mostOf_127 rfl (lv_at hl 1 rfl) ?_
                  refine mG_X6_then hx hb hF hown hI (hts _ (List.mem_of_getElem? (i := 4) rfl : (Cond.fieldLink RX6 83 "PlateRoomModel" "then" "[I" : Cond) ∈ wsX6_mostOf)) dX6_mostOf_128 ?_
                  refine lv_iload_n hx hb dX6_mostOf_131 rfl (lv_at hl 4 rfl) ?_
                  refine lv_aload_n hx hb dX6_mostOf_132 rfl (lv_at hl 1 rfl) ?_
                  refine mG_X6_then hx hb hF hown hI (hts _ (List.mem_of_getElem? (i := 4) rfl : (Cond.fieldLink RX6 83 "PlateRoomModel" "then" "[I" : Cond) ∈ wsX6_mostOf)) dX6_mostOf_133 ?_
                  refine lv_iload_n hx hb dX6_mostOf_136 rfl (lv_at hl 4 rfl) ?_
                  have hin := hw.1
                  have hw := hw.2
                  refine mR_X6_then hx hb hI hin dX6_mostOf_137 ?_
                  refine lv_aload_n hx hb dX6_mostOf_138 rfl (lv_at hl 1 rfl) ?_
                  refine mG_X6_most hx hb hF hown hI (hts _ (List.mem_of_getElem? (i := 1) rfl : (Cond.fieldLink RX6 80 "PlateRoomModel" "most" "[I" : Cond) ∈ wsX6_mostOf)) dX6_mostOf_139 ?_
                  refine lv_iload hx hb dX6_mostOf_142 (lv_at hl 0 rfl) ?_
                  have hin := hw.1
                  have hw := hw.2
                  refine mR_X6_most hx hb hI hin dX6_mostOf_144 ?_
                  refine lv_aload_n hx hb dX6_mostOf_145 rfl (lv_at hl 1 rfl) ?_
                  refine mG_X6_wanted hx hb hF hown hI (hts _ (List.mem_of_getElem? (i := 8) rfl : (Cond.fieldLink RX6 65 "PlateRoomModel" "wanted" "[I" : Cond) ∈ wsX6_mostOf)) dX6_mostOf_146 ?_
                  refine lv_iload_n hx hb dX6_mostOf_149 rfl (lv_at hl 3 rfl) ?_
                  have hin := hw.1
                  have hw := hw.2
                  refine mR_X6_wanted hx hb hI hin dX6_mostOf_150 ?_
                  refine lv_iadd hx hb dX6_mostOf_151 ?_
                  refine va_mmax hx hb (hml.trans hl.1.symm) hown (hts _ (List.mem_of_getElem? (i := 9) rfl : (Cond.methodLink RX6 217 Lib.Math.max.name : Cond) ∈ wsX6_mostOf)) (hts _ (List.mem_of_getElem? (i := 10) rfl : (Cond.static Lib.Math.max.name : Cond) ∈ wsX6_mostOf)) (hts _ (List.mem_of_getElem? (i := 11) rfl : (Cond.initialized "java/lang/Math" : Cond) ∈ wsX6_mostOf)) (hts _ (List.mem_of_getElem? (i := 12) rfl : (Cond.code Lib.Math.max.name Lib.Math.max.code 2 (some .int) : Cond) ∈ wsX6_mostOf)) (Nat.le_of_ble_eq_true rfl) (Nat.le_of_ble_eq_true rfl) (Nat.zero_le _) (Nat.zero_le _) dX6_mostOf_152 ?_
                  refine lv_topi (fun m7 em7 => ?_)
                  have hw := hw m7 em7
                  have hin := hw.1
                  have hw := hw.2
                  refine mS_X6_then hx hb hI hS hin dX6_mostOf_155 (fun σ8 eσ8 H locs hI hS => ?_)
                  have hw := hw σ8 eσ8
                  obtain ⟨a9, ea9⟩ : ∃ y : Int32, y = x3 + 1 := ⟨_, rfl⟩
                  have hw := hw a9 ea9
                  refine lv_iinc (v := a9) (lv' := [(3, .int a9), (4, .int a2), (0, .ref (g.2.1 0)), (1, .int x1), (2, .int x2)]) hx hb dX6_mostOf_156 hl (k := 4) rfl (by rw [ea9]; rfl) (by decide) rfl (fun ls hl => ?_)
                  refine lv_goto (tgt := 49) hx hb dX6_mostOf_159 (by decide) ?_
                  rw [hK49] at hw
                  exact ih49 _ _ _ _ _ _ _ hI hS (lv_sub hl [2, 3, 4, 0] rfl) hw
                refine lv_iload_n hx hb dX6_mostOf_49 rfl (lv_at hl 3 rfl) ?_
                refine lv_sipush (v := 500) hx hb dX6_mostOf_50 (by decide) ?_
                refine lv_icmp_gt (tgt := 162) hx hb dX6_mostOf_53 (by decide) (fun hc => ?_) (fun hc => ?_)
                · have hw := hw.1 hc
                  refine lv_iconst (v := 0) hx hb dX6_mostOf_162 (by decide) ?_
                  refine lv_istore_n (lv' := [(3, .int 0), (0, .ref (g.2.1 0)), (1, .int x1), (2, .int x2)]) hx hb dX6_mostOf_163 rfl hl (by decide) rfl (fun ls hl => ?_)
                  obtain ⟨n164, hw⟩ := hw
                  have key164 : ∀ (n : Nat) (x1 : Int32) (x3 : Int32) (σ : wS) (H : Heap) (locs : List Loc) (ls : Array Slot), mIn g σ H s → va_S (mA g) s.heap H locs → lv_has ls 5 [(0, .ref (g.2.1 0)), (1, .int x1), (3, .int x3)] → wloop (wm_X6_mostOf_L164 Q K32 x1) n (x3, σ) → W p l e ({ frames := 1, cells := 0, slots := 0, locals := 23 } : Room) s m args below meth c H locs 0 0 QQ (F0 m 164 ls []) := by
                    intro n
                    induction n with
                    | zero => intro x1 x3 σ H locs ls hI hS hl hw; exact False.elim hw
                    | succ n ih =>
                      intro x1 x3 σ H locs ls hI hS hl hw
                      obtain ⟨K164, hK164⟩ : ∃ K, K = wloop (wm_X6_mostOf_L164 Q K32 x1) n := ⟨_, rfl⟩
                      have hw : wm_X6_mostOf_L164 Q K32 x1 K164 (x3, σ) := by rw [hK164]; exact hw
                      dsimp only [wm_X6_mostOf_L164] at hw
                      have ih164 := ih
                      refine lv_iload_n hx hb dX6_mostOf_164 rfl (lv_at hl 2 rfl) ?_
                      refine lv_sipush (v := 500) hx hb dX6_mostOf_165 (by decide) ?_
                      refine lv_icmp_gt (tgt := 189) hx hb dX6_mostOf_168 (by decide) (fun hc => ?_) (fun hc => ?_)
                      · have hw := hw.1 hc
                        obtain ⟨a1, ea1⟩ : ∃ y : Int32, y = x1 + 1 := ⟨_, rfl⟩
                        have hw := hw a1 ea1
                        refine lv_iinc (v := a1) (lv' := [(1, .int a1), (0, .ref (g.2.1 0)), (3, .int x3)]) hx hb dX6_mostOf_189 hl (k := 1) rfl (by rw [ea1]; rfl) (by decide) rfl (fun ls hl => ?_)
                        refine lv_goto (tgt := 32) hx hb dX6_mostOf_192 (by decide) ?_
                        rw [hK32] at hw
                        exact ih32 _ _ _ _ _ hI hS (lv_sub hl [1, 0] rfl) hw
                      have hw := hw.2 hc
                      refine lv_aload_n hx hb dX6_mostOf_171 rfl (lv_at hl 0 rfl) ?_
                      refine mG_X6_most hx hb hF hown hI (hts _ (List.mem_of_getElem? (i := 1) rfl : (Cond.fieldLink RX6 80 "PlateRoomModel" "most" "[I" : Cond) ∈ wsX6_mostOf)) dX6_mostOf_172 ?_
                      refine lv_iload_n hx hb dX6_mostOf_175 rfl (lv_at hl 2 rfl) ?_
                      refine lv_aload_n hx hb dX6_mostOf_176 rfl (lv_at hl 0 rfl) ?_
                      refine mG_X6_then hx hb hF hown hI (hts _ (List.mem_of_getElem? (i := 4) rfl : (Cond.fieldLink RX6 83 "PlateRoomModel" "then" "[I" : Cond) ∈ wsX6_mostOf)) dX6_mostOf_177 ?_
                      refine lv_iload_n hx hb dX6_mostOf_180 rfl (lv_at hl 2 rfl) ?_
                      have hin := hw.1
                      have hw := hw.2
                      refine mR_X6_then hx hb hI hin dX6_mostOf_181 ?_
                      have hin := hw.1
                      have hw := hw.2
                      refine mS_X6_most hx hb hI hS hin dX6_mostOf_182 (fun σ2 eσ2 H locs hI hS => ?_)
                      have hw := hw σ2 eσ2
                      obtain ⟨a3, ea3⟩ : ∃ y : Int32, y = x3 + 1 := ⟨_, rfl⟩
                      have hw := hw a3 ea3
                      refine lv_iinc (v := a3) (lv' := [(3, .int a3), (0, .ref (g.2.1 0)), (1, .int x1)]) hx hb dX6_mostOf_183 hl (k := 2) rfl (by rw [ea3]; rfl) (by decide) rfl (fun ls hl => ?_)
                      refine lv_goto (tgt := 164) hx hb dX6_mostOf_186 (by decide) ?_
                      rw [hK164] at hw
                      exact ih164 _ _ _ _ _ _ hI hS (lv_sub hl [1, 2, 0] rfl) hw
                  exact key164 n164 _ _ _ _ _ _ hI hS (lv_sub hl [1, 2, 0] rfl) hw
                have hw := hw.2 hc
                refine lv_aload_n hx hb dX6_mostOf_56 rfl (lv_at hl 0 rfl) ?_
                refine mG_X6_then hx hb hF hown hI (hts _ (List.mem_of_getElem? (i := 4) rfl : (Cond.fieldLink RX6 83 "PlateRoomModel" "then" "[I" : Cond) ∈ wsX6_mostOf)) dX6_mostOf_57 ?_
                refine lv_iload_n hx hb dX6_mostOf_60 rfl (lv_at hl 3 rfl) ?_
                refine lv_aload_n hx hb dX6_mostOf_61 rfl (lv_at hl 0 rfl) ?_
                refine mG_X6_fixed hx hb hF hown hI (hts _ (List.mem_of_getElem? (i := 5) rfl : (Cond.fieldLink RX6 77 "PlateRoomModel" "fixed" "[I" : Cond) ∈ wsX6_mostOf)) dX6_mostOf_62 ?_
                refine lv_iload_n hx hb dX6_mostOf_65 rfl (lv_at hl 2 rfl) ?_
                have hin := hw.1
                have hw := hw.2
                refine mR_X6_fixed hx hb hI hin dX6_mostOf_66 ?_
                refine lv_iconst (v := 1) hx hb dX6_mostOf_67 (by decide) ?_
                refine lv_icmp_ne (tgt := 75) hx hb dX6_mostOf_68 (by decide) (fun hc => ?_) (fun hc => ?_)
                · have hw := hw.1 hc
                  refine lv_aload_n hx hb dX6_mostOf_75 rfl (lv_at hl 0 rfl) ?_
                  refine mG_X6_most hx hb hF hown hI (hts _ (List.mem_of_getElem? (i := 1) rfl : (Cond.fieldLink RX6 80 "PlateRoomModel" "most" "[I" : Cond) ∈ wsX6_mostOf)) dX6_mostOf_76 ?_
                  refine lv_iload_n hx hb dX6_mostOf_79 rfl (lv_at hl 3 rfl) ?_
                  have hin := hw.1
                  have hw := hw.2
                  refine mR_X6_most hx hb hI hin dX6_mostOf_80 ?_
                  exact j81 _ _ _ _ _ _ _ hI hS (lv_sub hl [0, 1, 2, 3] rfl) hw
                have hw := hw.2 hc
                refine lv_iconst (v := (-1)) hx hb dX6_mostOf_71 (by decide) ?_
                refine lv_goto (tgt := 81) hx hb dX6_mostOf_72 (by decide) ?_
                exact j81 _ _ _ _ _ _ _ hI hS (lv_sub hl [0, 1, 2, 3] rfl) hw
            exact key49 n49 _ _ _ _ _ _ _ hI hS (lv_sub hl [2, 3, 1, 0] rfl) hw
        exact key32 n32 _ _ _ _ _ hI hS (lv_sub hl [1, 0] rfl) hw
      have hw := hw.2 hc
      refine lv_aload_n hx hb dX6_mostOf_9 rfl (lv_at hl 0 rfl) ?_
      refine mG_X6_most hx hb hF hown hI (hts _ (List.mem_of_getElem? (i := 1) rfl : (Cond.fieldLink RX6 80 "PlateRoomModel" "most" "[I" : Cond) ∈ wsX6_mostOf)) dX6_mostOf_10 ?_
      refine lv_iload_n hx hb dX6_mostOf_13 rfl (lv_at hl 1 rfl) ?_
      refine lv_iload_n hx hb dX6_mostOf_14 rfl (lv_at hl 1 rfl) ?_
      refine lv_if_ne (tgt := 22) hx hb dX6_mostOf_15 (by decide) (fun hc => ?_) (fun hc => ?_)
      · have hw := hw.1 hc
        refine lv_iconst (v := (-1)) hx hb dX6_mostOf_22 (by decide) ?_
        have hin := hw.1
        have hw := hw.2
        refine mS_X6_most hx hb hI hS hin dX6_mostOf_23 (fun σ1 eσ1 H locs hI hS => ?_)
        have hw := hw σ1 eσ1
        obtain ⟨a2, ea2⟩ : ∃ y : Int32, y = x1 + 1 := ⟨_, rfl⟩
        have hw := hw a2 ea2
        refine lv_iinc (v := a2) (lv' := [(1, .int a2), (0, .ref (g.2.1 0))]) hx hb dX6_mostOf_24 hl (k := 1) rfl (by rw [ea2]; rfl) (by decide) rfl (fun ls hl => ?_)
        refine lv_goto (tgt := 2) hx hb dX6_mostOf_27 (by decide) ?_
        rw [hK2] at hw
        exact ih2 _ _ _ _ _ hI hS (lv_sub hl [1, 0] rfl) hw
      have hw := hw.2 hc
      refine lv_iconst (v := 0) hx hb dX6_mostOf_18 (by decide) ?_
      refine lv_goto (tgt := 23) hx hb dX6_mostOf_19 (by decide) ?_
      have hin := hw.1
      have hw := hw.2
      refine mS_X6_most hx hb hI hS hin dX6_mostOf_23 (fun σ3 eσ3 H locs hI hS => ?_)
      have hw := hw σ3 eσ3
      obtain ⟨a4, ea4⟩ : ∃ y : Int32, y = x1 + 1 := ⟨_, rfl⟩
      have hw := hw a4 ea4
      refine lv_iinc (v := a4) (lv' := [(1, .int a4), (0, .ref (g.2.1 0))]) hx hb dX6_mostOf_24 hl (k := 1) rfl (by rw [ea4]; rfl) (by decide) rfl (fun ls hl => ?_)
      refine lv_goto (tgt := 2) hx hb dX6_mostOf_27 (by decide) ?_
      rw [hK2] at hw
      exact ih2 _ _ _ _ _ hI hS (lv_sub hl [1, 0] rfl) hw
  exact key2 n2 _ _ _ _ _ hI hS (lv_sub hl [1, 0] rfl) hw
set_option maxRecDepth 100000 in
set_option maxHeartbeats 4000000 in
theorem cm_X6_chooses (l : Launch) (g : wG) {σ : wS} {Q : Int32 → wS → Prop} (hw : wm_X6_chooses Q σ) : Met l yX6_chooses wsX6_chooses ({ frames := 2, cells := 0, slots := 0, locals := 47 } : Room) (va_Pc [.ref (g.2.1 0)] (fun U => mIn g σ U.heap U)) (va_Qi Q (fun σ1 t => mIn g σ1 t.heap t) (mA g)) 0 0 (mA g) := by
  refine gOfI (maxL := 3) (mMv g) (by decide) rfl (Nat.le_of_ble_eq_true rfl) ?_
  intro p e s m args below meth c QQ hx hb hml hown hts hret ls hl hI
  have hl : lv_has ls 3 [(0, .ref (g.2.1 0))] := hl
  have hS : va_S (mA g) s.heap s.heap [] := va_S.rf
  have hF : ∀ w ∈ wsX60, w.before args s = true := fun w h => hts w (List.mem_cons_of_mem _ (List.mem_append_right _ h))
  refine lv_aload_n hx hb dX6_chooses_0 rfl (lv_at hl 0 rfl) ?_
  refine gVv (cm_X6_orders l g (σ := σ) hw) (mMv g) ⟨hx, hb, hml, hown, hts⟩ (cwV 0 hts gX6_chooses_X6_orders rfl rfl rfl (by decide +kernel) ⟨Nat.le_of_ble_eq_true rfl, Nat.le_of_ble_eq_true rfl⟩) (mRecv_X6 hI) hI hS hl.1 rfl rfl (Nat.le_of_ble_eq_true rfl) dX6_chooses_1 (fun σ1 H locs hw hI hS => ?_)
  refine lv_iconst (v := 0) hx hb dX6_chooses_4 (by decide) ?_
  refine lv_istore_n (lv' := [(1, .int 0), (0, .ref (g.2.1 0))]) hx hb dX6_chooses_5 rfl hl (by decide) rfl (fun ls hl => ?_)
  obtain ⟨n6, hw⟩ := hw
  have key6 : ∀ (n : Nat) (x1 : Int32) (σ : wS) (H : Heap) (locs : List Loc) (ls : Array Slot), mIn g σ H s → va_S (mA g) s.heap H locs → lv_has ls 3 [(0, .ref (g.2.1 0)), (1, .int x1)] → wloop (wm_X6_chooses_L6 Q) n (x1, σ) → W p l e ({ frames := 2, cells := 0, slots := 0, locals := 47 } : Room) s m args below meth c H locs 0 0 QQ (F0 m 6 ls []) := by
    intro n
    induction n with
    | zero => intro x1 σ H locs ls hI hS hl hw; exact False.elim hw
    | succ n ih =>
      intro x1 σ H locs ls hI hS hl hw
      obtain ⟨K6, hK6⟩ : ∃ K, K = wloop (wm_X6_chooses_L6 Q) n := ⟨_, rfl⟩
      have hw : wm_X6_chooses_L6 Q K6 (x1, σ) := by rw [hK6]; exact hw
      dsimp only [wm_X6_chooses_L6] at hw
      have ih6 := ih
      refine lv_iload_n hx hb dX6_chooses_6 rfl (lv_at hl 1 rfl) ?_
      refine lv_aload_n hx hb dX6_chooses_7 rfl (lv_at hl 0 rfl) ?_
      refine mG_X6_plates hx hb hF hown hI (hts _ (List.mem_of_getElem? (i := 1) rfl : (Cond.fieldLink RX6 108 "PlateRoomModel" "plates" "I" : Cond) ∈ wsX6_chooses)) dX6_chooses_8 ?_
      refine lv_icmp_ge (tgt := 27) hx hb dX6_chooses_11 (by decide) (fun hc => ?_) (fun hc => ?_)
      · have hw := hw.1 hc
        refine lv_aload_n hx hb dX6_chooses_27 rfl (lv_at hl 0 rfl) ?_
        refine gVi (cm_X6_mostOf l g (σ := σ) hw) (mMv g) ⟨hx, hb, hml, hown, hts⟩ (cwV 0 hts gX6_chooses_X6_mostOf rfl rfl rfl (by decide +kernel) ⟨Nat.le_of_ble_eq_true rfl, Nat.le_of_ble_eq_true rfl⟩) (mRecv_X6 hI) hI hS hl.1 rfl rfl (Nat.le_of_ble_eq_true rfl) dX6_chooses_28 (fun r1 σ2 H locs hw hI hS => ?_)
        refine lv_istore_n (lv' := [(1, .int r1), (0, .ref (g.2.1 0))]) hx hb dX6_chooses_31 rfl hl (by decide) rfl (fun ls hl => ?_)
        refine lv_iconst (v := 0) hx hb dX6_chooses_32 (by decide) ?_
        refine lv_istore_n (lv' := [(2, .int 0), (1, .int r1), (0, .ref (g.2.1 0))]) hx hb dX6_chooses_33 rfl hl (by decide) rfl (fun ls hl => ?_)
        obtain ⟨n34, hw⟩ := hw
        have key34 : ∀ (n : Nat) (x1 : Int32) (x2 : Int32) (σ : wS) (H : Heap) (locs : List Loc) (ls : Array Slot), mIn g σ H s → va_S (mA g) s.heap H locs → lv_has ls 3 [(0, .ref (g.2.1 0)), (1, .int x1), (2, .int x2)] → wloop (wm_X6_chooses_L34 Q x1) n (x2, σ) → W p l e ({ frames := 2, cells := 0, slots := 0, locals := 47 } : Room) s m args below meth c H locs 0 0 QQ (F0 m 34 ls []) := by
          intro n
          induction n with
          | zero => intro x1 x2 σ H locs ls hI hS hl hw; exact False.elim hw
          | succ n ih =>
            intro x1 x2 σ H locs ls hI hS hl hw
            obtain ⟨K34, hK34⟩ : ∃ K, K = wloop (wm_X6_chooses_L34 Q x1) n := ⟨_, rfl⟩
            have hw : wm_X6_chooses_L34 Q x1 K34 (x2, σ) := by rw [hK34]; exact hw
            dsimp only [wm_X6_chooses_L34] at hw
            have ih34 := ih
            refine lv_iload_n hx hb dX6_chooses_34 rfl (lv_at hl 2 rfl) ?_
            refine lv_aload_n hx hb dX6_chooses_35 rfl (lv_at hl 0 rfl) ?_
            refine mG_X6_plates hx hb hF hown hI (hts _ (List.mem_of_getElem? (i := 1) rfl : (Cond.fieldLink RX6 108 "PlateRoomModel" "plates" "I" : Cond) ∈ wsX6_chooses)) dX6_chooses_36 ?_
            refine lv_icmp_ge (tgt := 70) hx hb dX6_chooses_39 (by decide) (fun hc => ?_) (fun hc => ?_)
            · have hw := hw.1 hc
              refine lv_iload_n hx hb dX6_chooses_70 rfl (lv_at hl 1 rfl) ?_
              exact hret _ _ _ _ _ _ dX6_chooses_71 hw hI hS
            have hw := hw.2 hc
            refine lv_aload_n hx hb dX6_chooses_42 rfl (lv_at hl 0 rfl) ?_
            refine mG_X6_fixed hx hb hF hown hI (hts _ (List.mem_of_getElem? (i := 2) rfl : (Cond.fieldLink RX6 77 "PlateRoomModel" "fixed" "[I" : Cond) ∈ wsX6_chooses)) dX6_chooses_43 ?_
            refine lv_iload_n hx hb dX6_chooses_46 rfl (lv_at hl 2 rfl) ?_
            refine lv_iconst (v := 1) hx hb dX6_chooses_47 (by decide) ?_
            have hin := hw.1
            have hw := hw.2
            refine mS_X6_fixed hx hb hI hS hin dX6_chooses_48 (fun σ1 eσ1 H locs hI hS => ?_)
            have hw := hw σ1 eσ1
            refine lv_aload_n hx hb dX6_chooses_49 rfl (lv_at hl 0 rfl) ?_
            refine gVi (cm_X6_mostOf l g (σ := σ1) hw) (mMv g) ⟨hx, hb, hml, hown, hts⟩ (cwV 0 hts gX6_chooses_X6_mostOf rfl rfl rfl (by decide +kernel) ⟨Nat.le_of_ble_eq_true rfl, Nat.le_of_ble_eq_true rfl⟩) (mRecv_X6 hI) hI hS hl.1 rfl rfl (Nat.le_of_ble_eq_true rfl) dX6_chooses_50 (fun r2 σ3 H locs hw hI hS => ?_)
            refine lv_iload_n hx hb dX6_chooses_53 rfl (lv_at hl 1 rfl) ?_
            refine lv_icmp_eq (tgt := 64) hx hb dX6_chooses_54 (by decide) (fun hc => ?_) (fun hc => ?_)
            · have hw := hw.1 hc
              obtain ⟨a4, ea4⟩ : ∃ y : Int32, y = x2 + 1 := ⟨_, rfl⟩
              have hw := hw a4 ea4
              refine lv_iinc (v := a4) (lv' := [(2, .int a4), (0, .ref (g.2.1 0)), (1, .int x1)]) hx hb dX6_chooses_64 hl (k := 2) rfl (by rw [ea4]; rfl) (by decide) rfl (fun ls hl => ?_)
              refine lv_goto (tgt := 34) hx hb dX6_chooses_67 (by decide) ?_
              rw [hK34] at hw
              exact ih34 _ _ _ _ _ _ hI hS (lv_sub hl [1, 2, 0] rfl) hw
            have hw := hw.2 hc
            refine lv_aload_n hx hb dX6_chooses_57 rfl (lv_at hl 0 rfl) ?_
            refine mG_X6_fixed hx hb hF hown hI (hts _ (List.mem_of_getElem? (i := 2) rfl : (Cond.fieldLink RX6 77 "PlateRoomModel" "fixed" "[I" : Cond) ∈ wsX6_chooses)) dX6_chooses_58 ?_
            refine lv_iload_n hx hb dX6_chooses_61 rfl (lv_at hl 2 rfl) ?_
            refine lv_iconst (v := 2) hx hb dX6_chooses_62 (by decide) ?_
            have hin := hw.1
            have hw := hw.2
            refine mS_X6_fixed hx hb hI hS hin dX6_chooses_63 (fun σ5 eσ5 H locs hI hS => ?_)
            have hw := hw σ5 eσ5
            obtain ⟨a6, ea6⟩ : ∃ y : Int32, y = x2 + 1 := ⟨_, rfl⟩
            have hw := hw a6 ea6
            refine lv_iinc (v := a6) (lv' := [(2, .int a6), (0, .ref (g.2.1 0)), (1, .int x1)]) hx hb dX6_chooses_64 hl (k := 2) rfl (by rw [ea6]; rfl) (by decide) rfl (fun ls hl => ?_)
            refine lv_goto (tgt := 34) hx hb dX6_chooses_67 (by decide) ?_
            rw [hK34] at hw
            exact ih34 _ _ _ _ _ _ hI hS (lv_sub hl [1, 2, 0] rfl) hw
        exact key34 n34 _ _ _ _ _ _ hI hS (lv_sub hl [2, 1, 0] rfl) hw
      have hw := hw.2 hc
      refine lv_aload_n hx hb dX6_chooses_14 rfl (lv_at hl 0 rfl) ?_
      refine mG_X6_fixed hx hb hF hown hI (hts _ (List.mem_of_getElem? (i := 2) rfl : (Cond.fieldLink RX6 77 "PlateRoomModel" "fixed" "[I" : Cond) ∈ wsX6_chooses)) dX6_chooses_15 ?_
      refine lv_iload_n hx hb dX6_chooses_18 rfl (lv_at hl 1 rfl) ?_
      refine lv_iconst (v := 0) hx hb dX6_chooses_19 (by decide) ?_
      have hin := hw.1
      have hw := hw.2
      refine mS_X6_fixed hx hb hI hS hin dX6_chooses_20 (fun σ3 eσ3 H locs hI hS => ?_)
      have hw := hw σ3 eσ3
      obtain ⟨a4, ea4⟩ : ∃ y : Int32, y = x1 + 1 := ⟨_, rfl⟩
      have hw := hw a4 ea4
      refine lv_iinc (v := a4) (lv' := [(1, .int a4), (0, .ref (g.2.1 0))]) hx hb dX6_chooses_21 hl (k := 1) rfl (by rw [ea4]; rfl) (by decide) rfl (fun ls hl => ?_)
      refine lv_goto (tgt := 6) hx hb dX6_chooses_24 (by decide) ?_
      rw [hK6] at hw
      exact ih6 _ _ _ _ _ hI hS (lv_sub hl [1, 0] rfl) hw
  exact key6 n6 _ _ _ _ _ hI hS (lv_sub hl [1, 0] rfl) hw
set_option maxRecDepth 100000 in
set_option maxHeartbeats 4000000 in
theorem cm_X6_best (l : Launch) (g : wG) {σ : wS} {Q : Int32 → wS → Prop} (hw : wm_X6_best Q σ) : Met l yX6_best wsX6_best ({ frames := 3, cells := 0, slots := 0, locals := 69 } : Room) (va_Pc [.ref (g.2.1 0)] (fun U => mIn g σ U.heap U)) (va_Qi Q (fun σ1 t => mIn g σ1 t.heap t) (mA g)) 0 0 (mA g) := by
  refine gOfI (maxL := 1) (mMv g) (by decide) rfl (Nat.le_of_ble_eq_true rfl) ?_
  intro p e s m args below meth c QQ hx hb hml hown hts hret ls hl hI
  have hl : lv_has ls 1 [(0, .ref (g.2.1 0))] := hl
  have hS : va_S (mA g) s.heap s.heap [] := va_S.rf
  have hF : ∀ w ∈ wsX60, w.before args s = true := fun w h => hts w (List.mem_cons_of_mem _ (List.mem_append_right _ h))
  refine lv_aload_n hx hb dX6_best_0 rfl (lv_at hl 0 rfl) ?_
  refine lv_iconst (v := 0) hx hb dX6_best_1 (by decide) ?_
  refine mP_X6_thrown hx hb hF hown hI hS (hts _ (List.mem_of_getElem? (i := 1) rfl : (Cond.fieldLink RX6 101 "PlateRoomModel" "thrown" "I" : Cond) ∈ wsX6_best)) dX6_best_2 (fun σ1 eσ1 H locs hI hS => ?_)
  have hw := hw σ1 eσ1
  refine lv_aload_n hx hb dX6_best_5 rfl (lv_at hl 0 rfl) ?_
  refine lv_iconst (v := 0) hx hb dX6_best_6 (by decide) ?_
  refine mP_X6_status hx hb hF hown hI hS (hts _ (List.mem_of_getElem? (i := 2) rfl : (Cond.fieldLink RX6 105 "PlateRoomModel" "status" "I" : Cond) ∈ wsX6_best)) dX6_best_7 (fun σ2 eσ2 H locs hI hS => ?_)
  have hw := hw σ2 eσ2
  refine lv_aload_n hx hb dX6_best_10 rfl (lv_at hl 0 rfl) ?_
  refine gVi (cm_X6_chooses l g (σ := σ2) hw) (mMv g) ⟨hx, hb, hml, hown, hts⟩ (cwV 0 hts gX6_best_X6_chooses rfl rfl rfl (by decide +kernel) ⟨Nat.le_of_ble_eq_true rfl, Nat.le_of_ble_eq_true rfl⟩) (mRecv_X6 hI) hI hS hl.1 rfl rfl (Nat.le_of_ble_eq_true rfl) dX6_best_11 (fun r3 σ4 H locs hw hI hS => ?_)
  exact hret _ _ _ _ _ _ dX6_best_14 hw hI hS
set_option maxRecDepth 100000 in
set_option maxHeartbeats 4000000 in
theorem cm_X6_hour (l : Launch) (g : wG) {σ : wS} {x1 : Int32} {Q : Int32 → wS → Prop} (hw : wm_X6_hour Q x1 σ) : Met l yX6_hour wsX6_hour ({ frames := 3, cells := 0, slots := 0, locals := 69 } : Room) (va_Pc [.ref (g.2.1 0), .int x1] (fun U => mIn g σ U.heap U)) (va_Qi Q (fun σ1 t => mIn g σ1 t.heap t) (mA g)) 0 0 (mA g) := by
  refine gOfI (maxL := 4) (mMv g) (by decide) rfl (Nat.le_of_ble_eq_true rfl) ?_
  intro p e s m args below meth c QQ hx hb hml hown hts hret ls hl hI
  have hl : lv_has ls 4 [(0, .ref (g.2.1 0)), (1, .int x1)] := hl
  have hS : va_S (mA g) s.heap s.heap [] := va_S.rf
  have hF : ∀ w ∈ wsX60, w.before args s = true := fun w h => hts w (List.mem_cons_of_mem _ (List.mem_append_right _ h))
  refine lv_aload_n hx hb dX6_hour_0 rfl (lv_at hl 0 rfl) ?_
  refine lv_iconst (v := 0) hx hb dX6_hour_1 (by decide) ?_
  refine mP_X6_thrown hx hb hF hown hI hS (hts _ (List.mem_of_getElem? (i := 1) rfl : (Cond.fieldLink RX6 101 "PlateRoomModel" "thrown" "I" : Cond) ∈ wsX6_hour)) dX6_hour_2 (fun σ1 eσ1 H locs hI hS => ?_)
  have hw := hw σ1 eσ1
  refine lv_aload_n hx hb dX6_hour_5 rfl (lv_at hl 0 rfl) ?_
  refine lv_iconst (v := 0) hx hb dX6_hour_6 (by decide) ?_
  refine mP_X6_status hx hb hF hown hI hS (hts _ (List.mem_of_getElem? (i := 2) rfl : (Cond.fieldLink RX6 105 "PlateRoomModel" "status" "I" : Cond) ∈ wsX6_hour)) dX6_hour_7 (fun σ2 eσ2 H locs hI hS => ?_)
  have hw := hw σ2 eσ2
  refine lv_aload_n hx hb dX6_hour_10 rfl (lv_at hl 0 rfl) ?_
  refine lv_iload_n hx hb dX6_hour_11 rfl (lv_at hl 1 rfl) ?_
  refine gVi (cm_X6_isPlate l g (σ := σ2) hw) (mMv g) ⟨hx, hb, hml, hown, hts⟩ (cwV 1 hts gX6_hour_X6_isPlate rfl rfl rfl (by decide +kernel) ⟨Nat.le_of_ble_eq_true rfl, Nat.le_of_ble_eq_true rfl⟩) (mRecv_X6 hI) hI hS hl.1 rfl rfl (Nat.le_of_ble_eq_true rfl) dX6_hour_12 (fun r3 σ4 H locs hw hI hS => ?_)
  obtain ⟨hw, hq⟩ := hw
  rw [hq] at hI
  refine lv_if_ne (tgt := 24) hx hb dX6_hour_15 (by decide) (fun hc => ?_) (fun hc => ?_)
  · have hw := hw.1 hc
    refine lv_aload_n hx hb dX6_hour_24 rfl (lv_at hl 0 rfl) ?_
    refine gVi (cm_X6_chooses l g (σ := σ2) hw) (mMv g) ⟨hx, hb, hml, hown, hts⟩ (cwV 0 hts gX6_hour_X6_chooses rfl rfl rfl (by decide +kernel) ⟨Nat.le_of_ble_eq_true rfl, Nat.le_of_ble_eq_true rfl⟩) (mRecv_X6 hI) hI hS hl.1 rfl rfl (Nat.le_of_ble_eq_true rfl) dX6_hour_25 (fun r5 σ6 H locs hw hI hS => ?_)
    refine lv_pop hx hb dX6_hour_28 rfl ?_
    refine lv_aload_n hx hb dX6_hour_29 rfl (lv_at hl 0 rfl) ?_
    refine mG_X6_fixed hx hb hF hown hI (hts _ (List.mem_of_getElem? (i := 3) rfl : (Cond.fieldLink RX6 77 "PlateRoomModel" "fixed" "[I" : Cond) ∈ wsX6_hour)) dX6_hour_30 ?_
    refine lv_iload_n hx hb dX6_hour_33 rfl (lv_at hl 1 rfl) ?_
    have hin := hw.1
    have hw := hw.2
    refine mR_X6_fixed hx hb hI hin dX6_hour_34 ?_
    refine lv_iconst (v := 1) hx hb dX6_hour_35 (by decide) ?_
    refine lv_icmp_eq (tgt := 46) hx hb dX6_hour_36 (by decide) (fun hc => ?_) (fun hc => ?_)
    · have hw := hw.1 hc
      refine lv_iconst (v := 0) hx hb dX6_hour_46 (by decide) ?_
      refine lv_istore_n (lv' := [(2, .int 0), (0, .ref (g.2.1 0)), (1, .int x1)]) hx hb dX6_hour_47 rfl hl (by decide) rfl (fun ls hl => ?_)
      refine lv_iconst (v := 0) hx hb dX6_hour_48 (by decide) ?_
      refine lv_istore_n (lv' := [(3, .int 0), (2, .int 0), (0, .ref (g.2.1 0)), (1, .int x1)]) hx hb dX6_hour_49 rfl hl (by decide) rfl (fun ls hl => ?_)
      obtain ⟨n50, hw⟩ := hw
      have key50 : ∀ (n : Nat) (x1 : Int32) (x2 : Int32) (x3 : Int32) (σ : wS) (H : Heap) (locs : List Loc) (ls : Array Slot), mIn g σ H s → va_S (mA g) s.heap H locs → lv_has ls 4 [(0, .ref (g.2.1 0)), (1, .int x1), (2, .int x2), (3, .int x3)] → wloop (wm_X6_hour_L50 Q x1 σ) n (x2, x3) → W p l e ({ frames := 3, cells := 0, slots := 0, locals := 69 } : Room) s m args below meth c H locs 0 0 QQ (F0 m 50 ls []) := by
        intro n
        induction n with
        | zero => intro x1 x2 x3 σ H locs ls hI hS hl hw; exact False.elim hw
        | succ n ih =>
          intro x1 x2 x3 σ H locs ls hI hS hl hw
          obtain ⟨K50, hK50⟩ : ∃ K, K = wloop (wm_X6_hour_L50 Q x1 σ) n := ⟨_, rfl⟩
          have hw : wm_X6_hour_L50 Q x1 σ K50 (x2, x3) := by rw [hK50]; exact hw
          dsimp only [wm_X6_hour_L50] at hw
          have ih50 := ih
          refine lv_aload_n hx hb dX6_hour_50 rfl (lv_at hl 0 rfl) ?_
          refine mG_X6_order hx hb hF hown hI (hts _ (List.mem_of_getElem? (i := 4) rfl : (Cond.fieldLink RX6 74 "PlateRoomModel" "order" "[I" : Cond) ∈ wsX6_hour)) dX6_hour_51 ?_
          refine lv_iload_n hx hb dX6_hour_54 rfl (lv_at hl 3 rfl) ?_
          have hin := hw.1
          have hw := hw.2
          refine mR_X6_order hx hb hI hin dX6_hour_55 ?_
          refine lv_iload_n hx hb dX6_hour_56 rfl (lv_at hl 1 rfl) ?_
          refine lv_icmp_eq (tgt := 99) hx hb dX6_hour_57 (by decide) (fun hc => ?_) (fun hc => ?_)
          · have hw := hw.1 hc
            refine lv_iload_n hx hb dX6_hour_99 rfl (lv_at hl 2 rfl) ?_
            exact hret _ _ _ _ _ _ dX6_hour_100 hw hI hS
          have hw := hw.2 hc
          refine lv_iload_n hx hb dX6_hour_60 rfl (lv_at hl 2 rfl) ?_
          refine lv_aload_n hx hb dX6_hour_61 rfl (lv_at hl 0 rfl) ?_
          refine mG_X6_fixed hx hb hF hown hI (hts _ (List.mem_of_getElem? (i := 3) rfl : (Cond.fieldLink RX6 77 "PlateRoomModel" "fixed" "[I" : Cond) ∈ wsX6_hour)) dX6_hour_62 ?_
          refine lv_aload_n hx hb dX6_hour_65 rfl (lv_at hl 0 rfl) ?_
          refine mG_X6_order hx hb hF hown hI (hts _ (List.mem_of_getElem? (i := 4) rfl : (Cond.fieldLink RX6 74 "PlateRoomModel" "order" "[I" : Cond) ∈ wsX6_hour)) dX6_hour_66 ?_
          refine lv_iload_n hx hb dX6_hour_69 rfl (lv_at hl 3 rfl) ?_
          have hin := hw.1
          have hw := hw.2
          refine mR_X6_order hx hb hI hin dX6_hour_70 ?_
          have hin := hw.1
          have hw := hw.2
          refine mR_X6_fixed hx hb hI hin dX6_hour_71 ?_
          refine lv_iconst (v := 1) hx hb dX6_hour_72 (by decide) ?_
          refine lv_icmp_ne (tgt := 90) hx hb dX6_hour_73 (by decide) (fun hc => ?_) (fun hc => ?_)
          · have hw := hw.1 hc
            refine lv_iconst (v := 0) hx hb dX6_hour_90 (by decide) ?_
            refine lv_iadd hx hb dX6_hour_91 ?_
            refine lv_topi (fun a1 ea1 => ?_)
            have hw := hw a1 ea1
            refine lv_istore_n (lv' := [(2, .int a1), (0, .ref (g.2.1 0)), (1, .int x1), (3, .int x3)]) hx hb dX6_hour_92 rfl hl (by decide) rfl (fun ls hl => ?_)
            obtain ⟨a2, ea2⟩ : ∃ y : Int32, y = x3 + 1 := ⟨_, rfl⟩
            have hw := hw a2 ea2
            refine lv_iinc (v := a2) (lv' := [(3, .int a2), (2, .int a1), (0, .ref (g.2.1 0)), (1, .int x1)]) hx hb dX6_hour_93 hl (k := 3) rfl (by rw [ea2]; rfl) (by decide) rfl (fun ls hl => ?_)
            refine lv_goto (tgt := 50) hx hb dX6_hour_96 (by decide) ?_
            rw [hK50] at hw
            exact ih50 _ _ _ _ _ _ _ hI hS (lv_sub hl [2, 3, 1, 0] rfl) hw
          have hw := hw.2 hc
          refine lv_aload_n hx hb dX6_hour_76 rfl (lv_at hl 0 rfl) ?_
          refine mG_X6_hours hx hb hF hown hI (hts _ (List.mem_of_getElem? (i := 5) rfl : (Cond.fieldLink RX6 68 "PlateRoomModel" "hours" "[I" : Cond) ∈ wsX6_hour)) dX6_hour_77 ?_
          refine lv_aload_n hx hb dX6_hour_80 rfl (lv_at hl 0 rfl) ?_
          refine mG_X6_order hx hb hF hown hI (hts _ (List.mem_of_getElem? (i := 4) rfl : (Cond.fieldLink RX6 74 "PlateRoomModel" "order" "[I" : Cond) ∈ wsX6_hour)) dX6_hour_81 ?_
          refine lv_iload_n hx hb dX6_hour_84 rfl (lv_at hl 3 rfl) ?_
          have hin := hw.1
          have hw := hw.2
          refine mR_X6_order hx hb hI hin dX6_hour_85 ?_
          have hin := hw.1
          have hw := hw.2
          refine mR_X6_hours hx hb hI hin dX6_hour_86 ?_
          refine lv_goto (tgt := 91) hx hb dX6_hour_87 (by decide) ?_
          refine lv_iadd hx hb dX6_hour_91 ?_
          refine lv_topi (fun a3 ea3 => ?_)
          have hw := hw a3 ea3
          refine lv_istore_n (lv' := [(2, .int a3), (0, .ref (g.2.1 0)), (1, .int x1), (3, .int x3)]) hx hb dX6_hour_92 rfl hl (by decide) rfl (fun ls hl => ?_)
          obtain ⟨a4, ea4⟩ : ∃ y : Int32, y = x3 + 1 := ⟨_, rfl⟩
          have hw := hw a4 ea4
          refine lv_iinc (v := a4) (lv' := [(3, .int a4), (2, .int a3), (0, .ref (g.2.1 0)), (1, .int x1)]) hx hb dX6_hour_93 hl (k := 3) rfl (by rw [ea4]; rfl) (by decide) rfl (fun ls hl => ?_)
          refine lv_goto (tgt := 50) hx hb dX6_hour_96 (by decide) ?_
          rw [hK50] at hw
          exact ih50 _ _ _ _ _ _ _ hI hS (lv_sub hl [2, 3, 1, 0] rfl) hw
      exact key50 n50 _ _ _ _ _ _ _ hI hS (lv_sub hl [2, 3, 1, 0] rfl) hw
    have hw := hw.2 hc
    refine lv_aload_n hx hb dX6_hour_39 rfl (lv_at hl 0 rfl) ?_
    refine lv_bipush (v := 8) hx hb dX6_hour_40 (by decide) ?_
    refine gVi (cm_X6_refuse l g (σ := σ6) hw) (mMv g) ⟨hx, hb, hml, hown, hts⟩ (cwV 1 hts gX6_hour_X6_refuse rfl rfl rfl (by decide +kernel) ⟨Nat.le_of_ble_eq_true rfl, Nat.le_of_ble_eq_true rfl⟩) (mRecv_X6 hI) hI hS hl.1 rfl rfl (Nat.le_of_ble_eq_true rfl) dX6_hour_42 (fun r7 σ8 H locs hw hI hS => ?_)
    exact hret _ _ _ _ _ _ dX6_hour_45 hw hI hS
  have hw := hw.2 hc
  refine lv_aload_n hx hb dX6_hour_18 rfl (lv_at hl 0 rfl) ?_
  refine lv_iconst (v := 1) hx hb dX6_hour_19 (by decide) ?_
  refine gVi (cm_X6_refuse l g (σ := σ2) hw) (mMv g) ⟨hx, hb, hml, hown, hts⟩ (cwV 1 hts gX6_hour_X6_refuse rfl rfl rfl (by decide +kernel) ⟨Nat.le_of_ble_eq_true rfl, Nat.le_of_ble_eq_true rfl⟩) (mRecv_X6 hI) hI hS hl.1 rfl rfl (Nat.le_of_ble_eq_true rfl) dX6_hour_20 (fun r9 σ10 H locs hw hI hS => ?_)
  exact hret _ _ _ _ _ _ dX6_hour_23 hw hI hS
set_option maxRecDepth 100000 in
set_option maxHeartbeats 4000000 in
theorem cm_X6_law (l : Launch) (g : wG) {σ : wS} {x1 : Int32} {x2 : Int32} {Q : Int32 → wS → Prop} (hw : wm_X6_law Q x1 x2 σ) : Met l yX6_law wsX6_law ({ frames := 1, cells := 0, slots := 0, locals := 21 } : Room) (va_Pc [.ref (g.2.1 0), .int x1, .int x2] (fun U => mIn g σ U.heap U)) (va_Qi Q (fun σ1 t => mIn g σ1 t.heap t) (mA g)) 0 0 (mA g) := by
  refine gOfZ (maxL := 3) (mMv g) (by decide) rfl (Nat.le_of_ble_eq_true rfl) ?_
  intro p e s m args below meth c QQ hx hb hml hown hts hret ls hl hI
  have hl : lv_has ls 3 [(0, .ref (g.2.1 0)), (1, .int x1), (2, .int x2)] := hl
  have hS : va_S (mA g) s.heap s.heap [] := va_S.rf
  have hF : ∀ w ∈ wsX60, w.before args s = true := fun w h => hts w (List.mem_cons_of_mem _ (List.mem_append_right _ h))
  refine lv_aload_n hx hb dX6_law_0 rfl (lv_at hl 0 rfl) ?_
  refine lv_iconst (v := 0) hx hb dX6_law_1 (by decide) ?_
  refine mP_X6_thrown hx hb hF hown hI hS (hts _ (List.mem_of_getElem? (i := 1) rfl : (Cond.fieldLink RX6 101 "PlateRoomModel" "thrown" "I" : Cond) ∈ wsX6_law)) dX6_law_2 (fun σ1 eσ1 H locs hI hS => ?_)
  have hw := hw σ1 eσ1
  refine lv_aload_n hx hb dX6_law_5 rfl (lv_at hl 0 rfl) ?_
  refine lv_iconst (v := 0) hx hb dX6_law_6 (by decide) ?_
  refine mP_X6_status hx hb hF hown hI hS (hts _ (List.mem_of_getElem? (i := 2) rfl : (Cond.fieldLink RX6 105 "PlateRoomModel" "status" "I" : Cond) ∈ wsX6_law)) dX6_law_7 (fun σ2 eσ2 H locs hI hS => ?_)
  have hw := hw σ2 eσ2
  refine lv_iload_n hx hb dX6_law_10 rfl (lv_at hl 1 rfl) ?_
  refine lv_if_lt (tgt := 30) hx hb dX6_law_11 (by decide) (fun hc => ?_) (fun hc => ?_)
  · have hw := hw.1 hc
    refine lv_aload_n hx hb dX6_law_30 rfl (lv_at hl 0 rfl) ?_
    refine lv_iconst (v := 2) hx hb dX6_law_31 (by decide) ?_
    refine gVi (cm_X6_no l g (σ := σ2) hw) (mMv g) ⟨hx, hb, hml, hown, hts⟩ (cwV 1 hts gX6_law_X6_no rfl rfl rfl (by decide +kernel) ⟨Nat.le_of_ble_eq_true rfl, Nat.le_of_ble_eq_true rfl⟩) (mRecv_X6 hI) hI hS hl.1 rfl rfl (Nat.le_of_ble_eq_true rfl) dX6_law_32 (fun r3 σ4 H locs hw hI hS => ?_)
    exact hret _ _ _ _ _ _ dX6_law_35 hw.1 hw.2 hI hS
  have hw := hw.2 hc
  refine lv_iload_n hx hb dX6_law_14 rfl (lv_at hl 1 rfl) ?_
  refine lv_ldc (own := RX6) hx hb hown (hts _ (List.mem_of_getElem? (i := 3) rfl : (Cond.constant RX6 114 (100000) : Cond) ∈ wsX6_law)) dX6_law_15 ?_
  refine lv_icmp_gt (tgt := 30) hx hb dX6_law_17 (by decide) (fun hc => ?_) (fun hc => ?_)
  · have hw := hw.1 hc
    refine lv_aload_n hx hb dX6_law_30 rfl (lv_at hl 0 rfl) ?_
    refine lv_iconst (v := 2) hx hb dX6_law_31 (by decide) ?_
    refine gVi (cm_X6_no l g (σ := σ2) hw) (mMv g) ⟨hx, hb, hml, hown, hts⟩ (cwV 1 hts gX6_law_X6_no rfl rfl rfl (by decide +kernel) ⟨Nat.le_of_ble_eq_true rfl, Nat.le_of_ble_eq_true rfl⟩) (mRecv_X6 hI) hI hS hl.1 rfl rfl (Nat.le_of_ble_eq_true rfl) dX6_law_32 (fun r5 σ6 H locs hw hI hS => ?_)
    exact hret _ _ _ _ _ _ dX6_law_35 hw.1 hw.2 hI hS
  have hw := hw.2 hc
  refine lv_iload_n hx hb dX6_law_20 rfl (lv_at hl 2 rfl) ?_
  refine lv_if_lt (tgt := 30) hx hb dX6_law_21 (by decide) (fun hc => ?_) (fun hc => ?_)
  · have hw := hw.1 hc
    refine lv_aload_n hx hb dX6_law_30 rfl (lv_at hl 0 rfl) ?_
    refine lv_iconst (v := 2) hx hb dX6_law_31 (by decide) ?_
    refine gVi (cm_X6_no l g (σ := σ2) hw) (mMv g) ⟨hx, hb, hml, hown, hts⟩ (cwV 1 hts gX6_law_X6_no rfl rfl rfl (by decide +kernel) ⟨Nat.le_of_ble_eq_true rfl, Nat.le_of_ble_eq_true rfl⟩) (mRecv_X6 hI) hI hS hl.1 rfl rfl (Nat.le_of_ble_eq_true rfl) dX6_law_32 (fun r7 σ8 H locs hw hI hS => ?_)
    exact hret _ _ _ _ _ _ dX6_law_35 hw.1 hw.2 hI hS
  have hw := hw.2 hc
  refine lv_iload_n hx hb dX6_law_24 rfl (lv_at hl 2 rfl) ?_
  refine lv_ldc (own := RX6) hx hb hown (hts _ (List.mem_of_getElem? (i := 4) rfl : (Cond.constant RX6 251 (50000) : Cond) ∈ wsX6_law)) dX6_law_25 ?_
  refine lv_icmp_le (tgt := 36) hx hb dX6_law_27 (by decide) (fun hc => ?_) (fun hc => ?_)
  · have hw := hw.1 hc
    refine lv_aload_n hx hb dX6_law_36 rfl (lv_at hl 0 rfl) ?_
    refine mG_X6_laws hx hb hF hown hI (hts _ (List.mem_of_getElem? (i := 5) rfl : (Cond.fieldLink RX6 252 "PlateRoomModel" "laws" "I" : Cond) ∈ wsX6_law)) dX6_law_37 ?_
    refine lv_bipush (v := 10) hx hb dX6_law_40 (by decide) ?_
    refine lv_icmp_ne (tgt := 51) hx hb dX6_law_42 (by decide) (fun hc => ?_) (fun hc => ?_)
    · have hw := hw.1 hc
      refine lv_aload_n hx hb dX6_law_51 rfl (lv_at hl 0 rfl) ?_
      refine mG_X6_lawFrom hx hb hF hown hI (hts _ (List.mem_of_getElem? (i := 6) rfl : (Cond.fieldLink RX6 86 "PlateRoomModel" "lawFrom" "[I" : Cond) ∈ wsX6_law)) dX6_law_52 ?_
      refine lv_aload_n hx hb dX6_law_55 rfl (lv_at hl 0 rfl) ?_
      refine mG_X6_laws hx hb hF hown hI (hts _ (List.mem_of_getElem? (i := 5) rfl : (Cond.fieldLink RX6 252 "PlateRoomModel" "laws" "I" : Cond) ∈ wsX6_law)) dX6_law_56 ?_
      refine lv_iload_n hx hb dX6_law_59 rfl (lv_at hl 1 rfl) ?_
      have hin := hw.1
      have hw := hw.2
      refine mS_X6_lawFrom hx hb hI hS hin dX6_law_60 (fun σ9 eσ9 H locs hI hS => ?_)
      have hw := hw σ9 eσ9
      refine lv_aload_n hx hb dX6_law_61 rfl (lv_at hl 0 rfl) ?_
      refine mG_X6_lawDays hx hb hF hown hI (hts _ (List.mem_of_getElem? (i := 7) rfl : (Cond.fieldLink RX6 89 "PlateRoomModel" "lawDays" "[I" : Cond) ∈ wsX6_law)) dX6_law_62 ?_
      refine lv_aload_n hx hb dX6_law_65 rfl (lv_at hl 0 rfl) ?_
      refine mG_X6_laws hx hb hF hown hI (hts _ (List.mem_of_getElem? (i := 5) rfl : (Cond.fieldLink RX6 252 "PlateRoomModel" "laws" "I" : Cond) ∈ wsX6_law)) dX6_law_66 ?_
      refine lv_iload_n hx hb dX6_law_69 rfl (lv_at hl 2 rfl) ?_
      have hin := hw.1
      have hw := hw.2
      refine mS_X6_lawDays hx hb hI hS hin dX6_law_70 (fun σ10 eσ10 H locs hI hS => ?_)
      have hw := hw σ10 eσ10
      refine lv_aload_n hx hb dX6_law_71 rfl (lv_at hl 0 rfl) ?_
      refine lv_dup hx hb dX6_law_72 rfl ?_
      refine mG_X6_laws hx hb hF hown hI (hts _ (List.mem_of_getElem? (i := 5) rfl : (Cond.fieldLink RX6 252 "PlateRoomModel" "laws" "I" : Cond) ∈ wsX6_law)) dX6_law_73 ?_
      refine lv_iconst (v := 1) hx hb dX6_law_76 (by decide) ?_
      refine lv_iadd hx hb dX6_law_77 ?_
      refine mP_X6_laws hx hb hF hown hI hS (hts _ (List.mem_of_getElem? (i := 5) rfl : (Cond.fieldLink RX6 252 "PlateRoomModel" "laws" "I" : Cond) ∈ wsX6_law)) dX6_law_78 (fun σ11 eσ11 H locs hI hS => ?_)
      have hw := hw σ11 eσ11
      refine lv_iconst (v := 1) hx hb dX6_law_81 (by decide) ?_
      exact hret _ _ _ _ _ _ dX6_law_82 isB1 hw hI hS
    have hw := hw.2 hc
    refine lv_aload_n hx hb dX6_law_45 rfl (lv_at hl 0 rfl) ?_
    refine lv_iconst (v := 3) hx hb dX6_law_46 (by decide) ?_
    refine gVi (cm_X6_no l g (σ := σ2) hw) (mMv g) ⟨hx, hb, hml, hown, hts⟩ (cwV 1 hts gX6_law_X6_no rfl rfl rfl (by decide +kernel) ⟨Nat.le_of_ble_eq_true rfl, Nat.le_of_ble_eq_true rfl⟩) (mRecv_X6 hI) hI hS hl.1 rfl rfl (Nat.le_of_ble_eq_true rfl) dX6_law_47 (fun r12 σ13 H locs hw hI hS => ?_)
    exact hret _ _ _ _ _ _ dX6_law_50 hw.1 hw.2 hI hS
  have hw := hw.2 hc
  refine lv_aload_n hx hb dX6_law_30 rfl (lv_at hl 0 rfl) ?_
  refine lv_iconst (v := 2) hx hb dX6_law_31 (by decide) ?_
  refine gVi (cm_X6_no l g (σ := σ2) hw) (mMv g) ⟨hx, hb, hml, hown, hts⟩ (cwV 1 hts gX6_law_X6_no rfl rfl rfl (by decide +kernel) ⟨Nat.le_of_ble_eq_true rfl, Nat.le_of_ble_eq_true rfl⟩) (mRecv_X6 hI) hI hS hl.1 rfl rfl (Nat.le_of_ble_eq_true rfl) dX6_law_32 (fun r14 σ15 H locs hw hI hS => ?_)
  exact hret _ _ _ _ _ _ dX6_law_35 hw.1 hw.2 hI hS
