def xInit (σE σC : wS) : wS := (fun _ => 0, σC.2.1, fun a => ([fun _ => 0, σC.2.2.1 1, σC.2.2.1 2, σC.2.2.1 3, σC.2.2.1 4, σE.2.2.1 5, σE.2.2.1 6, σE.2.2.1 7, σE.2.2.1 8, σE.2.2.1 9] : List (Nat → Int32)).getD a (fun _ => 0), σC.2.2.2)
theorem xW_fst (g : wG) (σ : wS) : (xW g σ).map (·.1) = (List.range 34).map g.2.1 := rfl
theorem mW_fst (g : wG) (σ : wS) : (mW g σ).map (·.1) = (List.range 31).map g.2.1 := rfl
theorem xW_at {g : wG} {σ : wS} {k : Nat} {q : Nat × va_E} (h : (xW g σ)[k]? = some q) : k < 34 ∧ q.1 = g.2.1 k := by
  have h1 := congrArg (fun l => l[k]?) (xW_fst g σ)
  simp only [List.getElem?_map, h, Option.map_some] at h1
  by_cases hk : k < 34
  · rw [List.getElem?_range hk] at h1
    exact ⟨hk, Option.some.inj h1⟩
  · rw [List.getElem?_eq_none (by simp; omega)] at h1
    cases h1
theorem mW_at {g : wG} {σ : wS} {k : Nat} {q : Nat × va_E} (h : (mW g σ)[k]? = some q) : k < 31 ∧ q.1 = g.2.1 k := by
  have h1 := congrArg (fun l => l[k]?) (mW_fst g σ)
  simp only [List.getElem?_map, h, Option.map_some] at h1
  by_cases hk : k < 31
  · rw [List.getElem?_range hk] at h1
    exact ⟨hk, Option.some.inj h1⟩
  · rw [List.getElem?_eq_none (by simp; omega)] at h1
    cases h1
theorem xD_of {g : wG} {σ : wS} {A : Nat → Prop} (h : va_D A (xW g σ)) : va_D (xA g) (xW g σ) := ⟨h.1, fun k q hk => ⟨k, xW_at hk⟩⟩
theorem mD_of {g : wG} {σ : wS} {A : Nat → Prop} (h : va_D A (mW g σ)) : va_D (mA g) (mW g σ) := ⟨h.1, fun k q hk => ⟨k, mW_at hk⟩⟩
set_option maxRecDepth 100000 in
set_option maxHeartbeats 4000000 in
theorem k_X5 (l : Launch) (D : va_G) (cI cJ : ClassId) (h0 sz : Nat) {QE QC : wS → Prop} (hwE : we_X1_init QE w0) (hwC : wc_X0_init QC w0) : Met l yX5_init wsX5_init ({ frames := 3, cells := 33, slots := 2639, locals := 65 } : Room) (va_Pc [.ref h0] (fun U => U.heap.size = sz ∧ va_P D vwCl [(h0, .inr (5, [.null, .null, .null, .null, .null, .null, .int 0, .int 0, .int 0, .int 0]))] U.heap ∧ va_K D vwCl [(cI, .int), (cJ, .long)] U ∧ va_Nw (.methodLinkNest RX5 11 yX2_init "PlateRoom") U ∧ va_Nw (.methodLinkNest RX5 18 yX4_init "PlateRoom") U ∧ va_Nw (.methodLinkNest RX5 39 yX3_init "PlateRoom") U)) (va_Qv (fun u : (Nat → Nat) × wS => u.1 0 = h0 ∧ ∃ σE σC : wS, QE σE ∧ QC σC ∧ u.2 = xInit σE σC) (fun u t => va_P D vwCl (xW (D, u.1, cI, cJ) u.2) t.heap ∧ va_K D vwCl [(cI, .int), (cJ, .long)] t ∧ va_D (va_A [(h0, .inr (5, [.null, .null, .null, .null, .null, .null, .int 0, .int 0, .int 0, .int 0]))] sz) (xW (D, u.1, cI, cJ) u.2)) (va_A [(h0, .inr (5, [.null, .null, .null, .null, .null, .null, .int 0, .int 0, .int 0, .int 0]))] sz)) 33 2639 (va_A [(h0, .inr (5, [.null, .null, .null, .null, .null, .null, .int 0, .int 0, .int 0, .int 0]))] sz) := by
  refine Met.ofW (cc := cX5_init) (maxL := 1) (ret := none) (by decide) rfl ?_
  intro p e s m args below meth c s₁ B hml hv
  obtain ⟨rfl, hsz, hP, hK, hN11, hN18, hN39⟩ := hv
  have hx := B.exec
  have hb := B.bytes
  have hr := B.returns
  have hts := atoms_spec (ws := wsX5_init) B.pre
  have hown : s.vm.findClass RX5 = some m.cls := findClass_of_methodNamed B.named
  have hlocks := B.notSynchronized
  have hin : meth.name = "<init>" := (name_of_methodNamed B.named B.method).1
  have hF : ∀ w ∈ wsX50, w.before [Value.ref h0].toArray s = true := fun w h => hts w (List.mem_cons_of_mem _ (List.mem_append_left _ (List.mem_append_left _ (List.mem_append_left _ (List.mem_append_left _ (List.mem_append_right _ h))))))
  have hFX2 : ∀ w ∈ wsX20, w.before [Value.ref h0].toArray s = true := fun w h => hts w (List.mem_cons_of_mem _ (List.mem_append_left _ (List.mem_append_left _ (List.mem_append_left _ (List.mem_append_left _ (List.mem_append_left _ (List.mem_append_right _ h)))))))
  have hFX4 : ∀ w ∈ wsX40, w.before [Value.ref h0].toArray s = true := fun w h => hts w (List.mem_cons_of_mem _ (List.mem_append_left _ (List.mem_append_left _ (List.mem_append_left _ (List.mem_append_right _ h)))))
  have hFX1 : ∀ w ∈ wsX10, w.before [Value.ref h0].toArray s = true := fun w h => hts w (List.mem_cons_of_mem _ (List.mem_append_left _ (List.mem_append_left _ (List.mem_append_right _ h))))
  have hFX0 : ∀ w ∈ wsX00, w.before [Value.ref h0].toArray s = true := fun w h => hts w (List.mem_cons_of_mem _ (List.mem_append_left _ (List.mem_append_right _ h)))
  have hFX3 : ∀ w ∈ wsX30, w.before [Value.ref h0].toArray s = true := fun w h => hts w (List.mem_cons_of_mem _ (List.mem_append_right _ h))
  subst hsz
  have hD : va_D (va_A [(h0, .inr (5, [.null, .null, .null, .null, .null, .null, .int 0, .int 0, .int 0, .int 0]))] s.heap.size) [(h0, .inr (5, [.null, .null, .null, .null, .null, .null, .int 0, .int 0, .int 0, .int 0]))] := kD1
  generalize hAe : va_A [(h0, .inr (5, [.null, .null, .null, .null, .null, .null, .int 0, .int 0, .int 0, .int 0]))] s.heap.size = A at hD ⊢
  have hA : ∀ q : Nat, s.heap.size ≤ q → A q := fun q h => by rw [← hAe]; exact Or.inr h
  have hS : va_S A s.heap s.heap [] := va_S.rf
  have hl := lv_entry ([.ref h0]) (n := 1) (Nat.le_of_ble_eq_true rfl)
  rw [lg_entry_eq]
  generalize (lg_sl ([.ref h0]) ++ List.replicate (1 - (lg_sl ([.ref h0])).length) Slot.unset).toArray = ls at hl ⊢
  have hl : lv_has ls 1 [(0, .ref h0)] := hl
  refine lv_aload_n hx hb dX5_init_0 rfl (lv_at hl 0 rfl) ?_
  refine W.objInit hx hb hown (hts _ (List.mem_of_getElem? (i := 1) rfl : (Cond.methodLink RX5 3 objectInit : Cond) ∈ wsX5_init)) (hts _ (List.mem_of_getElem? (i := 2) rfl : (Cond.instanceMethod objectInit : Cond) ∈ wsX5_init)) (hts _ (List.mem_of_getElem? (i := 3) rfl : (Cond.code objectInit ⟨#[0xb1]⟩ 1 none : Cond) ∈ wsX5_init)) rfl (by rw [hml]; exact hl.1) rfl dX5_init_1 (Nat.le_of_ble_eq_true rfl) (Nat.le_of_ble_eq_true rfl) ?_
  refine W.eq (g2 := F0 m 4 ls []) rfl ?_
  refine lv_aload_n hx hb dX5_init_4 rfl (lv_at hl 0 rfl) ?_
  refine va_new (ci := 2) (fs := [.null, .null, .null, .null, .null, .null, .null, .int 0]) (C := RX2) (T := TX2) (N := 8) hx hb hFX2 (fun _ h => h) tyX2 tyX2_ok hown (hts _ (List.mem_of_getElem? (i := 4) rfl : (Cond.classLink RX5 9 RX2 : Cond) ∈ wsX5_init)) (hts _ (List.mem_of_getElem? (i := 5) rfl : (Cond.instantiable RX2 8 : Cond) ∈ wsX5_init)) (hts _ (List.mem_of_getElem? (i := 6) rfl : (Cond.initialized RX2 : Cond) ∈ wsX5_init)) hK hP hD hS hA rfl (fun j hj => by rcases (show j = 0 ∨ j = 1 ∨ j = 2 ∨ j = 3 ∨ j = 4 ∨ j = 5 ∨ j = 6 ∨ j = 7 by omega) with rfl | rfl | rfl | rfl | rfl | rfl | rfl | rfl <;> rfl) (Nat.le_of_ble_eq_true rfl) (Nat.le_of_ble_eq_true rfl) dX5_init_5 (fun b1 H hP hD hS => ?_)
  have hP : va_P D vwCl ([(h0, .inr (5, [.null, .null, .null, .null, .null, .null, .int 0, .int 0, .int 0, .int 0]))] ++ [(b1, .inr (2, [.null, .null, .null, .null, .null, .null, .null, .int 0]))]) H := hP
  have hD : va_D A ([(h0, .inr (5, [.null, .null, .null, .null, .null, .null, .int 0, .int 0, .int 0, .int 0]))] ++ [(b1, .inr (2, [.null, .null, .null, .null, .null, .null, .null, .int 0]))]) := hD
  refine W.widen (k := 1) (n := 8) (by omega) (by omega) ?_
  refine lv_dup hx hb dX5_init_8 rfl ?_
  have hPc := hP.sub (ws' := [(b1, .inr (2, [.null, .null, .null, .null, .null, .null, .null, .int 0]))]) [1] rfl
  have hFc := va_free (wc := [(b1, .inr (2, [.null, .null, .null, .null, .null, .null, .null, .int 0]))]) hD hS hA [1] rfl
  refine va_callv (va_runIN (host := "PlateRoom") (As := []) (rest := [.ref b1, .ref h0]) ⟨hx, hb, hml, hown, hts⟩ (k_X2 l D cI cJ b1 H.size) ⟨va_cnB 0 hts gX5_init_X2_init_n11 rfl rfl rfl hN11 (hts _ (List.mem_of_getElem? (i := 6) rfl : (Cond.initialized RX2 : Cond) ∈ wsX5_init)) (by decide +kernel) ⟨Nat.le_of_ble_eq_true rfl, Nat.le_of_ble_eq_true rfl⟩, rfl, (hts _ (List.mem_of_getElem? (i := 27) rfl : (Cond.instanceMethod yX2_init : Cond) ∈ wsX5_init))⟩ ⟨fun a U g mk q => by obtain ⟨q0, q1, qP, qK⟩ := q; exact ⟨q0, q1, qP, va_K.moved (u := U) (U := U.calling g mk a) (Vm.Alike.refl U.vm) qK⟩, fun U hU hW => ⟨rfl, by rw [hU], by rw [hU]; exact hPc, va_K.moved hW.alike hK⟩⟩ rfl rfl hl.1 rfl (lv_room (Nat.le_of_ble_eq_true rfl)) dX5_init_9 ⟨Nat.le_of_ble_eq_true rfl, Nat.le_of_ble_eq_true rfl⟩) hS (fun q _ h => hFc q h) hFc (fun u1 t H1 locs ht hvm hw hB hz1 hk1 hS => ?_)
  obtain ⟨hP1, hK1, hD1⟩ := hB
  rw [ht] at hP1
  try dsimp only at hw
  obtain ⟨hP, hD⟩ := va_join (wr := [(h0, .inr (5, [.null, .null, .null, .null, .null, .null, .int 0, .int 0, .int 0, .int 0]))]) (w1 := fW (D, u1, cI, cJ) w0) hP hD [1] [0] rfl rfl (by decide) (by decide) hk1 hFc hP1 hD1
  generalize H1 = H at hP hS ⊢
  have he1 : u1 3 = b1 := hw
  have hP : va_P D vwCl ([(h0, .inr (5, [.null, .null, .null, .null, .null, .null, .int 0, .int 0, .int 0, .int 0]))] ++ fW (D, u1, cI, cJ) w0) H := hP
  have hD : va_D A ([(h0, .inr (5, [.null, .null, .null, .null, .null, .null, .int 0, .int 0, .int 0, .int 0]))] ++ fW (D, u1, cI, cJ) w0) := hD
  refine W.widen (k := 8) (n := 1008) (by omega) (by omega) ?_
  rw [← he1]
  refine va_putF (D := D) (ci := 5) (v := .ref (u1 3)) (ty := .object "PlateRoom$FactBook") (C := RX5) (T := TX5) (N := 10) hx hb hF (fun _ h => h) tyX5 tyX5_ok nmX5 hown hK hP hD hS 0 rfl rfl 0 (by decide) (hts _ (List.mem_of_getElem? (i := 7) rfl : (Cond.fieldLink RX5 12 "PlateRoom" "facts" "LPlateRoom$FactBook;" : Cond) ∈ wsX5_init)) (fun _ h9 => h9) rfl hin rfl (by decide +kernel) rfl rfl (Nat.le_of_ble_eq_true rfl) dX5_init_12 (fun H locs hP hD hS => ?_)
  have hP : va_P D vwCl ([(h0, .inr (5, [.ref (u1 3), .null, .null, .null, .null, .null, .int 0, .int 0, .int 0, .int 0]))] ++ fW (D, u1, cI, cJ) w0) H := hP
  have hD : va_D A ([(h0, .inr (5, [.ref (u1 3), .null, .null, .null, .null, .null, .int 0, .int 0, .int 0, .int 0]))] ++ fW (D, u1, cI, cJ) w0) := hD
  refine lv_aload_n hx hb dX5_init_15 rfl (lv_at hl 0 rfl) ?_
  refine va_new (ci := 4) (fs := [.null, .null, .null, .null, .null, .int 0]) (C := RX4) (T := TX4) (N := 6) hx hb hFX4 (fun _ h => h) tyX4 tyX4_ok hown (hts _ (List.mem_of_getElem? (i := 8) rfl : (Cond.classLink RX5 16 RX4 : Cond) ∈ wsX5_init)) (hts _ (List.mem_of_getElem? (i := 9) rfl : (Cond.instantiable RX4 6 : Cond) ∈ wsX5_init)) (hts _ (List.mem_of_getElem? (i := 10) rfl : (Cond.initialized RX4 : Cond) ∈ wsX5_init)) hK hP hD hS hA rfl (fun j hj => by rcases (show j = 0 ∨ j = 1 ∨ j = 2 ∨ j = 3 ∨ j = 4 ∨ j = 5 by omega) with rfl | rfl | rfl | rfl | rfl | rfl <;> rfl) (Nat.le_of_ble_eq_true rfl) (Nat.le_of_ble_eq_true rfl) dX5_init_16 (fun b2 H hP hD hS => ?_)
  have hP : va_P D vwCl ([(h0, .inr (5, [.ref (u1 3), .null, .null, .null, .null, .null, .int 0, .int 0, .int 0, .int 0]))] ++ fW (D, u1, cI, cJ) w0 ++ [(b2, .inr (4, [.null, .null, .null, .null, .null, .int 0]))]) H := hP
  have hD : va_D A ([(h0, .inr (5, [.ref (u1 3), .null, .null, .null, .null, .null, .int 0, .int 0, .int 0, .int 0]))] ++ fW (D, u1, cI, cJ) w0 ++ [(b2, .inr (4, [.null, .null, .null, .null, .null, .int 0]))]) := hD
  refine W.widen (k := 9) (n := 1014) (by omega) (by omega) ?_
  refine lv_dup hx hb dX5_init_19 rfl ?_
  have hPc := hP.sub (ws' := [(b2, .inr (4, [.null, .null, .null, .null, .null, .int 0]))]) [9] rfl
  have hFc := va_free (wc := [(b2, .inr (4, [.null, .null, .null, .null, .null, .int 0]))]) hD hS hA [9] rfl
  refine va_callv (va_runIN (host := "PlateRoom") (As := []) (rest := [.ref b2, .ref h0]) ⟨hx, hb, hml, hown, hts⟩ (k_X4 l D cI cJ b2 H.size) ⟨va_cnB 0 hts gX5_init_X4_init_n18 rfl rfl rfl hN18 (hts _ (List.mem_of_getElem? (i := 10) rfl : (Cond.initialized RX4 : Cond) ∈ wsX5_init)) (by decide +kernel) ⟨Nat.le_of_ble_eq_true rfl, Nat.le_of_ble_eq_true rfl⟩, rfl, (hts _ (List.mem_of_getElem? (i := 37) rfl : (Cond.instanceMethod yX4_init : Cond) ∈ wsX5_init))⟩ ⟨fun a U g mk q => by obtain ⟨q0, q1, qP, qK⟩ := q; exact ⟨q0, q1, qP, va_K.moved (u := U) (U := U.calling g mk a) (Vm.Alike.refl U.vm) qK⟩, fun U hU hW => ⟨rfl, by rw [hU], by rw [hU]; exact hPc, va_K.moved hW.alike hK⟩⟩ rfl rfl hl.1 rfl (lv_room (Nat.le_of_ble_eq_true rfl)) dX5_init_20 ⟨Nat.le_of_ble_eq_true rfl, Nat.le_of_ble_eq_true rfl⟩) hS (fun q _ h => hFc q h) hFc (fun u2 t H1 locs ht hvm hw hB hz1 hk1 hS => ?_)
  obtain ⟨hP1, hK1, hD1⟩ := hB
  rw [ht] at hP1
  try dsimp only at hw
  obtain ⟨hP, hD⟩ := va_join (wr := [(h0, .inr (5, [.ref (u1 3), .null, .null, .null, .null, .null, .int 0, .int 0, .int 0, .int 0]))] ++ fW (D, u1, cI, cJ) w0) (w1 := tW (D, u2, cI, cJ) w0) hP hD [9] [0, 1, 2, 3, 4, 5, 6, 7, 8] rfl rfl (by decide) (by decide) hk1 hFc hP1 hD1
  generalize H1 = H at hP hS ⊢
  have he2 : u2 5 = b2 := hw
  have hP : va_P D vwCl ([(h0, .inr (5, [.ref (u1 3), .null, .null, .null, .null, .null, .int 0, .int 0, .int 0, .int 0]))] ++ fW (D, u1, cI, cJ) w0 ++ tW (D, u2, cI, cJ) w0) H := hP
  have hD : va_D A ([(h0, .inr (5, [.ref (u1 3), .null, .null, .null, .null, .null, .int 0, .int 0, .int 0, .int 0]))] ++ fW (D, u1, cI, cJ) w0 ++ tW (D, u2, cI, cJ) w0) := hD
  refine W.widen (k := 14) (n := 1720) (by omega) (by omega) ?_
  rw [← he2]
  refine va_putF (D := D) (ci := 5) (v := .ref (u2 5)) (ty := .object "PlateRoom$TimeGraph") (C := RX5) (T := TX5) (N := 10) hx hb hF (fun _ h => h) tyX5 tyX5_ok nmX5 hown hK hP hD hS 0 rfl rfl 1 (by decide) (hts _ (List.mem_of_getElem? (i := 11) rfl : (Cond.fieldLink RX5 19 "PlateRoom" "graph" "LPlateRoom$TimeGraph;" : Cond) ∈ wsX5_init)) (fun _ h9 => h9) rfl hin rfl (by decide +kernel) rfl rfl (Nat.le_of_ble_eq_true rfl) dX5_init_23 (fun H locs hP hD hS => ?_)
  have hP : va_P D vwCl ([(h0, .inr (5, [.ref (u1 3), .ref (u2 5), .null, .null, .null, .null, .int 0, .int 0, .int 0, .int 0]))] ++ fW (D, u1, cI, cJ) w0 ++ tW (D, u2, cI, cJ) w0) H := hP
  have hD : va_D A ([(h0, .inr (5, [.ref (u1 3), .ref (u2 5), .null, .null, .null, .null, .int 0, .int 0, .int 0, .int 0]))] ++ fW (D, u1, cI, cJ) w0 ++ tW (D, u2, cI, cJ) w0) := hD
  refine lv_aload_n hx hb dX5_init_26 rfl (lv_at hl 0 rfl) ?_
  refine va_new (ci := 1) (fs := [.null, .null, .null, .null, .null]) (C := RX1) (T := TX1) (N := 5) hx hb hFX1 (fun _ h => h) tyX1 tyX1_ok hown (hts _ (List.mem_of_getElem? (i := 12) rfl : (Cond.classLink RX5 23 RX1 : Cond) ∈ wsX5_init)) (hts _ (List.mem_of_getElem? (i := 13) rfl : (Cond.instantiable RX1 5 : Cond) ∈ wsX5_init)) (hts _ (List.mem_of_getElem? (i := 14) rfl : (Cond.initialized RX1 : Cond) ∈ wsX5_init)) hK hP hD hS hA rfl (fun j hj => by rcases (show j = 0 ∨ j = 1 ∨ j = 2 ∨ j = 3 ∨ j = 4 by omega) with rfl | rfl | rfl | rfl | rfl <;> rfl) (Nat.le_of_ble_eq_true rfl) (Nat.le_of_ble_eq_true rfl) dX5_init_27 (fun b3 H hP hD hS => ?_)
  have hP : va_P D vwCl ([(h0, .inr (5, [.ref (u1 3), .ref (u2 5), .null, .null, .null, .null, .int 0, .int 0, .int 0, .int 0]))] ++ fW (D, u1, cI, cJ) w0 ++ tW (D, u2, cI, cJ) w0 ++ [(b3, .inr (1, [.null, .null, .null, .null, .null]))]) H := hP
  have hD : va_D A ([(h0, .inr (5, [.ref (u1 3), .ref (u2 5), .null, .null, .null, .null, .int 0, .int 0, .int 0, .int 0]))] ++ fW (D, u1, cI, cJ) w0 ++ tW (D, u2, cI, cJ) w0 ++ [(b3, .inr (1, [.null, .null, .null, .null, .null]))]) := hD
  refine W.widen (k := 15) (n := 1725) (by omega) (by omega) ?_
  refine lv_dup hx hb dX5_init_30 rfl ?_
  have hPc := hP.sub (ws' := [(b3, .inr (1, [.null, .null, .null, .null, .null]))]) [15] rfl
  have hFc := va_free (wc := [(b3, .inr (1, [.null, .null, .null, .null, .null]))]) hD hS hA [15] rfl
  refine va_callv (va_runI (As := []) (rest := [.ref b3, .ref h0]) ⟨hx, hb, hml, hown, hts⟩ (k_X1 l D cI cJ b3 H.size hwE) (cwI 0 hts gX5_init_X1_init rfl rfl rfl (hts _ (List.mem_of_getElem? (i := 14) rfl : (Cond.initialized RX1 : Cond) ∈ wsX5_init)) (hts _ (List.mem_of_getElem? (i := 45) rfl : (Cond.methodLink RX5 25 yX1_init : Cond) ∈ wsX5_init)) (hts _ (List.mem_of_getElem? (i := 46) rfl : (Cond.instanceMethod yX1_init : Cond) ∈ wsX5_init)) rfl (by decide +kernel) ⟨Nat.le_of_ble_eq_true rfl, Nat.le_of_ble_eq_true rfl⟩) ⟨fun a U g mk q => by obtain ⟨q0, q1, qP, qK⟩ := q; exact ⟨q0, q1, qP, va_K.moved (u := U) (U := U.calling g mk a) (Vm.Alike.refl U.vm) qK⟩, fun U hU hW => ⟨rfl, by rw [hU], by rw [hU]; exact hPc, va_K.moved hW.alike hK⟩⟩ rfl rfl hl.1 rfl (lv_room (Nat.le_of_ble_eq_true rfl)) dX5_init_31 ⟨Nat.le_of_ble_eq_true rfl, Nat.le_of_ble_eq_true rfl⟩) hS (fun q _ h => hFc q h) hFc (fun u3 t H1 locs ht hvm hw hB hz1 hk1 hS => ?_)
  obtain ⟨hP1, hK1, hD1⟩ := hB
  rw [ht] at hP1
  try dsimp only at hw
  obtain ⟨hP, hD⟩ := va_join (wr := [(h0, .inr (5, [.ref (u1 3), .ref (u2 5), .null, .null, .null, .null, .int 0, .int 0, .int 0, .int 0]))] ++ fW (D, u1, cI, cJ) w0 ++ tW (D, u2, cI, cJ) w0) (w1 := eW (D, u3.1, cI, cJ) u3.2) hP hD [15] [0, 1, 2, 3, 4, 5, 6, 7, 8, 9, 10, 11, 12, 13, 14] rfl rfl (by decide) (by decide) hk1 hFc hP1 hD1
  generalize H1 = H at hP hS ⊢
  have he3 : u3.1 2 = b3 := hw.1
  have hqe := hw.2
  have hP : va_P D vwCl ([(h0, .inr (5, [.ref (u1 3), .ref (u2 5), .null, .null, .null, .null, .int 0, .int 0, .int 0, .int 0]))] ++ fW (D, u1, cI, cJ) w0 ++ tW (D, u2, cI, cJ) w0 ++ eW (D, u3.1, cI, cJ) u3.2) H := hP
  have hD : va_D A ([(h0, .inr (5, [.ref (u1 3), .ref (u2 5), .null, .null, .null, .null, .int 0, .int 0, .int 0, .int 0]))] ++ fW (D, u1, cI, cJ) w0 ++ tW (D, u2, cI, cJ) w0 ++ eW (D, u3.1, cI, cJ) u3.2) := hD
  refine W.widen (k := 20) (n := 1825) (by omega) (by omega) ?_
  rw [← he3]
  refine va_putF (D := D) (ci := 5) (v := .ref (u3.1 2)) (ty := .object "PlateRoom$EdgeTable") (C := RX5) (T := TX5) (N := 10) hx hb hF (fun _ h => h) tyX5 tyX5_ok nmX5 hown hK hP hD hS 0 rfl rfl 2 (by decide) (hts _ (List.mem_of_getElem? (i := 15) rfl : (Cond.fieldLink RX5 26 "PlateRoom" "table" "LPlateRoom$EdgeTable;" : Cond) ∈ wsX5_init)) (fun _ h9 => h9) rfl hin rfl (by decide +kernel) rfl rfl (Nat.le_of_ble_eq_true rfl) dX5_init_34 (fun H locs hP hD hS => ?_)
  have hP : va_P D vwCl ([(h0, .inr (5, [.ref (u1 3), .ref (u2 5), .ref (u3.1 2), .null, .null, .null, .int 0, .int 0, .int 0, .int 0]))] ++ fW (D, u1, cI, cJ) w0 ++ tW (D, u2, cI, cJ) w0 ++ eW (D, u3.1, cI, cJ) u3.2) H := hP
  have hD : va_D A ([(h0, .inr (5, [.ref (u1 3), .ref (u2 5), .ref (u3.1 2), .null, .null, .null, .int 0, .int 0, .int 0, .int 0]))] ++ fW (D, u1, cI, cJ) w0 ++ tW (D, u2, cI, cJ) w0 ++ eW (D, u3.1, cI, cJ) u3.2) := hD
  refine lv_aload_n hx hb dX5_init_37 rfl (lv_at hl 0 rfl) ?_
  refine va_new (ci := 0) (fs := [.null, .null, .null, .null, .null, .long 0]) (C := RX0) (T := TX0) (N := 6) hx hb hFX0 (fun _ h => h) tyX0 tyX0_ok hown (hts _ (List.mem_of_getElem? (i := 16) rfl : (Cond.classLink RX5 30 RX0 : Cond) ∈ wsX5_init)) (hts _ (List.mem_of_getElem? (i := 17) rfl : (Cond.instantiable RX0 6 : Cond) ∈ wsX5_init)) (hts _ (List.mem_of_getElem? (i := 18) rfl : (Cond.initialized RX0 : Cond) ∈ wsX5_init)) hK hP hD hS hA rfl (fun j hj => by rcases (show j = 0 ∨ j = 1 ∨ j = 2 ∨ j = 3 ∨ j = 4 ∨ j = 5 by omega) with rfl | rfl | rfl | rfl | rfl | rfl <;> rfl) (Nat.le_of_ble_eq_true rfl) (Nat.le_of_ble_eq_true rfl) dX5_init_38 (fun b4 H hP hD hS => ?_)
  have hP : va_P D vwCl ([(h0, .inr (5, [.ref (u1 3), .ref (u2 5), .ref (u3.1 2), .null, .null, .null, .int 0, .int 0, .int 0, .int 0]))] ++ fW (D, u1, cI, cJ) w0 ++ tW (D, u2, cI, cJ) w0 ++ eW (D, u3.1, cI, cJ) u3.2 ++ [(b4, .inr (0, [.null, .null, .null, .null, .null, .long 0]))]) H := hP
  have hD : va_D A ([(h0, .inr (5, [.ref (u1 3), .ref (u2 5), .ref (u3.1 2), .null, .null, .null, .int 0, .int 0, .int 0, .int 0]))] ++ fW (D, u1, cI, cJ) w0 ++ tW (D, u2, cI, cJ) w0 ++ eW (D, u3.1, cI, cJ) u3.2 ++ [(b4, .inr (0, [.null, .null, .null, .null, .null, .long 0]))]) := hD
  refine W.widen (k := 21) (n := 1831) (by omega) (by omega) ?_
  refine lv_dup hx hb dX5_init_41 rfl ?_
  have hPc := hP.sub (ws' := [(b4, .inr (0, [.null, .null, .null, .null, .null, .long 0]))]) [21] rfl
  have hFc := va_free (wc := [(b4, .inr (0, [.null, .null, .null, .null, .null, .long 0]))]) hD hS hA [21] rfl
  refine va_callv (va_runI (As := []) (rest := [.ref b4, .ref h0]) ⟨hx, hb, hml, hown, hts⟩ (k_X0 l D cI cJ b4 H.size hwC) (cwI 0 hts gX5_init_X0_init rfl rfl rfl (hts _ (List.mem_of_getElem? (i := 18) rfl : (Cond.initialized RX0 : Cond) ∈ wsX5_init)) (hts _ (List.mem_of_getElem? (i := 61) rfl : (Cond.methodLink RX5 32 yX0_init : Cond) ∈ wsX5_init)) (hts _ (List.mem_of_getElem? (i := 62) rfl : (Cond.instanceMethod yX0_init : Cond) ∈ wsX5_init)) rfl (by decide +kernel) ⟨Nat.le_of_ble_eq_true rfl, Nat.le_of_ble_eq_true rfl⟩) ⟨fun a U g mk q => by obtain ⟨q0, q1, qP, qK⟩ := q; exact ⟨q0, q1, qP, va_K.moved (u := U) (U := U.calling g mk a) (Vm.Alike.refl U.vm) qK⟩, fun U hU hW => ⟨rfl, by rw [hU], by rw [hU]; exact hPc, va_K.moved hW.alike hK⟩⟩ rfl rfl hl.1 rfl (lv_room (Nat.le_of_ble_eq_true rfl)) dX5_init_42 ⟨Nat.le_of_ble_eq_true rfl, Nat.le_of_ble_eq_true rfl⟩) hS (fun q _ h => hFc q h) hFc (fun u4 t H1 locs ht hvm hw hB hz1 hk1 hS => ?_)
  obtain ⟨hP1, hK1, hD1⟩ := hB
  rw [ht] at hP1
  try dsimp only at hw
  obtain ⟨hP, hD⟩ := va_join (wr := [(h0, .inr (5, [.ref (u1 3), .ref (u2 5), .ref (u3.1 2), .null, .null, .null, .int 0, .int 0, .int 0, .int 0]))] ++ fW (D, u1, cI, cJ) w0 ++ tW (D, u2, cI, cJ) w0 ++ eW (D, u3.1, cI, cJ) u3.2) (w1 := cW (D, u4.1, cI, cJ) u4.2) hP hD [21] [0, 1, 2, 3, 4, 5, 6, 7, 8, 9, 10, 11, 12, 13, 14, 15, 16, 17, 18, 19, 20] rfl rfl (by decide) (by decide) hk1 hFc hP1 hD1
  generalize H1 = H at hP hS ⊢
  have he4 : u4.1 1 = b4 := hw.1
  have hqc := hw.2
  have hP : va_P D vwCl ([(h0, .inr (5, [.ref (u1 3), .ref (u2 5), .ref (u3.1 2), .null, .null, .null, .int 0, .int 0, .int 0, .int 0]))] ++ fW (D, u1, cI, cJ) w0 ++ tW (D, u2, cI, cJ) w0 ++ eW (D, u3.1, cI, cJ) u3.2 ++ cW (D, u4.1, cI, cJ) u4.2) H := hP
  have hD : va_D A ([(h0, .inr (5, [.ref (u1 3), .ref (u2 5), .ref (u3.1 2), .null, .null, .null, .int 0, .int 0, .int 0, .int 0]))] ++ fW (D, u1, cI, cJ) w0 ++ tW (D, u2, cI, cJ) w0 ++ eW (D, u3.1, cI, cJ) u3.2 ++ cW (D, u4.1, cI, cJ) u4.2) := hD
  refine W.widen (k := 26) (n := 2412) (by omega) (by omega) ?_
  rw [← he4]
  refine va_putF (D := D) (ci := 5) (v := .ref (u4.1 1)) (ty := .object "PlateRoom$CopyPlan") (C := RX5) (T := TX5) (N := 10) hx hb hF (fun _ h => h) tyX5 tyX5_ok nmX5 hown hK hP hD hS 0 rfl rfl 3 (by decide) (hts _ (List.mem_of_getElem? (i := 19) rfl : (Cond.fieldLink RX5 33 "PlateRoom" "plan" "LPlateRoom$CopyPlan;" : Cond) ∈ wsX5_init)) (fun _ h9 => h9) rfl hin rfl (by decide +kernel) rfl rfl (Nat.le_of_ble_eq_true rfl) dX5_init_45 (fun H locs hP hD hS => ?_)
  have hP : va_P D vwCl ([(h0, .inr (5, [.ref (u1 3), .ref (u2 5), .ref (u3.1 2), .ref (u4.1 1), .null, .null, .int 0, .int 0, .int 0, .int 0]))] ++ fW (D, u1, cI, cJ) w0 ++ tW (D, u2, cI, cJ) w0 ++ eW (D, u3.1, cI, cJ) u3.2 ++ cW (D, u4.1, cI, cJ) u4.2) H := hP
  have hD : va_D A ([(h0, .inr (5, [.ref (u1 3), .ref (u2 5), .ref (u3.1 2), .ref (u4.1 1), .null, .null, .int 0, .int 0, .int 0, .int 0]))] ++ fW (D, u1, cI, cJ) w0 ++ tW (D, u2, cI, cJ) w0 ++ eW (D, u3.1, cI, cJ) u3.2 ++ cW (D, u4.1, cI, cJ) u4.2) := hD
  refine lv_aload_n hx hb dX5_init_48 rfl (lv_at hl 0 rfl) ?_
  refine va_new (ci := 3) (fs := [.null, .null, .null, .null, .null, .int 0, .int 0]) (C := RX3) (T := TX3) (N := 7) hx hb hFX3 (fun _ h => h) tyX3 tyX3_ok hown (hts _ (List.mem_of_getElem? (i := 20) rfl : (Cond.classLink RX5 37 RX3 : Cond) ∈ wsX5_init)) (hts _ (List.mem_of_getElem? (i := 21) rfl : (Cond.instantiable RX3 7 : Cond) ∈ wsX5_init)) (hts _ (List.mem_of_getElem? (i := 22) rfl : (Cond.initialized RX3 : Cond) ∈ wsX5_init)) hK hP hD hS hA rfl (fun j hj => by rcases (show j = 0 ∨ j = 1 ∨ j = 2 ∨ j = 3 ∨ j = 4 ∨ j = 5 ∨ j = 6 by omega) with rfl | rfl | rfl | rfl | rfl | rfl | rfl <;> rfl) (Nat.le_of_ble_eq_true rfl) (Nat.le_of_ble_eq_true rfl) dX5_init_49 (fun b5 H hP hD hS => ?_)
  have hP : va_P D vwCl ([(h0, .inr (5, [.ref (u1 3), .ref (u2 5), .ref (u3.1 2), .ref (u4.1 1), .null, .null, .int 0, .int 0, .int 0, .int 0]))] ++ fW (D, u1, cI, cJ) w0 ++ tW (D, u2, cI, cJ) w0 ++ eW (D, u3.1, cI, cJ) u3.2 ++ cW (D, u4.1, cI, cJ) u4.2 ++ [(b5, .inr (3, [.null, .null, .null, .null, .null, .int 0, .int 0]))]) H := hP
  have hD : va_D A ([(h0, .inr (5, [.ref (u1 3), .ref (u2 5), .ref (u3.1 2), .ref (u4.1 1), .null, .null, .int 0, .int 0, .int 0, .int 0]))] ++ fW (D, u1, cI, cJ) w0 ++ tW (D, u2, cI, cJ) w0 ++ eW (D, u3.1, cI, cJ) u3.2 ++ cW (D, u4.1, cI, cJ) u4.2 ++ [(b5, .inr (3, [.null, .null, .null, .null, .null, .int 0, .int 0]))]) := hD
  refine W.widen (k := 27) (n := 2419) (by omega) (by omega) ?_
  refine lv_dup hx hb dX5_init_52 rfl ?_
  have hPc := hP.sub (ws' := [(b5, .inr (3, [.null, .null, .null, .null, .null, .int 0, .int 0]))]) [27] rfl
  have hFc := va_free (wc := [(b5, .inr (3, [.null, .null, .null, .null, .null, .int 0, .int 0]))]) hD hS hA [27] rfl
  refine va_callv (va_runIN (host := "PlateRoom") (As := []) (rest := [.ref b5, .ref h0]) ⟨hx, hb, hml, hown, hts⟩ (k_X3 l D cI cJ b5 H.size) ⟨va_cnB 0 hts gX5_init_X3_init_n39 rfl rfl rfl hN39 (hts _ (List.mem_of_getElem? (i := 22) rfl : (Cond.initialized RX3 : Cond) ∈ wsX5_init)) (by decide +kernel) ⟨Nat.le_of_ble_eq_true rfl, Nat.le_of_ble_eq_true rfl⟩, rfl, (hts _ (List.mem_of_getElem? (i := 75) rfl : (Cond.instanceMethod yX3_init : Cond) ∈ wsX5_init))⟩ ⟨fun a U g mk q => by obtain ⟨q0, q1, qP, qK⟩ := q; exact ⟨q0, q1, qP, va_K.moved (u := U) (U := U.calling g mk a) (Vm.Alike.refl U.vm) qK⟩, fun U hU hW => ⟨rfl, by rw [hU], by rw [hU]; exact hPc, va_K.moved hW.alike hK⟩⟩ rfl rfl hl.1 rfl (lv_room (Nat.le_of_ble_eq_true rfl)) dX5_init_53 ⟨Nat.le_of_ble_eq_true rfl, Nat.le_of_ble_eq_true rfl⟩) hS (fun q _ h => hFc q h) hFc (fun u5 t H1 locs ht hvm hw hB hz1 hk1 hS => ?_)
  obtain ⟨hP1, hK1, hD1⟩ := hB
  rw [ht] at hP1
  try dsimp only at hw
  obtain ⟨hP, hD⟩ := va_join (wr := [(h0, .inr (5, [.ref (u1 3), .ref (u2 5), .ref (u3.1 2), .ref (u4.1 1), .null, .null, .int 0, .int 0, .int 0, .int 0]))] ++ fW (D, u1, cI, cJ) w0 ++ tW (D, u2, cI, cJ) w0 ++ eW (D, u3.1, cI, cJ) u3.2 ++ cW (D, u4.1, cI, cJ) u4.2) (w1 := rW (D, u5, cI, cJ) w0) hP hD [27] [0, 1, 2, 3, 4, 5, 6, 7, 8, 9, 10, 11, 12, 13, 14, 15, 16, 17, 18, 19, 20, 21, 22, 23, 24, 25, 26] rfl rfl (by decide) (by decide) hk1 hFc hP1 hD1
  generalize H1 = H at hP hS ⊢
  have he5 : u5 4 = b5 := hw
  have hP : va_P D vwCl ([(h0, .inr (5, [.ref (u1 3), .ref (u2 5), .ref (u3.1 2), .ref (u4.1 1), .null, .null, .int 0, .int 0, .int 0, .int 0]))] ++ fW (D, u1, cI, cJ) w0 ++ tW (D, u2, cI, cJ) w0 ++ eW (D, u3.1, cI, cJ) u3.2 ++ cW (D, u4.1, cI, cJ) u4.2 ++ rW (D, u5, cI, cJ) w0) H := hP
  have hD : va_D A ([(h0, .inr (5, [.ref (u1 3), .ref (u2 5), .ref (u3.1 2), .ref (u4.1 1), .null, .null, .int 0, .int 0, .int 0, .int 0]))] ++ fW (D, u1, cI, cJ) w0 ++ tW (D, u2, cI, cJ) w0 ++ eW (D, u3.1, cI, cJ) u3.2 ++ cW (D, u4.1, cI, cJ) u4.2 ++ rW (D, u5, cI, cJ) w0) := hD
  refine W.widen (k := 32) (n := 2619) (by omega) (by omega) ?_
  rw [← he5]
  refine va_putF (D := D) (ci := 5) (v := .ref (u5 4)) (ty := .object "PlateRoom$RightsBook") (C := RX5) (T := TX5) (N := 10) hx hb hF (fun _ h => h) tyX5 tyX5_ok nmX5 hown hK hP hD hS 0 rfl rfl 4 (by decide) (hts _ (List.mem_of_getElem? (i := 23) rfl : (Cond.fieldLink RX5 40 "PlateRoom" "rights" "LPlateRoom$RightsBook;" : Cond) ∈ wsX5_init)) (fun _ h9 => h9) rfl hin rfl (by decide +kernel) rfl rfl (Nat.le_of_ble_eq_true rfl) dX5_init_56 (fun H locs hP hD hS => ?_)
  have hP : va_P D vwCl ([(h0, .inr (5, [.ref (u1 3), .ref (u2 5), .ref (u3.1 2), .ref (u4.1 1), .ref (u5 4), .null, .int 0, .int 0, .int 0, .int 0]))] ++ fW (D, u1, cI, cJ) w0 ++ tW (D, u2, cI, cJ) w0 ++ eW (D, u3.1, cI, cJ) u3.2 ++ cW (D, u4.1, cI, cJ) u4.2 ++ rW (D, u5, cI, cJ) w0) H := hP
  have hD : va_D A ([(h0, .inr (5, [.ref (u1 3), .ref (u2 5), .ref (u3.1 2), .ref (u4.1 1), .ref (u5 4), .null, .int 0, .int 0, .int 0, .int 0]))] ++ fW (D, u1, cI, cJ) w0 ++ tW (D, u2, cI, cJ) w0 ++ eW (D, u3.1, cI, cJ) u3.2 ++ cW (D, u4.1, cI, cJ) u4.2 ++ rW (D, u5, cI, cJ) w0) := hD
  refine lv_aload_n hx hb dX5_init_59 rfl (lv_at hl 0 rfl) ?_
  refine lv_bipush (v := 20) hx hb dX5_init_60 (by decide) ?_
  refine newaI (N := 20) hx hb (hts _ (List.mem_of_getElem? (i := 24) rfl : (Cond.arrayClass .int : Cond) ∈ wsX5_init)) hK hP hD hS hA (by decide) (by decide) (by decide) (Nat.le_of_ble_eq_true rfl) (Nat.le_of_ble_eq_true rfl) dX5_init_62 (fun b6 H hP hD hS => ?_)
  have hP : va_P D vwCl ([(h0, .inr (5, [.ref (u1 3), .ref (u2 5), .ref (u3.1 2), .ref (u4.1 1), .ref (u5 4), .null, .int 0, .int 0, .int 0, .int 0]))] ++ fW (D, u1, cI, cJ) w0 ++ tW (D, u2, cI, cJ) w0 ++ eW (D, u3.1, cI, cJ) u3.2 ++ cW (D, u4.1, cI, cJ) u4.2 ++ rW (D, u5, cI, cJ) w0 ++ [(b6, .inl (cI, 20, .inl (fun _ => 0)))]) H := hP
  have hD : va_D A ([(h0, .inr (5, [.ref (u1 3), .ref (u2 5), .ref (u3.1 2), .ref (u4.1 1), .ref (u5 4), .null, .int 0, .int 0, .int 0, .int 0]))] ++ fW (D, u1, cI, cJ) w0 ++ tW (D, u2, cI, cJ) w0 ++ eW (D, u3.1, cI, cJ) u3.2 ++ cW (D, u4.1, cI, cJ) u4.2 ++ rW (D, u5, cI, cJ) w0 ++ [(b6, .inl (cI, 20, .inl (fun _ => 0)))]) := hD
  refine W.widen (k := 33) (n := 2639) (by omega) (by omega) ?_
  refine va_putF (D := D) (ci := 5) (v := .ref b6) (ty := .array .int) (C := RX5) (T := TX5) (N := 10) hx hb hF (fun _ h => h) tyX5 tyX5_ok nmX5 hown hK hP hD hS 0 rfl rfl 5 (by decide) (hts _ (List.mem_of_getElem? (i := 25) rfl : (Cond.fieldLink RX5 44 "PlateRoom" "outRow" "[I" : Cond) ∈ wsX5_init)) (fun _ h9 => h9) rfl hin rfl (by decide +kernel) rfl rfl (Nat.le_of_ble_eq_true rfl) dX5_init_64 (fun H locs hP hD hS => ?_)
  have hP : va_P D vwCl ([(h0, .inr (5, [.ref (u1 3), .ref (u2 5), .ref (u3.1 2), .ref (u4.1 1), .ref (u5 4), .ref b6, .int 0, .int 0, .int 0, .int 0]))] ++ fW (D, u1, cI, cJ) w0 ++ tW (D, u2, cI, cJ) w0 ++ eW (D, u3.1, cI, cJ) u3.2 ++ cW (D, u4.1, cI, cJ) u4.2 ++ rW (D, u5, cI, cJ) w0 ++ [(b6, .inl (cI, 20, .inl (fun _ => 0)))]) H := hP
  have hD : va_D A ([(h0, .inr (5, [.ref (u1 3), .ref (u2 5), .ref (u3.1 2), .ref (u4.1 1), .ref (u5 4), .ref b6, .int 0, .int 0, .int 0, .int 0]))] ++ fW (D, u1, cI, cJ) w0 ++ tW (D, u2, cI, cJ) w0 ++ eW (D, u3.1, cI, cJ) u3.2 ++ cW (D, u4.1, cI, cJ) u4.2 ++ rW (D, u5, cI, cJ) w0 ++ [(b6, .inl (cI, 20, .inl (fun _ => 0)))]) := hD
  refine lv_aload_n hx hb dX5_init_67 rfl (lv_at hl 0 rfl) ?_
  refine lv_iconst (v := 0) hx hb dX5_init_68 (by decide) ?_
  refine va_put (D := D) (ci := 5) (v := .int 0) (ty := .int) (C := RX5) (T := TX5) (N := 10) hx hb hF (fun _ h => h) tyX5 tyX5_ok nmX5 hown hK hP hD hS 0 rfl rfl 9 (by decide) (hts _ (List.mem_of_getElem? (i := 26) rfl : (Cond.fieldLink RX5 48 "PlateRoom" "lastStatus" "I" : Cond) ∈ wsX5_init)) (fun _ h => h) rfl (by decide +kernel) rfl rfl (Nat.le_of_ble_eq_true rfl) dX5_init_69 (fun H locs hP hD hS => ?_)
  have hP : va_P D vwCl ([(h0, .inr (5, [.ref (u1 3), .ref (u2 5), .ref (u3.1 2), .ref (u4.1 1), .ref (u5 4), .ref b6, .int 0, .int 0, .int 0, .int 0]))] ++ fW (D, u1, cI, cJ) w0 ++ tW (D, u2, cI, cJ) w0 ++ eW (D, u3.1, cI, cJ) u3.2 ++ cW (D, u4.1, cI, cJ) u4.2 ++ rW (D, u5, cI, cJ) w0 ++ [(b6, .inl (cI, 20, .inl (fun _ => 0)))]) H := hP
  have hD : va_D A ([(h0, .inr (5, [.ref (u1 3), .ref (u2 5), .ref (u3.1 2), .ref (u4.1 1), .ref (u5 4), .ref b6, .int 0, .int 0, .int 0, .int 0]))] ++ fW (D, u1, cI, cJ) w0 ++ tW (D, u2, cI, cJ) w0 ++ eW (D, u3.1, cI, cJ) u3.2 ++ cW (D, u4.1, cI, cJ) u4.2 ++ rW (D, u5, cI, cJ) w0 ++ [(b6, .inl (cI, 20, .inl (fun _ => 0)))]) := hD
  have hP9 : va_P D vwCl (xW (D, (fun k => ([h0, u4.1 1, u3.1 2, u1 3, u5 4, u2 5, b6, u4.1 7, u4.1 8, u4.1 9, u4.1 10, u4.1 11, u3.1 12, u3.1 13, u3.1 14, u3.1 15, u3.1 16, u1 17, u1 18, u1 19, u1 20, u1 21, u1 22, u1 23, u5 24, u5 25, u5 26, u5 27, u5 28, u2 29, u2 30, u2 31, u2 32, u2 33] : List Nat).getD k h0), cI, cJ) (xInit u3.2 u4.2)) H := hP.sub [0, 21, 15, 1, 27, 9, 33, 22, 23, 24, 25, 26, 16, 17, 18, 19, 20, 2, 3, 4, 5, 6, 7, 8, 28, 29, 30, 31, 32, 10, 11, 12, 13, 14] rfl
  have hD9 : va_D A (xW (D, (fun k => ([h0, u4.1 1, u3.1 2, u1 3, u5 4, u2 5, b6, u4.1 7, u4.1 8, u4.1 9, u4.1 10, u4.1 11, u3.1 12, u3.1 13, u3.1 14, u3.1 15, u3.1 16, u1 17, u1 18, u1 19, u1 20, u1 21, u1 22, u1 23, u5 24, u5 25, u5 26, u5 27, u5 28, u2 29, u2 30, u2 31, u2 32, u2 33] : List Nat).getD k h0), cI, cJ) (xInit u3.2 u4.2)) := hD.sub [0, 21, 15, 1, 27, 9, 33, 22, 23, 24, 25, 26, 16, 17, 18, 19, 20, 2, 3, 4, 5, 6, 7, 8, 28, 29, 30, 31, 32, 10, 11, 12, 13, 14] (by decide) rfl
  exact W.vret hx hb hr (fun t ht hW => ⟨⟨((fun k => ([h0, u4.1 1, u3.1 2, u1 3, u5 4, u2 5, b6, u4.1 7, u4.1 8, u4.1 9, u4.1 10, u4.1 11, u3.1 12, u3.1 13, u3.1 14, u3.1 15, u3.1 16, u1 17, u1 18, u1 19, u1 20, u1 21, u1 22, u1 23, u5 24, u5 25, u5 26, u5 27, u5 28, u2 29, u2 30, u2 31, u2 32, u2 33] : List Nat).getD k h0), xInit u3.2 u4.2), rfl, ⟨rfl, u3.2, u4.2, hqe, hqc, rfl⟩, by rw [ht]; exact hP9, va_K.moved hW.alike hK, hD9⟩, hS.F ht⟩) hS.2.2 dX5_init_72
