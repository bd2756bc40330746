def we_X1_init_L46 (Q : wS → Prop) (K46 : (Int32 × wS) → Prop) (v : Int32 × wS) : Prop :=
  match v with
  | (x1, σ) => ((20 ≤ x1 → Q σ) ∧ (¬ 20 ≤ x1 → we_X1_compare (fun σ1 => ∀ a2 : Int32, a2 = x1 + 1 → K46 (a2, σ1)) x1 σ))
def we_X1_init (Q : wS → Prop) (σ : wS) : Prop :=
  ∃ n, wloop (we_X1_init_L46 Q) n (0, σ)
def wc_X0_init (Q : wS → Prop) (σ : wS) : Prop :=
  wc_J7_fill_53178_hours (fun σ1 => wc_J7_fill_53178_lost (fun σ2 => Q σ2) 500 σ1) 1 σ
set_option maxRecDepth 100000 in
set_option maxHeartbeats 4000000 in
theorem k_X1 (l : Launch) (D : va_G) (cI cJ : ClassId) (h0 sz : Nat) {Q : wS → Prop} (hw : we_X1_init Q w0) : Met l yX1_init wsX1_init ({ frames := 2, cells := 5, slots := 100, locals := 44 } : Room) (va_Pc [.ref h0] (fun U => U.heap.size = sz ∧ va_P D vwCl [(h0, .inr (1, [.null, .null, .null, .null, .null]))] U.heap ∧ va_K D vwCl [(cI, .int), (cJ, .long)] U)) (va_Qv (fun u : (Nat → Nat) × wS => u.1 2 = h0 ∧ Q u.2) (fun u t => va_P D vwCl (eW (D, u.1, cI, cJ) u.2) t.heap ∧ va_K D vwCl [(cI, .int), (cJ, .long)] t ∧ va_D (va_A [(h0, .inr (1, [.null, .null, .null, .null, .null]))] sz) (eW (D, u.1, cI, cJ) u.2)) (va_A [(h0, .inr (1, [.null, .null, .null, .null, .null]))] sz)) 5 100 (va_A [(h0, .inr (1, [.null, .null, .null, .null, .null]))] sz) := by
  refine Met.ofW (cc := cX1_init) (maxL := 2) (ret := none) (by decide) rfl ?_
  intro p e s m args below meth c s₁ B hml hv
  obtain ⟨rfl, hsz, hP, hK⟩ := hv
  have hx := B.exec
  have hb := B.bytes
  have hr := B.returns
  have hts := atoms_spec (ws := wsX1_init) B.pre
  have hown : s.vm.findClass RX1 = some m.cls := findClass_of_methodNamed B.named
  have hlocks := B.notSynchronized
  have hin : meth.name = "<init>" := (name_of_methodNamed B.named B.method).1
  have hF : ∀ w ∈ wsX10, w.before [Value.ref h0].toArray s = true := fun w h => hts w (List.mem_cons_of_mem _ (List.mem_append_right _ h))
  subst hsz
  have hD : va_D (va_A [(h0, .inr (1, [.null, .null, .null, .null, .null]))] s.heap.size) [(h0, .inr (1, [.null, .null, .null, .null, .null]))] := kD1
  generalize hAe : va_A [(h0, .inr (1, [.null, .null, .null, .null, .null]))] s.heap.size = A at hD ⊢
  have hA : ∀ q : Nat, s.heap.size ≤ q → A q := fun q h => by rw [← hAe]; exact Or.inr h
  have hS : va_S A s.heap s.heap [] := va_S.rf
  have hl := lv_entry ([.ref h0]) (n := 2) (Nat.le_of_ble_eq_true rfl)
  rw [lg_entry_eq]
  generalize (lg_sl ([.ref h0]) ++ List.replicate (2 - (lg_sl ([.ref h0])).length) Slot.unset).toArray = ls at hl ⊢
  have hl : lv_has ls 2 [(0, .ref h0)] := hl
  refine lv_aload_n hx hb dX1_init_0 rfl (lv_at hl 0 rfl) ?_
  refine W.objInit hx hb hown (hts _ (List.mem_of_getElem? (i := 1) rfl : (Cond.methodLink RX1 3 objectInit : Cond) ∈ wsX1_init)) (hts _ (List.mem_of_getElem? (i := 2) rfl : (Cond.instanceMethod objectInit : Cond) ∈ wsX1_init)) (hts _ (List.mem_of_getElem? (i := 3) rfl : (Cond.code objectInit ⟨#[0xb1]⟩ 1 none : Cond) ∈ wsX1_init)) rfl (by rw [hml]; exact hl.1) rfl dX1_init_1 (Nat.le_of_ble_eq_true rfl) (Nat.le_of_ble_eq_true rfl) ?_
  refine W.eq (g2 := F0 m 4 ls []) rfl ?_
  refine lv_aload_n hx hb dX1_init_4 rfl (lv_at hl 0 rfl) ?_
  refine lv_bipush (v := 20) hx hb dX1_init_5 (by decide) ?_
  refine newaI (N := 20) hx hb (hts _ (List.mem_of_getElem? (i := 4) rfl : (Cond.arrayClass .int : Cond) ∈ wsX1_init)) hK hP hD hS hA (by decide) (by decide) (by decide) (Nat.le_of_ble_eq_true rfl) (Nat.le_of_ble_eq_true rfl) dX1_init_7 (fun a1 H hP hD hS => ?_)
  have hP : va_P D vwCl [(h0, .inr (1, [.null, .null, .null, .null, .null])), (a1, .inl (cI, 20, .inl (fun _ => 0)))] H := hP
  have hD : va_D A [(h0, .inr (1, [.null, .null, .null, .null, .null])), (a1, .inl (cI, 20, .inl (fun _ => 0)))] := hD
  refine W.widen (k := 1) (n := 20) (by omega) (by omega) ?_
  refine va_putF (D := D) (ci := 1) (v := .ref a1) (ty := .array .int) (C := RX1) (T := TX1) (N := 5) hx hb hF (fun _ h => h) tyX1 tyX1_ok nmX1 hown hK hP hD hS 0 rfl rfl 0 (by decide) (hts _ (List.mem_of_getElem? (i := 5) rfl : (Cond.fieldLink RX1 9 "PlateRoom$EdgeTable" "lefts" "[I" : Cond) ∈ wsX1_init)) (fun _ h9 => h9) rfl hin rfl (by decide +kernel) rfl rfl (Nat.le_of_ble_eq_true rfl) dX1_init_9 (fun H locs hP hD hS => ?_)
  have hP : va_P D vwCl [(h0, .inr (1, [.ref a1, .null, .null, .null, .null])), (a1, .inl (cI, 20, .inl (fun _ => 0)))] H := hP
  have hD : va_D A [(h0, .inr (1, [.ref a1, .null, .null, .null, .null])), (a1, .inl (cI, 20, .inl (fun _ => 0)))] := hD
  refine lv_aload_n hx hb dX1_init_12 rfl (lv_at hl 0 rfl) ?_
  refine lv_bipush (v := 20) hx hb dX1_init_13 (by decide) ?_
  refine newaI (N := 20) hx hb (hts _ (List.mem_of_getElem? (i := 4) rfl : (Cond.arrayClass .int : Cond) ∈ wsX1_init)) hK hP hD hS hA (by decide) (by decide) (by decide) (Nat.le_of_ble_eq_true rfl) (Nat.le_of_ble_eq_true rfl) dX1_init_15 (fun a2 H hP hD hS => ?_)
  have hP : va_P D vwCl [(h0, .inr (1, [.ref a1, .null, .null, .null, .null])), (a1, .inl (cI, 20, .inl (fun _ => 0))), (a2, .inl (cI, 20, .inl (fun _ => 0)))] H := hP
  have hD : va_D A [(h0, .inr (1, [.ref a1, .null, .null, .null, .null])), (a1, .inl (cI, 20, .inl (fun _ => 0))), (a2, .inl (cI, 20, .inl (fun _ => 0)))] := hD
  refine W.widen (k := 2) (n := 40) (by omega) (by omega) ?_
  refine va_putF (D := D) (ci := 1) (v := .ref a2) (ty := .array .int) (C := RX1) (T := TX1) (N := 5) hx hb hF (fun _ h => h) tyX1 tyX1_ok nmX1 hown hK hP hD hS 0 rfl rfl 1 (by decide) (hts _ (List.mem_of_getElem? (i := 6) rfl : (Cond.fieldLink RX1 15 "PlateRoom$EdgeTable" "rights" "[I" : Cond) ∈ wsX1_init)) (fun _ h9 => h9) rfl hin rfl (by decide +kernel) rfl rfl (Nat.le_of_ble_eq_true rfl) dX1_init_17 (fun H locs hP hD hS => ?_)
  have hP : va_P D vwCl [(h0, .inr (1, [.ref a1, .ref a2, .null, .null, .null])), (a1, .inl (cI, 20, .inl (fun _ => 0))), (a2, .inl (cI, 20, .inl (fun _ => 0)))] H := hP
  have hD : va_D A [(h0, .inr (1, [.ref a1, .ref a2, .null, .null, .null])), (a1, .inl (cI, 20, .inl (fun _ => 0))), (a2, .inl (cI, 20, .inl (fun _ => 0)))] := hD
  refine lv_aload_n hx hb dX1_init_20 rfl (lv_at hl 0 rfl) ?_
  refine lv_bipush (v := 20) hx hb dX1_init_21 (by decide) ?_
  refine newaI (N := 20) hx hb (hts _ (List.mem_of_getElem? (i := 4) rfl : (Cond.arrayClass .int : Cond) ∈ wsX1_init)) hK hP hD hS hA (by decide) (by decide) (by decide) (Nat.le_of_ble_eq_true rfl) (Nat.le_of_ble_eq_true rfl) dX1_init_23 (fun a3 H hP hD hS => ?_)
  have hP : va_P D vwCl [(h0, .inr (1, [.ref a1, .ref a2, .null, .null, .null])), (a1, .inl (cI, 20, .inl (fun _ => 0))), (a2, .inl (cI, 20, .inl (fun _ => 0))), (a3, .inl (cI, 20, .inl (fun _ => 0)))] H := hP
  have hD : va_D A [(h0, .inr (1, [.ref a1, .ref a2, .null, .null, .null])), (a1, .inl (cI, 20, .inl (fun _ => 0))), (a2, .inl (cI, 20, .inl (fun _ => 0))), (a3, .inl (cI, 20, .inl (fun _ => 0)))] := hD
  refine W.widen (k := 3) (n := 60) (by omega) (by omega) ?_
  refine va_putF (D := D) (ci := 1) (v := .ref a3) (ty := .array .int) (C := RX1) (T := TX1) (N := 5) hx hb hF (fun _ h => h) tyX1 tyX1_ok nmX1 hown hK hP hD hS 0 rfl rfl 2 (by decide) (hts _ (List.mem_of_getElem? (i := 7) rfl : (Cond.fieldLink RX1 18 "PlateRoom$EdgeTable" "likeLeft" "[I" : Cond) ∈ wsX1_init)) (fun _ h9 => h9) rfl hin rfl (by decide +kernel) rfl rfl (Nat.le_of_ble_eq_true rfl) dX1_init_25 (fun H locs hP hD hS => ?_)
  have hP : va_P D vwCl [(h0, .inr (1, [.ref a1, .ref a2, .ref a3, .null, .null])), (a1, .inl (cI, 20, .inl (fun _ => 0))), (a2, .inl (cI, 20, .inl (fun _ => 0))), (a3, .inl (cI, 20, .inl (fun _ => 0)))] H := hP
  have hD : va_D A [(h0, .inr (1, [.ref a1, .ref a2, .ref a3, .null, .null])), (a1, .inl (cI, 20, .inl (fun _ => 0))), (a2, .inl (cI, 20, .inl (fun _ => 0))), (a3, .inl (cI, 20, .inl (fun _ => 0)))] := hD
  refine lv_aload_n hx hb dX1_init_28 rfl (lv_at hl 0 rfl) ?_
  refine lv_bipush (v := 20) hx hb dX1_init_29 (by decide) ?_
  refine newaI (N := 20) hx hb (hts _ (List.mem_of_getElem? (i := 4) rfl : (Cond.arrayClass .int : Cond) ∈ wsX1_init)) hK hP hD hS hA (by decide) (by decide) (by decide) (Nat.le_of_ble_eq_true rfl) (Nat.le_of_ble_eq_true rfl) dX1_init_31 (fun a4 H hP hD hS => ?_)
  have hP : va_P D vwCl [(h0, .inr (1, [.ref a1, .ref a2, .ref a3, .null, .null])), (a1, .inl (cI, 20, .inl (fun _ => 0))), (a2, .inl (cI, 20, .inl (fun _ => 0))), (a3, .inl (cI, 20, .inl (fun _ => 0))), (a4, .inl (cI, 20, .inl (fun _ => 0)))] H := hP
  have hD : va_D A [(h0, .inr (1, [.ref a1, .ref a2, .ref a3, .null, .null])), (a1, .inl (cI, 20, .inl (fun _ => 0))), (a2, .inl (cI, 20, .inl (fun _ => 0))), (a3, .inl (cI, 20, .inl (fun _ => 0))), (a4, .inl (cI, 20, .inl (fun _ => 0)))] := hD
  refine W.widen (k := 4) (n := 80) (by omega) (by omega) ?_
  refine va_putF (D := D) (ci := 1) (v := .ref a4) (ty := .array .int) (C := RX1) (T := TX1) (N := 5) hx hb hF (fun _ h => h) tyX1 tyX1_ok nmX1 hown hK hP hD hS 0 rfl rfl 3 (by decide) (hts _ (List.mem_of_getElem? (i := 8) rfl : (Cond.fieldLink RX1 21 "PlateRoom$EdgeTable" "leftOf" "[I" : Cond) ∈ wsX1_init)) (fun _ h9 => h9) rfl hin rfl (by decide +kernel) rfl rfl (Nat.le_of_ble_eq_true rfl) dX1_init_33 (fun H locs hP hD hS => ?_)
  have hP : va_P D vwCl [(h0, .inr (1, [.ref a1, .ref a2, .ref a3, .ref a4, .null])), (a1, .inl (cI, 20, .inl (fun _ => 0))), (a2, .inl (cI, 20, .inl (fun _ => 0))), (a3, .inl (cI, 20, .inl (fun _ => 0))), (a4, .inl (cI, 20, .inl (fun _ => 0)))] H := hP
  have hD : va_D A [(h0, .inr (1, [.ref a1, .ref a2, .ref a3, .ref a4, .null])), (a1, .inl (cI, 20, .inl (fun _ => 0))), (a2, .inl (cI, 20, .inl (fun _ => 0))), (a3, .inl (cI, 20, .inl (fun _ => 0))), (a4, .inl (cI, 20, .inl (fun _ => 0)))] := hD
  refine lv_aload_n hx hb dX1_init_36 rfl (lv_at hl 0 rfl) ?_
  refine lv_bipush (v := 20) hx hb dX1_init_37 (by decide) ?_
  refine newaI (N := 20) hx hb (hts _ (List.mem_of_getElem? (i := 4) rfl : (Cond.arrayClass .int : Cond) ∈ wsX1_init)) hK hP hD hS hA (by decide) (by decide) (by decide) (Nat.le_of_ble_eq_true rfl) (Nat.le_of_ble_eq_true rfl) dX1_init_39 (fun a5 H hP hD hS => ?_)
  have hP : va_P D vwCl [(h0, .inr (1, [.ref a1, .ref a2, .ref a3, .ref a4, .null])), (a1, .inl (cI, 20, .inl (fun _ => 0))), (a2, .inl (cI, 20, .inl (fun _ => 0))), (a3, .inl (cI, 20, .inl (fun _ => 0))), (a4, .inl (cI, 20, .inl (fun _ => 0))), (a5, .inl (cI, 20, .inl (fun _ => 0)))] H := hP
  have hD : va_D A [(h0, .inr (1, [.ref a1, .ref a2, .ref a3, .ref a4, .null])), (a1, .inl (cI, 20, .inl (fun _ => 0))), (a2, .inl (cI, 20, .inl (fun _ => 0))), (a3, .inl (cI, 20, .inl (fun _ => 0))), (a4, .inl (cI, 20, .inl (fun _ => 0))), (a5, .inl (cI, 20, .inl (fun _ => 0)))] := hD
  refine W.widen (k := 5) (n := 100) (by omega) (by omega) ?_
  refine va_putF (D := D) (ci := 1) (v := .ref a5) (ty := .array .int) (C := RX1) (T := TX1) (N := 5) hx hb hF (fun _ h => h) tyX1 tyX1_ok nmX1 hown hK hP hD hS 0 rfl rfl 4 (by decide) (hts _ (List.mem_of_getElem? (i := 9) rfl : (Cond.fieldLink RX1 24 "PlateRoom$EdgeTable" "rightOf" "[I" : Cond) ∈ wsX1_init)) (fun _ h9 => h9) rfl hin rfl (by decide +kernel) rfl rfl (Nat.le_of_ble_eq_true rfl) dX1_init_41 (fun H locs hP hD hS => ?_)
  have hP : va_P D vwCl [(h0, .inr (1, [.ref a1, .ref a2, .ref a3, .ref a4, .ref a5])), (a1, .inl (cI, 20, .inl (fun _ => 0))), (a2, .inl (cI, 20, .inl (fun _ => 0))), (a3, .inl (cI, 20, .inl (fun _ => 0))), (a4, .inl (cI, 20, .inl (fun _ => 0))), (a5, .inl (cI, 20, .inl (fun _ => 0)))] H := hP
  have hD : va_D A [(h0, .inr (1, [.ref a1, .ref a2, .ref a3, .ref a4, .ref a5])), (a1, .inl (cI, 20, .inl (fun _ => 0))), (a2, .inl (cI, 20, .inl (fun _ => 0))), (a3, .inl (cI, 20, .inl (fun _ => 0))), (a4, .inl (cI, 20, .inl (fun _ => 0))), (a5, .inl (cI, 20, .inl (fun _ => 0)))] := hD
  obtain ⟨g, hg⟩ : ∃ g : wG, g = (D, (fun k => ([h0, h0, h0, h0, h0, h0, h0, h0, h0, h0, h0, h0, a1, a2, a3, a4, a5] : List Nat).getD k h0), cI, cJ) := ⟨_, rfl⟩
  have hI : eIn A g w0 H s := by rw [hg]; exact ⟨hP, hD, hK⟩
  have hl : lv_has ls 2 [(0, .ref (g.2.1 2))] := by rw [hg]; exact hl
  generalize hQQ : MQ below _ _ s 5 100 A = QQ
  have hret : ∀ (σ1 : wS) (H : Heap) (locs : List Loc) (ls : Array Slot) (pc : Nat), decode cX1_init pc = .ok (.return_, 1) → Q σ1 → eIn A g σ1 H s → va_S A s.heap H locs → W p l e ({ frames := 2, cells := 5, slots := 100, locals := 44 } : Room) s m [Value.ref h0].toArray below meth c H locs 5 100 QQ (F0 m pc ls []) := by
    intro σ1 H locs ls pc hdg hQ hI hS
    rw [hg] at hI
    rw [← hQQ]
    exact W.vret hx hb hr (fun t ht hW => ⟨⟨((fun k => ([h0, h0, h0, h0, h0, h0, h0, h0, h0, h0, h0, h0, a1, a2, a3, a4, a5] : List Nat).getD k h0), σ1), rfl, ⟨rfl, hQ⟩, by rw [ht]; exact hI.1, va_K.moved hW.alike hI.2.2, hI.2.1⟩, hS.F ht⟩) hS.2.2 hdg
  generalize [Value.ref h0].toArray = args at hts hF hret ⊢
  have hfit : 5 ≤ ({ frames := 2, cells := 5, slots := 100, locals := 44 } : Room).cells ∧ 100 ≤ ({ frames := 2, cells := 5, slots := 100, locals := 44 } : Room).slots := ⟨Nat.le_refl _, Nat.le_refl _⟩
  obtain ⟨σ, hσ⟩ : ∃ σ : wS, σ = w0 := ⟨_, rfl⟩
  rw [← hσ] at hw hI
  have hw : we_X1_init Q σ := hw
  refine lv_iconst (v := 0) hx hb dX1_init_44 (by decide) ?_
  refine lv_istore_n (lv' := [(1, .int 0), (0, .ref (g.2.1 2))]) hx hb dX1_init_45 rfl hl (by decide) rfl (fun ls hl => ?_)
  obtain ⟨n46, hw⟩ := hw
  have key46 : ∀ (n : Nat) (x1 : Int32) (σ : wS) (H : Heap) (locs : List Loc) (ls : Array Slot), eIn A g σ H s → va_S A s.heap H locs → lv_has ls 2 [(0, .ref (g.2.1 2)), (1, .int x1)] → wloop (we_X1_init_L46 Q) n (x1, σ) → W p l e ({ frames := 2, cells := 5, slots := 100, locals := 44 } : Room) s m args below meth c H locs 5 100 QQ (F0 m 46 ls []) := by
    intro n
    induction n with
    | zero => intro x1 σ H locs ls hI hS hl hw; exact False.elim hw
    | succ n ih =>
      intro x1 σ H locs ls hI hS hl hw
      obtain ⟨K46, hK46⟩ : ∃ K, K = wloop (we_X1_init_L46 Q) n := ⟨_, rfl⟩
      have hw : we_X1_init_L46 Q K46 (x1, σ) := by rw [hK46]; exact hw
      dsimp only [we_X1_init_L46] at hw
      have ih46 := ih
      refine lv_iload_n hx hb dX1_init_46 rfl (lv_at hl 1 rfl) ?_
      refine lv_bipush (v := 20) hx hb dX1_init_47 (by decide) ?_
      refine lv_icmp_ge (tgt := 63) hx hb dX1_init_49 (by decide) (fun hc => ?_) (fun hc => ?_)
      · have hw := hw.1 hc
        exact hret _ _ _ _ _ dX1_init_63 hw hI hS
      have hw := hw.2 hc
      refine lv_aload_n hx hb dX1_init_52 rfl (lv_at hl 0 rfl) ?_
      refine lv_iload_n hx hb dX1_init_53 rfl (lv_at hl 1 rfl) ?_
      refine gVvC hfit (ce_X1_compare l A g (σ := σ) hw) (eMv A g) ⟨hx, hb, hml, hown, hts⟩ (cwV 1 hts gX1_init_X1_compare rfl rfl rfl (by decide +kernel) ⟨Nat.le_of_ble_eq_true rfl, Nat.le_of_ble_eq_true rfl⟩) (eRecv_X1 hI) hI hS hl.1 rfl rfl (Nat.le_of_ble_eq_true rfl) dX1_init_54 (fun σ1 H locs hw hI hS => ?_)
      obtain ⟨a2, ea2⟩ : ∃ y : Int32, y = x1 + 1 := ⟨_, rfl⟩
      have hw := hw a2 ea2
      refine lv_iinc (v := a2) (lv' := [(1, .int a2), (0, .ref (g.2.1 2))]) hx hb dX1_init_57 hl (k := 1) rfl (by rw [ea2]; rfl) (by decide) rfl (fun ls hl => ?_)
      refine lv_goto (tgt := 46) hx hb dX1_init_60 (by decide) ?_
      rw [hK46] at hw
      exact ih46 _ _ _ _ _ hI hS (lv_sub hl [1, 0] rfl) hw
  exact key46 n46 _ _ _ _ _ hI hS (lv_sub hl [1, 0] rfl) hw
set_option maxRecDepth 100000 in
set_option maxHeartbeats 4000000 in
theorem k_X0 (l : Launch) (D : va_G) (cI cJ : ClassId) (h0 sz : Nat) {Q : wS → Prop} (hw : wc_X0_init Q w0) : Met l yX0_init wsX0_init ({ frames := 1, cells := 5, slots := 581, locals := 23 } : Room) (va_Pc [.ref h0] (fun U => U.heap.size = sz ∧ va_P D vwCl [(h0, .inr (0, [.null, .null, .null, .null, .null, .long 0]))] U.heap ∧ va_K D vwCl [(cI, .int), (cJ, .long)] U)) (va_Qv (fun u : (Nat → Nat) × wS => u.1 1 = h0 ∧ Q u.2) (fun u t => va_P D vwCl (cW (D, u.1, cI, cJ) u.2) t.heap ∧ va_K D vwCl [(cI, .int), (cJ, .long)] t ∧ va_D (va_A [(h0, .inr (0, [.null, .null, .null, .null, .null, .long 0]))] sz) (cW (D, u.1, cI, cJ) u.2)) (va_A [(h0, .inr (0, [.null, .null, .null, .null, .null, .long 0]))] sz)) 5 581 (va_A [(h0, .inr (0, [.null, .null, .null, .null, .null, .long 0]))] sz) := by
  refine Met.ofW (cc := cX0_init) (maxL := 1) (ret := none) (by decide) rfl ?_
  intro p e s m args below meth c s₁ B hml hv
  obtain ⟨rfl, hsz, hP, hK⟩ := hv
  have hx := B.exec
  have hb := B.bytes
  have hr := B.returns
  have hts := atoms_spec (ws := wsX0_init) B.pre
  have hown : s.vm.findClass RX0 = some m.cls := findClass_of_methodNamed B.named
  have hlocks := B.notSynchronized
  have hin : meth.name = "<init>" := (name_of_methodNamed B.named B.method).1
  have hF : ∀ w ∈ wsX00, w.before [Value.ref h0].toArray s = true := fun w h => hts w (List.mem_cons_of_mem _ (List.mem_append_right _ h))
  subst hsz
  have hD : va_D (va_A [(h0, .inr (0, [.null, .null, .null, .null, .null, .long 0]))] s.heap.size) [(h0, .inr (0, [.null, .null, .null, .null, .null, .long 0]))] := kD1
  generalize hAe : va_A [(h0, .inr (0, [.null, .null, .null, .null, .null, .long 0]))] s.heap.size = A at hD ⊢
  have hA : ∀ q : Nat, s.heap.size ≤ q → A q := fun q h => by rw [← hAe]; exact Or.inr h
  have hS : va_S A s.heap s.heap [] := va_S.rf
  have hl := lv_entry ([.ref h0]) (n := 1) (Nat.le_of_ble_eq_true rfl)
  rw [lg_entry_eq]
  generalize (lg_sl ([.ref h0]) ++ List.replicate (1 - (lg_sl ([.ref h0])).length) Slot.unset).toArray = ls at hl ⊢
  have hl : lv_has ls 1 [(0, .ref h0)] := hl
  refine lv_aload_n hx hb dX0_init_0 rfl (lv_at hl 0 rfl) ?_
  refine W.objInit hx hb hown (hts _ (List.mem_of_getElem? (i := 1) rfl : (Cond.methodLink RX0 3 objectInit : Cond) ∈ wsX0_init)) (hts _ (List.mem_of_getElem? (i := 2) rfl : (Cond.instanceMethod objectInit : Cond) ∈ wsX0_init)) (hts _ (List.mem_of_getElem? (i := 3) rfl : (Cond.code objectInit ⟨#[0xb1]⟩ 1 none : Cond) ∈ wsX0_init)) rfl (by rw [hml]; exact hl.1) rfl dX0_init_1 (Nat.le_of_ble_eq_true rfl) (Nat.le_of_ble_eq_true rfl) ?_
  refine W.eq (g2 := F0 m 4 ls []) rfl ?_
  refine lv_aload_n hx hb dX0_init_4 rfl (lv_at hl 0 rfl) ?_
  refine lv_bipush (v := 20) hx hb dX0_init_5 (by decide) ?_
  refine newaI (N := 20) hx hb (hts _ (List.mem_of_getElem? (i := 4) rfl : (Cond.arrayClass .int : Cond) ∈ wsX0_init)) hK hP hD hS hA (by decide) (by decide) (by decide) (Nat.le_of_ble_eq_true rfl) (Nat.le_of_ble_eq_true rfl) dX0_init_7 (fun a1 H hP hD hS => ?_)
  have hP : va_P D vwCl [(h0, .inr (0, [.null, .null, .null, .null, .null, .long 0])), (a1, .inl (cI, 20, .inl (fun _ => 0)))] H := hP
  have hD : va_D A [(h0, .inr (0, [.null, .null, .null, .null, .null, .long 0])), (a1, .inl (cI, 20, .inl (fun _ => 0)))] := hD
  refine W.widen (k := 1) (n := 20) (by omega) (by omega) ?_
  refine va_putF (D := D) (ci := 0) (v := .ref a1) (ty := .array .int) (C := RX0) (T := TX0) (N := 6) hx hb hF (fun _ h => h) tyX0 tyX0_ok nmX0 hown hK hP hD hS 0 rfl rfl 0 (by decide) (hts _ (List.mem_of_getElem? (i := 5) rfl : (Cond.fieldLink RX0 9 "PlateRoom$CopyPlan" "wanted" "[I" : Cond) ∈ wsX0_init)) (fun _ h9 => h9) rfl hin rfl (by decide +kernel) rfl rfl (Nat.le_of_ble_eq_true rfl) dX0_init_9 (fun H locs hP hD hS => ?_)
  have hP : va_P D vwCl [(h0, .inr (0, [.ref a1, .null, .null, .null, .null, .long 0])), (a1, .inl (cI, 20, .inl (fun _ => 0)))] H := hP
  have hD : va_D A [(h0, .inr (0, [.ref a1, .null, .null, .null, .null, .long 0])), (a1, .inl (cI, 20, .inl (fun _ => 0)))] := hD
  refine lv_aload_n hx hb dX0_init_12 rfl (lv_at hl 0 rfl) ?_
  refine lv_bipush (v := 20) hx hb dX0_init_13 (by decide) ?_
  refine newaI (N := 20) hx hb (hts _ (List.mem_of_getElem? (i := 4) rfl : (Cond.arrayClass .int : Cond) ∈ wsX0_init)) hK hP hD hS hA (by decide) (by decide) (by decide) (Nat.le_of_ble_eq_true rfl) (Nat.le_of_ble_eq_true rfl) dX0_init_15 (fun a2 H hP hD hS => ?_)
  have hP : va_P D vwCl [(h0, .inr (0, [.ref a1, .null, .null, .null, .null, .long 0])), (a1, .inl (cI, 20, .inl (fun _ => 0))), (a2, .inl (cI, 20, .inl (fun _ => 0)))] H := hP
  have hD : va_D A [(h0, .inr (0, [.ref a1, .null, .null, .null, .null, .long 0])), (a1, .inl (cI, 20, .inl (fun _ => 0))), (a2, .inl (cI, 20, .inl (fun _ => 0)))] := hD
  refine W.widen (k := 2) (n := 40) (by omega) (by omega) ?_
  refine va_putF (D := D) (ci := 0) (v := .ref a2) (ty := .array .int) (C := RX0) (T := TX0) (N := 6) hx hb hF (fun _ h => h) tyX0 tyX0_ok nmX0 hown hK hP hD hS 0 rfl rfl 1 (by decide) (hts _ (List.mem_of_getElem? (i := 6) rfl : (Cond.fieldLink RX0 15 "PlateRoom$CopyPlan" "hours" "[I" : Cond) ∈ wsX0_init)) (fun _ h9 => h9) rfl hin rfl (by decide +kernel) rfl rfl (Nat.le_of_ble_eq_true rfl) dX0_init_17 (fun H locs hP hD hS => ?_)
  have hP : va_P D vwCl [(h0, .inr (0, [.ref a1, .ref a2, .null, .null, .null, .long 0])), (a1, .inl (cI, 20, .inl (fun _ => 0))), (a2, .inl (cI, 20, .inl (fun _ => 0)))] H := hP
  have hD : va_D A [(h0, .inr (0, [.ref a1, .ref a2, .null, .null, .null, .long 0])), (a1, .inl (cI, 20, .inl (fun _ => 0))), (a2, .inl (cI, 20, .inl (fun _ => 0)))] := hD
  refine lv_aload_n hx hb dX0_init_20 rfl (lv_at hl 0 rfl) ?_
  refine lv_bipush (v := 20) hx hb dX0_init_21 (by decide) ?_
  refine newaI (N := 20) hx hb (hts _ (List.mem_of_getElem? (i := 4) rfl : (Cond.arrayClass .int : Cond) ∈ wsX0_init)) hK hP hD hS hA (by decide) (by decide) (by decide) (Nat.le_of_ble_eq_true rfl) (Nat.le_of_ble_eq_true rfl) dX0_init_23 (fun a3 H hP hD hS => ?_)
  have hP : va_P D vwCl [(h0, .inr (0, [.ref a1, .ref a2, .null, .null, .null, .long 0])), (a1, .inl (cI, 20, .inl (fun _ => 0))), (a2, .inl (cI, 20, .inl (fun _ => 0))), (a3, .inl (cI, 20, .inl (fun _ => 0)))] H := hP
  have hD : va_D A [(h0, .inr (0, [.ref a1, .ref a2, .null, .null, .null, .long 0])), (a1, .inl (cI, 20, .inl (fun _ => 0))), (a2, .inl (cI, 20, .inl (fun _ => 0))), (a3, .inl (cI, 20, .inl (fun _ => 0)))] := hD
  refine W.widen (k := 3) (n := 60) (by omega) (by omega) ?_
  refine va_putF (D := D) (ci := 0) (v := .ref a3) (ty := .array .int) (C := RX0) (T := TX0) (N := 6) hx hb hF (fun _ h => h) tyX0 tyX0_ok nmX0 hown hK hP hD hS 0 rfl rfl 2 (by decide) (hts _ (List.mem_of_getElem? (i := 7) rfl : (Cond.fieldLink RX0 18 "PlateRoom$CopyPlan" "lost" "[I" : Cond) ∈ wsX0_init)) (fun _ h9 => h9) rfl hin rfl (by decide +kernel) rfl rfl (Nat.le_of_ble_eq_true rfl) dX0_init_25 (fun H locs hP hD hS => ?_)
  have hP : va_P D vwCl [(h0, .inr (0, [.ref a1, .ref a2, .ref a3, .null, .null, .long 0])), (a1, .inl (cI, 20, .inl (fun _ => 0))), (a2, .inl (cI, 20, .inl (fun _ => 0))), (a3, .inl (cI, 20, .inl (fun _ => 0)))] H := hP
  have hD : va_D A [(h0, .inr (0, [.ref a1, .ref a2, .ref a3, .null, .null, .long 0])), (a1, .inl (cI, 20, .inl (fun _ => 0))), (a2, .inl (cI, 20, .inl (fun _ => 0))), (a3, .inl (cI, 20, .inl (fun _ => 0)))] := hD
  refine lv_aload_n hx hb dX0_init_28 rfl (lv_at hl 0 rfl) ?_
  refine lv_bipush (v := 20) hx hb dX0_init_29 (by decide) ?_
  refine newaI (N := 20) hx hb (hts _ (List.mem_of_getElem? (i := 4) rfl : (Cond.arrayClass .int : Cond) ∈ wsX0_init)) hK hP hD hS hA (by decide) (by decide) (by decide) (Nat.le_of_ble_eq_true rfl) (Nat.le_of_ble_eq_true rfl) dX0_init_31 (fun a4 H hP hD hS => ?_)
  have hP : va_P D vwCl [(h0, .inr (0, [.ref a1, .ref a2, .ref a3, .null, .null, .long 0])), (a1, .inl (cI, 20, .inl (fun _ => 0))), (a2, .inl (cI, 20, .inl (fun _ => 0))), (a3, .inl (cI, 20, .inl (fun _ => 0))), (a4, .inl (cI, 20, .inl (fun _ => 0)))] H := hP
  have hD : va_D A [(h0, .inr (0, [.ref a1, .ref a2, .ref a3, .null, .null, .long 0])), (a1, .inl (cI, 20, .inl (fun _ => 0))), (a2, .inl (cI, 20, .inl (fun _ => 0))), (a3, .inl (cI, 20, .inl (fun _ => 0))), (a4, .inl (cI, 20, .inl (fun _ => 0)))] := hD
  refine W.widen (k := 4) (n := 80) (by omega) (by omega) ?_
  refine va_putF (D := D) (ci := 0) (v := .ref a4) (ty := .array .int) (C := RX0) (T := TX0) (N := 6) hx hb hF (fun _ h => h) tyX0 tyX0_ok nmX0 hown hK hP hD hS 0 rfl rfl 3 (by decide) (hts _ (List.mem_of_getElem? (i := 8) rfl : (Cond.fieldLink RX0 21 "PlateRoom$CopyPlan" "turns" "[I" : Cond) ∈ wsX0_init)) (fun _ h9 => h9) rfl hin rfl (by decide +kernel) rfl rfl (Nat.le_of_ble_eq_true rfl) dX0_init_33 (fun H locs hP hD hS => ?_)
  have hP : va_P D vwCl [(h0, .inr (0, [.ref a1, .ref a2, .ref a3, .ref a4, .null, .long 0])), (a1, .inl (cI, 20, .inl (fun _ => 0))), (a2, .inl (cI, 20, .inl (fun _ => 0))), (a3, .inl (cI, 20, .inl (fun _ => 0))), (a4, .inl (cI, 20, .inl (fun _ => 0)))] H := hP
  have hD : va_D A [(h0, .inr (0, [.ref a1, .ref a2, .ref a3, .ref a4, .null, .long 0])), (a1, .inl (cI, 20, .inl (fun _ => 0))), (a2, .inl (cI, 20, .inl (fun _ => 0))), (a3, .inl (cI, 20, .inl (fun _ => 0))), (a4, .inl (cI, 20, .inl (fun _ => 0)))] := hD
  refine lv_aload_n hx hb dX0_init_36 rfl (lv_at hl 0 rfl) ?_
  refine lv_sipush (v := 501) hx hb dX0_init_37 (by decide) ?_
  refine newaL (N := 501) hx hb (hts _ (List.mem_of_getElem? (i := 9) rfl : (Cond.arrayClass .long : Cond) ∈ wsX0_init)) hK hP hD hS hA (by decide) (by decide) (by decide) (Nat.le_of_ble_eq_true rfl) (Nat.le_of_ble_eq_true rfl) dX0_init_40 (fun a5 H hP hD hS => ?_)
  have hP : va_P D vwCl [(h0, .inr (0, [.ref a1, .ref a2, .ref a3, .ref a4, .null, .long 0])), (a1, .inl (cI, 20, .inl (fun _ => 0))), (a2, .inl (cI, 20, .inl (fun _ => 0))), (a3, .inl (cI, 20, .inl (fun _ => 0))), (a4, .inl (cI, 20, .inl (fun _ => 0))), (a5, .inl (cJ, 501, .inr (.inl (fun _ => 0))))] H := hP
  have hD : va_D A [(h0, .inr (0, [.ref a1, .ref a2, .ref a3, .ref a4, .null, .long 0])), (a1, .inl (cI, 20, .inl (fun _ => 0))), (a2, .inl (cI, 20, .inl (fun _ => 0))), (a3, .inl (cI, 20, .inl (fun _ => 0))), (a4, .inl (cI, 20, .inl (fun _ => 0))), (a5, .inl (cJ, 501, .inr (.inl (fun _ => 0))))] := hD
  refine W.widen (k := 5) (n := 581) (by omega) (by omega) ?_
  refine va_putF (D := D) (ci := 0) (v := .ref a5) (ty := .array .long) (C := RX0) (T := TX0) (N := 6) hx hb hF (fun _ h => h) tyX0 tyX0_ok nmX0 hown hK hP hD hS 0 rfl rfl 4 (by decide) (hts _ (List.mem_of_getElem? (i := 10) rfl : (Cond.fieldLink RX0 24 "PlateRoom$CopyPlan" "worths" "[J" : Cond) ∈ wsX0_init)) (fun _ h9 => h9) rfl hin rfl (by decide +kernel) rfl rfl (Nat.le_of_ble_eq_true rfl) dX0_init_42 (fun H locs hP hD hS => ?_)
  have hP : va_P D vwCl [(h0, .inr (0, [.ref a1, .ref a2, .ref a3, .ref a4, .ref a5, .long 0])), (a1, .inl (cI, 20, .inl (fun _ => 0))), (a2, .inl (cI, 20, .inl (fun _ => 0))), (a3, .inl (cI, 20, .inl (fun _ => 0))), (a4, .inl (cI, 20, .inl (fun _ => 0))), (a5, .inl (cJ, 501, .inr (.inl (fun _ => 0))))] H := hP
  have hD : va_D A [(h0, .inr (0, [.ref a1, .ref a2, .ref a3, .ref a4, .ref a5, .long 0])), (a1, .inl (cI, 20, .inl (fun _ => 0))), (a2, .inl (cI, 20, .inl (fun _ => 0))), (a3, .inl (cI, 20, .inl (fun _ => 0))), (a4, .inl (cI, 20, .inl (fun _ => 0))), (a5, .inl (cJ, 501, .inr (.inl (fun _ => 0))))] := hD
  obtain ⟨g, hg⟩ : ∃ g : wG, g = (D, (fun k => ([h0, h0, h0, h0, h0, h0, h0, a1, a2, a3, a4, a5] : List Nat).getD k h0), cI, cJ) := ⟨_, rfl⟩
  have hI : cIn A g w0 H s := by rw [hg]; exact ⟨hP, hD, hK⟩
  have hl : lv_has ls 1 [(0, .ref (g.2.1 1))] := by rw [hg]; exact hl
  generalize hQQ : MQ below _ _ s 5 581 A = QQ
  have hret : ∀ (σ1 : wS) (H : Heap) (locs : List Loc) (ls : Array Slot) (pc : Nat), decode cX0_init pc = .ok (.return_, 1) → Q σ1 → cIn A g σ1 H s → va_S A s.heap H locs → W p l e ({ frames := 1, cells := 5, slots := 581, locals := 23 } : Room) s m [Value.ref h0].toArray below meth c H locs 5 581 QQ (F0 m pc ls []) := by
    intro σ1 H locs ls pc hdg hQ hI hS
    rw [hg] at hI
    rw [← hQQ]
    exact W.vret hx hb hr (fun t ht hW => ⟨⟨((fun k => ([h0, h0, h0, h0, h0, h0, h0, a1, a2, a3, a4, a5] : List Nat).getD k h0), σ1), rfl, ⟨rfl, hQ⟩, by rw [ht]; exact hI.1, va_K.moved hW.alike hI.2.2, hI.2.1⟩, hS.F ht⟩) hS.2.2 hdg
  generalize [Value.ref h0].toArray = args at hts hF hret ⊢
  have hfit : 5 ≤ ({ frames := 1, cells := 5, slots := 581, locals := 23 } : Room).cells ∧ 581 ≤ ({ frames := 1, cells := 5, slots := 581, locals := 23 } : Room).slots := ⟨Nat.le_refl _, Nat.le_refl _⟩
  obtain ⟨σ, hσ⟩ : ∃ σ : wS, σ = w0 := ⟨_, rfl⟩
  rw [← hσ] at hw hI
  have hw : wc_X0_init Q σ := hw
  refine lv_aload_n hx hb dX0_init_45 rfl (lv_at hl 0 rfl) ?_
  refine cG_X0_hours hx hb hF hown hI (hts _ (List.mem_of_getElem? (i := 6) rfl : (Cond.fieldLink RX0 15 "PlateRoom$CopyPlan" "hours" "[I" : Cond) ∈ wsX0_init)) dX0_init_46 ?_
  refine lv_iconst (v := 1) hx hb dX0_init_49 (by decide) ?_
  refine gSvC hfit (cc_J7_fill_53178_hours l A g (σ := σ) hw) (cMv A g) ⟨hx, hb, hml, hown, hts⟩ (va_cwS 2 hts gX0_init_J7_fill_53178 rfl rfl rfl (by decide +kernel) ⟨Nat.le_of_ble_eq_true rfl, Nat.le_of_ble_eq_true rfl⟩) hI hS hl.1 rfl rfl (Nat.le_of_ble_eq_true rfl) dX0_init_50 (fun σ1 H locs hw hI hS => ?_)
  refine lv_aload_n hx hb dX0_init_53 rfl (lv_at hl 0 rfl) ?_
  refine cG_X0_lost hx hb hF hown hI (hts _ (List.mem_of_getElem? (i := 7) rfl : (Cond.fieldLink RX0 18 "PlateRoom$CopyPlan" "lost" "[I" : Cond) ∈ wsX0_init)) dX0_init_54 ?_
  refine lv_sipush (v := 500) hx hb dX0_init_57 (by decide) ?_
  refine gSvC hfit (cc_J7_fill_53178_lost l A g (σ := σ1) hw) (cMv A g) ⟨hx, hb, hml, hown, hts⟩ (va_cwS 2 hts gX0_init_J7_fill_53178 rfl rfl rfl (by decide +kernel) ⟨Nat.le_of_ble_eq_true rfl, Nat.le_of_ble_eq_true rfl⟩) hI hS hl.1 rfl rfl (Nat.le_of_ble_eq_true rfl) dX0_init_60 (fun σ2 H locs hw hI hS => ?_)
  exact hret _ _ _ _ _ dX0_init_63 hw hI hS
