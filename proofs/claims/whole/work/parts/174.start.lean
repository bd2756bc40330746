/-! THE CLAIM OUT OF ONE WALK OF THE LAW'S BODY. Your part is whole_start (and what it stands on); all else here is the same for every law, but numbers. -/
def R_law : String := "PlateRoomLaw"
def lw_P (b : Addr) (xs : List Int32) (args : Array Value) (s : State) : Prop := args = #[.ref b] ∧ s.IntsAt b xs ∧ xs.length ≤ 3072 ∧ (Jvm.Cond.and given_1 narrow_1).before args s = true
def lw_Q (_ : Array Value) (s : State) (o : Outcome) (t : State) : Prop := o = .returned (some (.int 1)) ∧ Framed s o t [] 65 12543
def lw_Z (below : List Frame) (a : Array Value) (s : State) : State → Prop := fun t => ∃ o, t.status = .running ∧ Ended t below o ∧ lw_Q a s o t
/-- the law's own end, with 1 on the stack, nothing written that was there before, its room as the claim has it -/
theorem lw_ret {p : Program} {l : Launch} {e : Env} {s : State} {m : MethodId} {below : List Frame} {meth : Method} {c : Code} {b : Nat} (hx : p.tables.exec = Jvm.exec) (hb : c.code = code) (hr : meth.sig.returnType = ret) (hlocks : meth.locks = false) {pc : Nat} {H : Heap} {ls : Array Slot} (hdg : decode code pc = .ok (.ireturn, 1)) : W p l e room_1 s m #[Value.ref b] below meth c H [] 65 12543 (lw_Z below #[Value.ref b] s) (F0 m pc ls [.int 1]) := by
  intro T hT X
  obtain ⟨fs, hret, hrun, hended, hW, hframe⟩ := X.leave (v := some (.int 1)) (hlocks := hlocks) (fun h => by rw [hr] at h; cases h)
  have hmeth' : T.vm.method? m = some meth := X.method'
  refine ⟨T.setFrames fs, ?_, .returned (some (.int 1)), hrun, hended, rfl, ⟨_, rfl⟩, hW, hframe⟩
  jvm_step X.here [X.here.top, hx, hb, hdg, hmeth', hr, ret, narrow_b1]
  (try refine ⟨rfl, ?_⟩); (try refine ⟨rfl, ?_⟩)
  first | (intro acts; rw [hret _ acts rfl rfl rfl]) | rw [hret _ _ rfl rfl rfl]
  exact Steps.refl _
/-- what holds at the law's entry: the machine, the code, the tables' words (any of lw_tbl by 'hts w (by decide +kernel)'), the script of L ints xs at the cell b, what the Statement gives of the start (any of its parts by flat_of_before) -/
def lw_At (p : Program) (s : State) (m : MethodId) (meth : Method) (c : Code) (b L : Nat) (xs : Nat → Int32) : Prop :=
  p.tables.exec = Jvm.exec ∧ c.code = code ∧ meth.sig.returnType = ret ∧ c.maxLocals = 4 ∧ s.vm.findClass R_law = some m.cls ∧ (∀ w ∈ lw_tbl, w.before #[Value.ref b] s = true) ∧ va_X b L xs s s.heap ∧ b < s.heap.size ∧ meth.locks = false ∧ (Jvm.Cond.and given_1 narrow_1).before #[Value.ref b] s = true
set_option maxRecDepth 100000 in
set_option maxHeartbeats 4000000 in
theorem whole_from {Rel : wS → wS → Prop} (h0 : rT_status Rel) (h1 : rT_plate Rel) (h2 : rT_motif Rel) (h3 : rT_shows Rel) (h4 : rT_ahead Rel) (h5 : rT_same Rel) (h6 : rT_taken Rel) (h7 : rT_stood Rel) (h8 : rT_cross Rel) (h9 : rT_fact Rel) (h10 : rT_span Rel) (h11 : rT_times Rel) (h12 : rT_quarrel Rel) (h13 : rT_frees Rel) (h14 : rT_order Rel) (h15 : rT_edges Rel) (h16 : rT_row Rel) (h17 : rT_ring Rel) (h18 : rT_rows Rel) (h19 : rT_out Rel) (h20 : rT_want Rel) (h21 : rT_best Rel) (h22 : rT_hour Rel) (h23 : rT_law Rel) (h24 : rT_death Rel) (h25 : rT_free Rel) {QE QC : wS → Prop} (hwE : we_X1_init QE w0) (hwC : wc_X0_init QC w0) (hR0 : ∀ σE σC : wS, QE σE → QC σC → Rel (xInit σE σC) w0) {p : Program} {e : Env} {s : State} {m : MethodId} {below : List Frame} {meth : Method} {c : Code} (l : Launch) {b L : Nat} {xs : Nat → Int32} (hL : L ≤ 3072) (C0 : lw_At p s m meth c b L xs) : W p l e room_1 s m #[Value.ref b] below meth c s.heap [] 0 0 (lw_Z below #[Value.ref b] s) (entryFrame m ([Value.ref b] : List Value).toArray 4) := by
  obtain ⟨hx, hb, hr, hml, hown, hts0, hX, hbl, hlocks, hgv⟩ := id C0
  have hts : ∀ w ∈ wsL_law, w.before #[Value.ref b] s = true := fun w h => hts0 w (wsL_law_in w h)
  have hA : ∀ q : Nat, s.heap.size ≤ q → lwA s q := fun _ h => h
  obtain ⟨c0, iS0, hKn0⟩ := u_known (C := RX0) (T := TX0) (N := 6) (n := 6) hts0 inX0 (hts _ (List.mem_of_getElem? (i := 25) rfl : (Cond.instantiable RX0 6 : Cond) ∈ wsL_law))
  obtain ⟨c1, iS1, hKn1⟩ := u_known (C := RX1) (T := TX1) (N := 5) (n := 5) hts0 inX1 (hts _ (List.mem_of_getElem? (i := 21) rfl : (Cond.instantiable RX1 5 : Cond) ∈ wsL_law))
  obtain ⟨c2, iS2, hKn2⟩ := u_known (C := RX2) (T := TX2) (N := 8) (n := 8) hts0 inX2 (hts _ (List.mem_of_getElem? (i := 13) rfl : (Cond.instantiable RX2 8 : Cond) ∈ wsL_law))
  obtain ⟨c3, iS3, hKn3⟩ := u_known (C := RX3) (T := TX3) (N := 7) (n := 7) hts0 inX3 (hts _ (List.mem_of_getElem? (i := 29) rfl : (Cond.instantiable RX3 7 : Cond) ∈ wsL_law))
  obtain ⟨c4, iS4, hKn4⟩ := u_known (C := RX4) (T := TX4) (N := 6) (n := 6) hts0 inX4 (hts _ (List.mem_of_getElem? (i := 17) rfl : (Cond.instantiable RX4 6 : Cond) ∈ wsL_law))
  obtain ⟨c5, iS5, hKn5⟩ := u_known (C := RX5) (T := TX5) (N := 10) (n := 10) hts0 inX5 (hts _ (List.mem_of_getElem? (i := 1) rfl : (Cond.instantiable RX5 10 : Cond) ∈ wsL_law))
  obtain ⟨c6, iS6, hKn6⟩ := u_known (C := RX6) (T := TX6) (N := 41) (n := 41) hts0 inX6 (hts _ (List.mem_of_getElem? (i := 4) rfl : (Cond.instantiable RX6 41 : Cond) ∈ wsL_law))
  obtain ⟨D, hKc⟩ : ∃ D : va_G, ∀ (k : Nat) (q : vw_C), vwCl[k]? = some q → u_Kn s q.1 q.2.1 q.2.2 (D.1 k) (D.2 k) := by
    refine ⟨(fun k => if k = 0 then c0 else if k = 1 then c1 else if k = 2 then c2 else if k = 3 then c3 else if k = 4 then c4 else if k = 5 then c5 else c6, fun k => if k = 0 then iS0 else if k = 1 then iS1 else if k = 2 then iS2 else if k = 3 then iS3 else if k = 4 then iS4 else if k = 5 then iS5 else iS6), ?_⟩
    intro k q hq
    match k, hq with
    | 0, hq => cases hq; exact hKn0
    | 1, hq => cases hq; exact hKn1
    | 2, hq => cases hq; exact hKn2
    | 3, hq => cases hq; exact hKn3
    | 4, hq => cases hq; exact hKn4
    | 5, hq => cases hq; exact hKn5
    | 6, hq => cases hq; exact hKn6
    | k + 7, hq => simp [vwCl] at hq
  obtain ⟨cI, kI, compI, hfI, hkI, hdI⟩ := Cond.arrayClass_spec (hts _ (List.mem_of_getElem? (i := 32) rfl : (Cond.arrayClass .int : Cond) ∈ wsL_law))
  obtain ⟨cJ, kJ, compJ, hfJ, hkJ, hdJ⟩ := Cond.arrayClass_spec (hts _ (List.mem_of_getElem? (i := 77) rfl : (Cond.arrayClass .long : Cond) ∈ wsL_law))
  have hK : va_K D vwCl [(cI, .int), (cJ, .long)] s := ⟨hKc, fun k q hq => by
    match k, hq with
    | 0, hq => cases hq; exact ⟨fun n z => ⟨fun k h => (by cases h), kI, hkI, compI, hdI⟩, hfI⟩
    | 1, hq => cases hq; exact ⟨fun n z => ⟨fun k h => (by cases h), kJ, hkJ, compJ, hdJ⟩, hfJ⟩
    | k + 2, hq => simp at hq⟩
  have hN11 : va_Nw (.methodLinkNest RX5 11 yX2_init "PlateRoom") s := va_Nw.of rfl (hts0 _ (List.mem_append_right _ (List.mem_append_left _ (List.mem_of_getElem? (i := 22) rfl : (Cond.methodLinkNest RX5 11 yX2_init "PlateRoom" : Cond) ∈ tables_1_1))))
  have hN18 : va_Nw (.methodLinkNest RX5 18 yX4_init "PlateRoom") s := va_Nw.of rfl (hts0 _ (List.mem_append_right _ (List.mem_append_left _ (List.mem_of_getElem? (i := 54) rfl : (Cond.methodLinkNest RX5 18 yX4_init "PlateRoom" : Cond) ∈ tables_1_1))))
  have hN39 : va_Nw (.methodLinkNest RX5 39 yX3_init "PlateRoom") s := va_Nw.of rfl (hts0 _ (List.mem_append_right _ (List.mem_append_left _ (List.mem_of_getElem? (i := 137) rfl : (Cond.methodLinkNest RX5 39 yX3_init "PlateRoom" : Cond) ∈ tables_1_1))))
  have hS : va_S (lwA s) s.heap s.heap [] := va_S.rf
  have hP : va_P D vwCl [] s.heap := fun k q h => by simp at h
  have hD : va_D (lwA s) [] := ⟨fun i j p q h => by simp at h, fun k q h => by simp at h⟩
  have hl := lv_entry ([.ref b]) (n := 4) (Nat.le_of_ble_eq_true rfl)
  rw [lg_entry_eq]
  generalize (lg_sl ([.ref b]) ++ List.replicate (4 - (lg_sl ([.ref b])).length) Slot.unset).toArray = ls at hl ⊢
  have hl : lv_has ls 4 [(0, .ref b)] := hl
  refine va_new (ci := 5) (fs := [.null, .null, .null, .null, .null, .null, .int 0, .int 0, .int 0, .int 0]) (C := RX5) (T := TX5) (N := 10) hx hb hts0 inX5 tyX5 tyX5_ok hown (hts _ (List.mem_of_getElem? (i := 0) rfl : (Cond.classLink RL 7 RX5 : Cond) ∈ wsL_law)) (hts _ (List.mem_of_getElem? (i := 1) rfl : (Cond.instantiable RX5 10 : Cond) ∈ wsL_law)) (hts _ (List.mem_of_getElem? (i := 2) rfl : (Cond.initialized RX5 : Cond) ∈ wsL_law)) hK hP hD hS hA rfl (fun j hj => by rcases (show j = 0 ∨ j = 1 ∨ j = 2 ∨ j = 3 ∨ j = 4 ∨ j = 5 ∨ j = 6 ∨ j = 7 ∨ j = 8 ∨ j = 9 by omega) with rfl | rfl | rfl | rfl | rfl | rfl | rfl | rfl | rfl | rfl <;> rfl) (Nat.le_of_ble_eq_true rfl) (Nat.le_of_ble_eq_true rfl) dL_law_0 (fun q0 H hP hD hS => ?_)
  have hP : va_P D vwCl [(q0, .inr (5, [.null, .null, .null, .null, .null, .null, .int 0, .int 0, .int 0, .int 0]))] H := hP
  have hD : va_D (lwA s) [(q0, .inr (5, [.null, .null, .null, .null, .null, .null, .int 0, .int 0, .int 0, .int 0]))] := hD
  refine W.widen (k := 1) (n := 10) (by omega) (by omega) ?_
  refine lv_dup hx hb dL_law_3 rfl ?_
  have hFc := va_free (wc := [(q0, .inr (5, [.null, .null, .null, .null, .null, .null, .int 0, .int 0, .int 0, .int 0]))]) hD hS hA [0] rfl
  have hPc : va_P D vwCl [(q0, .inr (5, [.null, .null, .null, .null, .null, .null, .int 0, .int 0, .int 0, .int 0]))] H := hP
  refine va_callv (va_runI (As := []) (rest := [.ref q0]) ⟨hx, hb, hml, hown, hts⟩ (k_X5 l D cI cJ q0 H.size hwE hwC) (cwI 0 hts gL_law_X5_init rfl rfl rfl (hts _ (List.mem_of_getElem? (i := 2) rfl : (Cond.initialized RX5 : Cond) ∈ wsL_law)) (hts _ (List.mem_of_getElem? (i := 6) rfl : (Cond.methodLink RL 9 yX5_init : Cond) ∈ wsL_law)) (hts _ (List.mem_of_getElem? (i := 7) rfl : (Cond.instanceMethod yX5_init : Cond) ∈ wsL_law)) rfl (by decide +kernel) ⟨Nat.le_of_ble_eq_true rfl, Nat.le_of_ble_eq_true rfl⟩) ⟨fun a U g mk q => by obtain ⟨q0, q1, qP, qK, n1, n2, n3⟩ := q; exact ⟨q0, q1, qP, va_K.moved (u := U) (U := U.calling g mk a) (Vm.Alike.refl U.vm) qK, va_Nw.same rfl (rfl : U.vm = (U.calling g mk a).vm) n1, va_Nw.same rfl (rfl : U.vm = (U.calling g mk a).vm) n2, va_Nw.same rfl (rfl : U.vm = (U.calling g mk a).vm) n3⟩, fun U hU hW => ⟨rfl, by rw [hU], by rw [hU]; exact hPc, va_K.moved hW.alike hK, va_Nw.warmM hW hN11, va_Nw.warmM hW hN18, va_Nw.warmM hW hN39⟩⟩ rfl rfl hl.1 rfl (lv_room (Nat.le_of_ble_eq_true rfl)) dL_law_4 ⟨Nat.le_of_ble_eq_true rfl, Nat.le_of_ble_eq_true rfl⟩) hS (fun q _ h => hFc q h) hFc (fun ux t H1 locs ht hvm hw hB hz1 hk1 hS => ?_)
  obtain ⟨hP1, hK1, hD1⟩ := hB
  rw [ht] at hP1
  try dsimp only at hw
  obtain ⟨hx0, σE, σC, hqE, hqC, hσx⟩ := hw
  obtain ⟨hP, hD⟩ := va_join (wr := []) (w1 := xW (D, ux.1, cI, cJ) ux.2) hP hD [0] [] rfl rfl (by decide) (by decide) hk1 hFc hP1 hD1
  generalize H1 = H at hP hS ⊢
  have hP : va_P D vwCl (xW (D, ux.1, cI, cJ) ux.2) H := hP
  have hD : va_D (lwA s) (xW (D, ux.1, cI, cJ) ux.2) := hD
  refine W.widen (k := 34) (n := 2649) (by omega) (by omega) ?_
  rw [← hx0]
  refine lv_astore_n (lv' := [(1, .ref (ux.1 0)), (0, .ref b)]) hx hb dL_law_7 rfl hl (by decide) rfl (fun ls hl => ?_)
  refine va_new (ci := 6) (fs := [.int 0, .int 0, .int 0, .int 0, .int 0, .null, .null, .null, .null, .null, .null, .int 0, .int 0, .null, .null, .null, .null, .null, .null, .null, .null, .null, .null, .int 0, .int 0, .null, .null, .null, .null, .null, .null, .null, .null, .null, .int 0, .int 0, .null, .null, .null, .null, .null]) (C := RX6) (T := TX6) (N := 41) hx hb hts0 inX6 tyX6 tyX6_ok hown (hts _ (List.mem_of_getElem? (i := 3) rfl : (Cond.classLink RL 10 RX6 : Cond) ∈ wsL_law)) (hts _ (List.mem_of_getElem? (i := 4) rfl : (Cond.instantiable RX6 41 : Cond) ∈ wsL_law)) (hts _ (List.mem_of_getElem? (i := 5) rfl : (Cond.initialized RX6 : Cond) ∈ wsL_law)) hK hP hD hS hA rfl (fun j hj => by rcases (show j = 0 ∨ j = 1 ∨ j = 2 ∨ j = 3 ∨ j = 4 ∨ j = 5 ∨ j = 6 ∨ j = 7 ∨ j = 8 ∨ j = 9 ∨ j = 10 ∨ j = 11 ∨ j = 12 ∨ j = 13 ∨ j = 14 ∨ j = 15 ∨ j = 16 ∨ j = 17 ∨ j = 18 ∨ j = 19 ∨ j = 20 ∨ j = 21 ∨ j = 22 ∨ j = 23 ∨ j = 24 ∨ j = 25 ∨ j = 26 ∨ j = 27 ∨ j = 28 ∨ j = 29 ∨ j = 30 ∨ j = 31 ∨ j = 32 ∨ j = 33 ∨ j = 34 ∨ j = 35 ∨ j = 36 ∨ j = 37 ∨ j = 38 ∨ j = 39 ∨ j = 40 by omega) with rfl | rfl | rfl | rfl | rfl | rfl | rfl | rfl | rfl | rfl | rfl | rfl | rfl | rfl | rfl | rfl | rfl | rfl | rfl | rfl | rfl | rfl | rfl | rfl | rfl | rfl | rfl | rfl | rfl | rfl | rfl | rfl | rfl | rfl | rfl | rfl | rfl | rfl | rfl | rfl | rfl <;> rfl) (Nat.le_of_ble_eq_true rfl) (Nat.le_of_ble_eq_true rfl) dL_law_8 (fun qm H hP hD hS => ?_)
  have hP : va_P D vwCl (xW (D, ux.1, cI, cJ) ux.2 ++ [(qm, .inr (6, [.int 0, .int 0, .int 0, .int 0, .int 0, .null, .null, .null, .null, .null, .null, .int 0, .int 0, .null, .null, .null, .null, .null, .null, .null, .null, .null, .null, .int 0, .int 0, .null, .null, .null, .null, .null, .null, .null, .null, .null, .int 0, .int 0, .null, .null, .null, .null, .null]))]) H := hP
  have hD : va_D (lwA s) (xW (D, ux.1, cI, cJ) ux.2 ++ [(qm, .inr (6, [.int 0, .int 0, .int 0, .int 0, .int 0, .null, .null, .null, .null, .null, .null, .int 0, .int 0, .null, .null, .null, .null, .null, .null, .null, .null, .null, .null, .int 0, .int 0, .null, .null, .null, .null, .null, .null, .null, .null, .null, .int 0, .int 0, .null, .null, .null, .null, .null]))]) := hD
  refine W.widen (k := 35) (n := 2690) (by omega) (by omega) ?_
  refine lv_dup hx hb dL_law_11 rfl ?_
  have hPc := hP.sub (ws' := [(qm, .inr (6, [.int 0, .int 0, .int 0, .int 0, .int 0, .null, .null, .null, .null, .null, .null, .int 0, .int 0, .null, .null, .null, .null, .null, .null, .null, .null, .null, .null, .int 0, .int 0, .null, .null, .null, .null, .null, .null, .null, .null, .null, .int 0, .int 0, .null, .null, .null, .null, .null]))]) [34] rfl
  have hFc := va_free (wc := [(qm, .inr (6, [.int 0, .int 0, .int 0, .int 0, .int 0, .null, .null, .null, .null, .null, .null, .int 0, .int 0, .null, .null, .null, .null, .null, .null, .null, .null, .null, .null, .int 0, .int 0, .null, .null, .null, .null, .null, .null, .null, .null, .null, .int 0, .int 0, .null, .null, .null, .null, .null]))]) hD hS hA [34] rfl
  refine va_callv (va_runI (As := []) (rest := [.ref qm]) ⟨hx, hb, hml, hown, hts⟩ (k_X6 l D cI cJ qm H.size) (cwI 0 hts gL_law_X6_init rfl rfl rfl (hts _ (List.mem_of_getElem? (i := 5) rfl : (Cond.initialized RX6 : Cond) ∈ wsL_law)) (hts _ (List.mem_of_getElem? (i := 91) rfl : (Cond.methodLink RL 12 yX6_init : Cond) ∈ wsL_law)) (hts _ (List.mem_of_getElem? (i := 92) rfl : (Cond.instanceMethod yX6_init : Cond) ∈ wsL_law)) rfl (by decide +kernel) ⟨Nat.le_of_ble_eq_true rfl, Nat.le_of_ble_eq_true rfl⟩) ⟨fun a U g mk q => by obtain ⟨q0, q1, qP, qK⟩ := q; exact ⟨q0, q1, qP, va_K.moved (u := U) (U := U.calling g mk a) (Vm.Alike.refl U.vm) qK⟩, fun U hU hW => ⟨rfl, by rw [hU], by rw [hU]; exact hPc, va_K.moved hW.alike hK⟩⟩ rfl rfl hl.1 rfl (lv_room (Nat.le_of_ble_eq_true rfl)) dL_law_12 ⟨Nat.le_of_ble_eq_true rfl, Nat.le_of_ble_eq_true rfl⟩) hS (fun q _ h => hFc q h) hFc (fun um t H1 locs ht hvm hw hB hz1 hk1 hS => ?_)
  obtain ⟨hP1, hK1, hD1⟩ := hB
  rw [ht] at hP1
  try dsimp only at hw
  obtain ⟨hP, hD⟩ := va_join (wr := xW (D, ux.1, cI, cJ) ux.2) (w1 := mW (D, um, cI, cJ) w0) hP hD [34] [0, 1, 2, 3, 4, 5, 6, 7, 8, 9, 10, 11, 12, 13, 14, 15, 16, 17, 18, 19, 20, 21, 22, 23, 24, 25, 26, 27, 28, 29, 30, 31, 32, 33] rfl rfl (by decide) (by decide) hk1 hFc hP1 hD1
  generalize H1 = H at hP hS ⊢
  refine W.widen (k := 65) (n := 12543) (by omega) (by omega) ?_
  rw [← hw]
  refine lv_astore_n (lv' := [(2, .ref (um 0)), (1, .ref (ux.1 0)), (0, .ref b)]) hx hb dL_law_15 rfl hl (by decide) rfl (fun ls hl => ?_)
  refine lv_iconst (v := 0) hx hb dL_law_16 (by decide) ?_
  refine lv_istore_n (lv' := [(3, .int 0), (2, .ref (um 0)), (1, .ref (ux.1 0)), (0, .ref b)]) hx hb dL_law_17 rfl hl (by decide) rfl (fun ls hl => ?_)
  have hPx : va_P D vwCl (xW (D, ux.1, cI, cJ) ux.2) H := hP.sub [0, 1, 2, 3, 4, 5, 6, 7, 8, 9, 10, 11, 12, 13, 14, 15, 16, 17, 18, 19, 20, 21, 22, 23, 24, 25, 26, 27, 28, 29, 30, 31, 32, 33] rfl
  have hDx : va_D (lwA s) (xW (D, ux.1, cI, cJ) ux.2) := hD.sub [0, 1, 2, 3, 4, 5, 6, 7, 8, 9, 10, 11, 12, 13, 14, 15, 16, 17, 18, 19, 20, 21, 22, 23, 24, 25, 26, 27, 28, 29, 30, 31, 32, 33] (by decide) rfl
  have hPm : va_P D vwCl (mW (D, um, cI, cJ) w0) H := hP.sub [34, 35, 36, 37, 38, 39, 40, 41, 42, 43, 44, 45, 46, 47, 48, 49, 50, 51, 52, 53, 54, 55, 56, 57, 58, 59, 60, 61, 62, 63, 64] rfl
  have hDm : va_D (lwA s) (mW (D, um, cI, cJ) w0) := hD.sub [34, 35, 36, 37, 38, 39, 40, 41, 42, 43, 44, 45, 46, 47, 48, 49, 50, 51, 52, 53, 54, 55, 56, 57, 58, 59, 60, 61, 62, 63, 64] (by decide) rfl
  have lx : (xW (D, ux.1, cI, cJ) ux.2).length = 34 := rfl
  have lm : (mW (D, um, cI, cJ) w0).length = 31 := rfl
  have hxa : ∀ i, i < 34 → ∃ q, (xW (D, ux.1, cI, cJ) ux.2)[i]? = some q ∧ q.1 = ux.1 i := fun i hi => by
    obtain ⟨q, hq⟩ : ∃ q, (xW (D, ux.1, cI, cJ) ux.2)[i]? = some q := ⟨_, List.getElem?_eq_getElem (by rw [lx]; exact hi)⟩
    exact ⟨q, hq, (xW_at hq).2⟩
  have hma : ∀ i, i < 31 → ∃ q, (mW (D, um, cI, cJ) w0)[i]? = some q ∧ q.1 = um i := fun i hi => by
    obtain ⟨q, hq⟩ : ∃ q, (mW (D, um, cI, cJ) w0)[i]? = some q := ⟨_, List.getElem?_eq_getElem (by rw [lm]; exact hi)⟩
    exact ⟨q, hq, (mW_at hq).2⟩
  have C : lwC p s m c b L xs (D, ux.1, cI, cJ) (D, um, cI, cJ) := by
    refine ⟨hx, hb, hml, hown, hts, hX, hbl, fun i j hi hj he => ?_, fun i hi => ?_, fun j hj => ?_⟩
    · obtain ⟨qx, a1, a2⟩ := hxa i hi
      obtain ⟨qn, b1, b2⟩ := hma j hj
      have h1 : (xW (D, ux.1, cI, cJ) ux.2 ++ mW (D, um, cI, cJ) w0)[i]? = some qx := by rw [List.getElem?_append_left (by rw [lx]; exact hi)]; exact a1
      have h2 : (xW (D, ux.1, cI, cJ) ux.2 ++ mW (D, um, cI, cJ) w0)[34 + j]? = some qn := by rw [List.getElem?_append_right (by rw [lx]; omega), lx, show 34 + j - 34 = j by omega]; exact b1
      have h3 := hD.1 i (34 + j) qx qn h1 h2 (by rw [a2, b2]; exact he)
      omega
    · obtain ⟨qx, a1, a2⟩ := hxa i hi
      have h1 := hDx.2 i qx a1
      rw [a2] at h1; exact h1
    · obtain ⟨qn, b1, b2⟩ := hma j hj
      have h1 := hDm.2 j qn b1
      rw [b2] at h1; exact h1
  refine law_loop (Rel := Rel) h0 h1 h2 h3 h4 h5 h6 h7 h8 h9 h10 h11 h12 h13 h14 h15 h16 h17 h18 h19 h20 h21 h22 h23 h24 h25 C hL (fun H locs ls hS => ?_) (L + 7) 0 0 (Nat.zero_le _) (by omega) nI_0.symm ux.2 w0 H locs ls (by rw [hσx]; exact hR0 σE σC hqE hqC) ⟨⟨hPx, xD_of hDx, hK⟩, ⟨hPm, mD_of hDm, hK⟩⟩ hS (lv_sub hl [3, 2, 1, 0] rfl)
  refine lv_iconst (v := 1) hx hb dL_law_1120 (by decide) ?_
  exact va_forget hS.2.2 (lw_ret hx hb hr hlocks dL_law_1121)
