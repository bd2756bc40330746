def lwC (p : Program) (s : State) (m : MethodId) (c : Code) (b L : Nat) (xs : Nat → Int32) (gx gm : wG) : Prop :=
  p.tables.exec = Jvm.exec ∧ c.code = cL_law ∧ c.maxLocals = 4 ∧ s.vm.findClass RL = some m.cls ∧ (∀ w ∈ wsL_law, w.before #[Value.ref b] s = true) ∧ va_X b L xs s s.heap ∧ b < s.heap.size ∧ (∀ i j, i < 34 → j < 31 → gx.2.1 i ≠ gm.2.1 j) ∧ (∀ i, i < 34 → s.heap.size ≤ gx.2.1 i) ∧ (∀ j, j < 31 → s.heap.size ≤ gm.2.1 j)
def lwZ (gx gm : wG) (σx σm : wS) (H : Heap) (s : State) : Prop := xIn gx σx H s ∧ mIn gm σm H s
abbrev lwA (s : State) : Nat → Prop := fun q => s.heap.size ≤ q
def lwI (x : Int32) (L : Nat) : Prop := vp_in x L ∧ vp_in (x + 1) L ∧ vp_in (x + 2) L ∧ vp_in (x + 3) L ∧ vp_in (x + 4) L ∧ vp_in (x + 5) L
section LAWCALL
variable {p : Program} {l : Launch} {e : Env} {s : State} {m : MethodId} {below : List Frame} {meth : Method} {c : Code} {H : Heap} {locs : List Loc} {QQ : State → Prop} {b L : Nat} {xs : Nat → Int32} {gx gm : wG}
variable {y : MethodName} {ws : List Cond} {rm : Room} {bytes : ByteArray} {maxL n index pc : Nat} {ret : Option FieldType} {As rest st : List Value} {ls : Array Slot} {σx σm : wS}
theorem lawX {Qp : Int32 → wS → Prop} (C : lwC p s m c b L xs gx gm) (hM : Met l y ws rm (va_Pc (.ref (gx.2.1 0) :: As) (fun U => xIn gx σx U.heap U)) (va_Qi Qp (fun σ1 t => xIn gx σ1 t.heap t) (xA gx)) 0 0 (xA gx)) (cw : CallW room_1 s #[Value.ref b] RL RX5 index y bytes maxL ret ws rm 0 0 n) (hZ : lwZ gx gm σx σm H s) (hS : va_S (lwA s) s.heap H locs) (hl : ls.size = 4) (hn : As.length = n) (hst : st = As.reverse ++ .ref (gx.2.1 0) :: rest) (hW : (rest.map fun v => v.category).sum ≤ 8) (hdg : decode cL_law pc = .ok (.invokevirtual index, 3))
    (kk : ∀ (r : Int32) (σ1 : wS) (H : Heap) (locs : List Loc), Qp r σ1 → lwZ gx gm σ1 σm H s → va_S (lwA s) s.heap H locs → W p l e room_1 s m #[Value.ref b] below meth c H locs 65 12543 QQ (F0 m (pc + 3) ls (.int r :: rest))) : W p l e room_1 s m #[Value.ref b] below meth c H locs 65 12543 QQ (F0 m pc ls st) := by
  obtain ⟨hx, hb, hml, hown, hts, -, -, hap, hgx, -⟩ := C
  have hsub : ∀ q, xA gx q → lwA s q := fun q ⟨k, h1, h2⟩ => by rw [h2]; exact hgx k h1
  refine va_calli (va_runV (As := As) (rest := rest) ⟨hx, hb, hml, hown, hts⟩ hM cw (gPreV (xMv gx) hZ.1 (xRecv_X5 hZ.1)) rfl hn hl hst (lv_room hW) hdg ⟨Nat.le_refl _, Nat.le_refl _⟩) hS (fun q _ h => hsub q h) hsub (fun r u t H1 locs1 ht hvm hq hB _ hk1 hS1 => ?_)
  refine kk r u H1 locs1 hq ⟨by have hB : xIn gx u t.heap t := hB; rw [ht] at hB; exact xMv gx _ _ _ _ hvm.symm hB, ?_⟩ hS1
  refine ⟨hZ.2.1.kept (fun k q hk => hk1 q.1 (hZ.2.1 k q hk).lt ?_), hZ.2.2⟩
  rintro ⟨i, h1, h2⟩
  obtain ⟨h3, h4⟩ := mW_at hk
  exact hap i k h1 h3 (h2.symm.trans h4)
theorem lawM {Qp : Int32 → wS → Prop} (C : lwC p s m c b L xs gx gm) (hM : Met l y ws rm (va_Pc (.ref (gm.2.1 0) :: As) (fun U => mIn gm σm U.heap U)) (va_Qi Qp (fun σ1 t => mIn gm σ1 t.heap t) (mA gm)) 0 0 (mA gm)) (cw : CallW room_1 s #[Value.ref b] RL RX6 index y bytes maxL ret ws rm 0 0 n) (hZ : lwZ gx gm σx σm H s) (hS : va_S (lwA s) s.heap H locs) (hl : ls.size = 4) (hn : As.length = n) (hst : st = As.reverse ++ .ref (gm.2.1 0) :: rest) (hW : (rest.map fun v => v.category).sum ≤ 8) (hdg : decode cL_law pc = .ok (.invokevirtual index, 3))
    (kk : ∀ (r : Int32) (σ1 : wS) (H : Heap) (locs : List Loc), Qp r σ1 → lwZ gx gm σx σ1 H s → va_S (lwA s) s.heap H locs → W p l e room_1 s m #[Value.ref b] below meth c H locs 65 12543 QQ (F0 m (pc + 3) ls (.int r :: rest))) : W p l e room_1 s m #[Value.ref b] below meth c H locs 65 12543 QQ (F0 m pc ls st) := by
  obtain ⟨hx, hb, hml, hown, hts, -, -, hap, -, hgm⟩ := C
  have hsub : ∀ q, mA gm q → lwA s q := fun q ⟨k, h1, h2⟩ => by rw [h2]; exact hgm k h1
  refine va_calli (va_runV (As := As) (rest := rest) ⟨hx, hb, hml, hown, hts⟩ hM cw (gPreV (mMv gm) hZ.2 (mRecv_X6 hZ.2)) rfl hn hl hst (lv_room hW) hdg ⟨Nat.le_refl _, Nat.le_refl _⟩) hS (fun q _ h => hsub q h) hsub (fun r u t H1 locs1 ht hvm hq hB _ hk1 hS1 => ?_)
  refine kk r u H1 locs1 hq ⟨?_, by have hB : mIn gm u t.heap t := hB; rw [ht] at hB; exact mMv gm _ _ _ _ hvm.symm hB⟩ hS1
  refine ⟨hZ.1.1.kept (fun k q hk => hk1 q.1 (hZ.1.1 k q hk).lt ?_), hZ.1.2⟩
  rintro ⟨i, h1, h2⟩
  obtain ⟨h3, h4⟩ := xW_at hk
  exact hap k i h3 h1 (h4.symm.trans h2)
end LAWCALL
theorem gSw26 {x : Int32} (h : ∀ i : Nat, i < 26 → ¬ x = Int32.ofNat i) : x.toInt < 0 ∨ (25 : Int) < x.toInt := gSwN 26 (by decide) h
