/-! BASE: a state of a system as four families of numbers (int fields, long fields, int arrays, long arrays); a walk's entry, ends and calls over any world predicate I with its addresses A -/
abbrev wS : Type := (Nat → Int32) × (Nat → Int64) × (Nat → Nat → Int32) × (Nat → Nat → Int64)
def sI (σ : wS) (k : Nat) (v : Int32) : wS := (va_up σ.1 k v, σ.2)
def sL (σ : wS) (k : Nat) (v : Int64) : wS := (σ.1, va_up σ.2.1 k v, σ.2.2)
def sAF (σ : wS) (a : Nat) (f : Nat → Int32) : wS := (σ.1, σ.2.1, va_up σ.2.2.1 a f, σ.2.2.2)
def sBF (σ : wS) (a : Nat) (f : Nat → Int64) : wS := (σ.1, σ.2.1, σ.2.2.1, va_up σ.2.2.2 a f)
def sA (σ : wS) (a : Nat) (i : Int32) (v : Int32) : wS := sAF σ a (upd (σ.2.2.1 a) i.toNatClampNeg v)
def sB (σ : wS) (a : Nat) (i : Int32) (v : Int64) : wS := sBF σ a (vp_updL (σ.2.2.2 a) i.toNatClampNeg v)
abbrev aI (σ : wS) (a : Nat) (i : Int32) : Int32 := σ.2.2.1 a i.toNatClampNeg
abbrev aL (σ : wS) (a : Nat) (i : Int32) : Int64 := σ.2.2.2 a i.toNatClampNeg
/-- a boolean's number -/
def isB (v : Int32) : Prop := narrow .boolean (.int v) = .int v
theorem isB0 : isB 0 := rfl
theorem isB1 : isB 1 := rfl
/-- a loop: its body with what the way back asks -/
def wloop {τ : Type} (body : (τ → Prop) → τ → Prop) : Nat → τ → Prop
  | 0, _ => False
  | n + 1, v => body (wloop body n) v
/-- the rule of a loop: an invariant and a measure -/
theorem wloop_of {τ : Type} {body : (τ → Prop) → τ → Prop} (Inv : τ → Prop) (μ : τ → Nat) (hs : ∀ (K : τ → Prop) (v : τ), Inv v → (∀ v', Inv v' → μ v' < μ v → K v') → body K v) (v : τ) (h : Inv v) : ∃ n, wloop body n v := by
  have key : ∀ (n : Nat) (v : τ), Inv v → μ v < n → wloop body n v := by
    intro n
    induction n with
    | zero => intro v _ h2; exact absurd h2 (Nat.not_lt_zero _)
    | succ n ih => intro v h1 h2; exact hs _ v h1 (fun v' h3 h4 => ih v' h3 (by omega))
  exact ⟨μ v + 1, key _ v h (Nat.lt_succ_self _)⟩
abbrev wG : Type := va_G × (Nat → Nat) × ClassId × ClassId
def wMv (I : wS → Heap → State → Prop) : Prop := ∀ (σ : wS) (H : Heap) (s t : State), s.vm.Alike t.vm → I σ H s → I σ H t
section BASE
variable {I : wS → Heap → State → Prop} {A : Nat → Prop} {l : Launch} {y : MethodName} {ws ws' : List Cond} {rm : Room} {cc : ByteArray} {maxL : Nat} {av : List Value} {σ : wS}
theorem gOfI {Q : Int32 → wS → Prop} (hmv : wMv I) (hy : plainName y.cls = true) (hw : ws = Cond.code y cc maxL (some .int) :: ws') (hlen : (lg_sl av).length ≤ maxL)
    (body : ∀ (p : Program) (e : Env) (s : State) (m : MethodId) (args : Array Value) (below : List Frame) (meth : Method) (c : Code) (QQ : State → Prop), p.tables.exec = Jvm.exec → c.code = cc → c.maxLocals = maxL → s.vm.findClass y.cls = some m.cls → (∀ w ∈ ws, w.before args s = true) →
      (∀ (v : Int32) (σ' : wS) (H : Heap) (locs : List Loc) (ls : Array Slot) (pc : Nat), decode cc pc = .ok (.ireturn, 1) → Q v σ' → I σ' H s → va_S A s.heap H locs → W p l e rm s m args below meth c H locs 0 0 QQ (F0 m pc ls [.int v])) →
      ∀ ls : Array Slot, lv_has ls maxL (lv_args 0 av) → I σ s.heap s → W p l e rm s m args below meth c s.heap [] 0 0 QQ (F0 m 0 ls [])) :
    Met l y ws rm (va_Pc av (fun U => I σ U.heap U)) (va_Qi Q (fun σ' t => I σ' t.heap t) A) 0 0 A := by
  refine Met.ofW (cc := cc) (maxL := maxL) (ret := some .int) hy hw ?_
  intro p e s m args below meth c s₁ B hml hv
  obtain ⟨rfl, hI⟩ := hv
  have hlocks := B.notSynchronized
  rw [lg_entry_eq]
  refine body p e s m _ below meth c _ B.exec B.bytes hml (findClass_of_methodNamed B.named) (atoms_spec (ws := ws) B.pre) ?_ _ (lv_entry av hlen) hI
  intro v σ' H locs ls pc hdg hQ hI' hS
  exact W.iret (v := v) B.exec B.bytes B.returns (fun t ht hW => ⟨⟨v, σ', rfl, hQ, by show I _ _ _; rw [ht]; exact hmv _ _ _ _ hW.alike hI'⟩, hS.F ht⟩) hS.2.2 hdg
theorem gOfZ {Q : Int32 → wS → Prop} (hmv : wMv I) (hy : plainName y.cls = true) (hw : ws = Cond.code y cc maxL (some .boolean) :: ws') (hlen : (lg_sl av).length ≤ maxL)
    (body : ∀ (p : Program) (e : Env) (s : State) (m : MethodId) (args : Array Value) (below : List Frame) (meth : Method) (c : Code) (QQ : State → Prop), p.tables.exec = Jvm.exec → c.code = cc → c.maxLocals = maxL → s.vm.findClass y.cls = some m.cls → (∀ w ∈ ws, w.before args s = true) →
      (∀ (v : Int32) (σ' : wS) (H : Heap) (locs : List Loc) (ls : Array Slot) (pc : Nat), decode cc pc = .ok (.ireturn, 1) → isB v → Q v σ' → I σ' H s → va_S A s.heap H locs → W p l e rm s m args below meth c H locs 0 0 QQ (F0 m pc ls [.int v])) →
      ∀ ls : Array Slot, lv_has ls maxL (lv_args 0 av) → I σ s.heap s → W p l e rm s m args below meth c s.heap [] 0 0 QQ (F0 m 0 ls [])) :
    Met l y ws rm (va_Pc av (fun U => I σ U.heap U)) (va_Qi Q (fun σ' t => I σ' t.heap t) A) 0 0 A := by
  refine Met.ofW (cc := cc) (maxL := maxL) (ret := some .boolean) hy hw ?_
  intro p e s m args below meth c s₁ B hml hv
  obtain ⟨rfl, hI⟩ := hv
  have hlocks := B.notSynchronized
  rw [lg_entry_eq]
  refine body p e s m _ below meth c _ B.exec B.bytes hml (findClass_of_methodNamed B.named) (atoms_spec (ws := ws) B.pre) ?_ _ (lv_entry av hlen) hI
  intro v σ' H locs ls pc hdg hz hQ hI' hS
  exact W.zret (v := v) (ty := .boolean) B.exec B.bytes B.returns hz (fun t ht hW => ⟨⟨v, σ', rfl, hQ, by show I _ _ _; rw [ht]; exact hmv _ _ _ _ hW.alike hI'⟩, hS.F ht⟩) hS.2.2 hdg
theorem gOfL {Q : Int64 → wS → Prop} (hmv : wMv I) (hy : plainName y.cls = true) (hw : ws = Cond.code y cc maxL (some .long) :: ws') (hlen : (lg_sl av).length ≤ maxL)
    (body : ∀ (p : Program) (e : Env) (s : State) (m : MethodId) (args : Array Value) (below : List Frame) (meth : Method) (c : Code) (QQ : State → Prop), p.tables.exec = Jvm.exec → c.code = cc → c.maxLocals = maxL → s.vm.findClass y.cls = some m.cls → (∀ w ∈ ws, w.before args s = true) →
      (∀ (v : Int64) (σ' : wS) (H : Heap) (locs : List Loc) (ls : Array Slot) (pc : Nat), decode cc pc = .ok (.lreturn, 1) → Q v σ' → I σ' H s → va_S A s.heap H locs → W p l e rm s m args below meth c H locs 0 0 QQ (F0 m pc ls [.long v])) →
      ∀ ls : Array Slot, lv_has ls maxL (lv_args 0 av) → I σ s.heap s → W p l e rm s m args below meth c s.heap [] 0 0 QQ (F0 m 0 ls [])) :
    Met l y ws rm (va_Pc av (fun U => I σ U.heap U)) (va_Ql Q (fun σ' t => I σ' t.heap t) A) 0 0 A := by
  refine Met.ofW (cc := cc) (maxL := maxL) (ret := some .long) hy hw ?_
  intro p e s m args below meth c s₁ B hml hv
  obtain ⟨rfl, hI⟩ := hv
  have hlocks := B.notSynchronized
  rw [lg_entry_eq]
  refine body p e s m _ below meth c _ B.exec B.bytes hml (findClass_of_methodNamed B.named) (atoms_spec (ws := ws) B.pre) ?_ _ (lv_entry av hlen) hI
  intro v σ' H locs ls pc hdg hQ hI' hS
  exact W.lret (v := v) B.exec B.bytes B.returns (fun t ht hW => ⟨⟨v, σ', rfl, hQ, by show I _ _ _; rw [ht]; exact hmv _ _ _ _ hW.alike hI'⟩, hS.F ht⟩) hS.2.2 hdg
theorem gOfV {Q : wS → Prop} (hmv : wMv I) (hy : plainName y.cls = true) (hw : ws = Cond.code y cc maxL none :: ws') (hlen : (lg_sl av).length ≤ maxL)
    (body : ∀ (p : Program) (e : Env) (s : State) (m : MethodId) (args : Array Value) (below : List Frame) (meth : Method) (c : Code) (QQ : State → Prop), p.tables.exec = Jvm.exec → c.code = cc → c.maxLocals = maxL → s.vm.findClass y.cls = some m.cls → (∀ w ∈ ws, w.before args s = true) →
      (∀ (σ' : wS) (H : Heap) (locs : List Loc) (ls : Array Slot) (pc : Nat), decode cc pc = .ok (.return_, 1) → Q σ' → I σ' H s → va_S A s.heap H locs → W p l e rm s m args below meth c H locs 0 0 QQ (F0 m pc ls [])) →
      ∀ ls : Array Slot, lv_has ls maxL (lv_args 0 av) → I σ s.heap s → W p l e rm s m args below meth c s.heap [] 0 0 QQ (F0 m 0 ls [])) :
    Met l y ws rm (va_Pc av (fun U => I σ U.heap U)) (va_Qv Q (fun σ' t => I σ' t.heap t) A) 0 0 A := by
  refine Met.ofW (cc := cc) (maxL := maxL) (ret := none) hy hw ?_
  intro p e s m args below meth c s₁ B hml hv
  obtain ⟨rfl, hI⟩ := hv
  have hlocks := B.notSynchronized
  rw [lg_entry_eq]
  refine body p e s m _ below meth c _ B.exec B.bytes hml (findClass_of_methodNamed B.named) (atoms_spec (ws := ws) B.pre) ?_ _ (lv_entry av hlen) hI
  intro σ' H locs ls pc hdg hQ hI' hS
  exact W.vret B.exec B.bytes B.returns (fun t ht hW => ⟨⟨σ', rfl, hQ, by show I _ _ _; rw [ht]; exact hmv _ _ _ _ hW.alike hI'⟩, hS.F ht⟩) hS.2.2 hdg
end BASE
section CALLS
variable {p : Program} {l : Launch} {e : Env} {R : Room} {s : State} {m : MethodId} {args : Array Value} {below : List Frame} {meth : Method} {c : Code} {H : Heap} {locs : List Loc} {QQ : State → Prop}
variable {I : wS → Heap → State → Prop} {A : Nat → Prop} {y : MethodName} {ws : List Cond} {rm : Room} {bytes cc : ByteArray} {maxL nL n index pc : Nat} {ret : Option FieldType} {Ts : List Cond} {own C : String} {b : Addr} {As rest st : List Value} {ls : Array Slot} {σ : wS}
theorem gPc (hmv : wMv I) (av : List Value) : FrameBlind (va_Pc av (fun U => I σ U.heap U)) := fun a U g mk q => by
  obtain ⟨q0, q1⟩ := q
  exact ⟨q0, hmv _ _ U (U.calling g mk a) (Vm.Alike.refl U.vm) q1⟩
theorem gPreV (hmv : wMv I) (hI : I σ H s) (hrecv : ∃ cellB : Cell, H[b]? = some cellB ∧ cellB.vm.isStatics = false ∧ s.vm.findClass C = some cellB.cls) : PreV s H C b (va_Pc (.ref b :: As) (fun U => I σ U.heap U)) As :=
  ⟨gPc hmv _, hrecv, fun U hU hW => ⟨rfl, by show I _ _ _; rw [hU]; exact hmv _ _ _ _ hW.alike hI⟩⟩
theorem gPreS (hmv : wMv I) (hI : I σ H s) : PreS s H (va_Pc As (fun U => I σ U.heap U)) As :=
  ⟨gPc hmv _, fun U hU hW => ⟨rfl, by show I _ _ _; rw [hU]; exact hmv _ _ _ _ hW.alike hI⟩⟩
theorem gVi {Qp : Int32 → wS → Prop} (hM : Met l y ws rm (va_Pc (.ref b :: As) (fun U => I σ U.heap U)) (va_Qi Qp (fun σ' t => I σ' t.heap t) A) 0 0 A) (hmv : wMv I) (S : CallFix p m c cc nL s args Ts own) (cw : CallW R s args own C index y bytes maxL ret ws rm 0 0 n)
    (hrecv : ∃ cellB : Cell, H[b]? = some cellB ∧ cellB.vm.isStatics = false ∧ s.vm.findClass C = some cellB.cls) (hI : I σ H s) (hS : va_S A s.heap H locs) (hl : ls.size = nL) (hn : As.length = n) (hst : st = As.reverse ++ .ref b :: rest) (hW : (rest.map fun v => v.category).sum ≤ 8) (hdg : decode cc pc = .ok (.invokevirtual index, 3))
    (kk : ∀ (r : Int32) (σ' : wS) (H : Heap) (locs : List Loc), Qp r σ' → I σ' H s → va_S A s.heap H locs → W p l e R s m args below meth c H locs 0 0 QQ (F0 m (pc + 3) ls (.int r :: rest))) : W p l e R s m args below meth c H locs 0 0 QQ (F0 m pc ls st) :=
  va_calli (va_runV (As := As) (rest := rest) S hM cw (gPreV hmv hI hrecv) rfl hn hl hst (lv_room hW) hdg ⟨Nat.zero_le _, Nat.zero_le _⟩) hS (fun _ _ h => h) (fun _ h => h) (fun r u t H1 locs1 ht hvm hq hB _ _ hS1 => kk r u H1 locs1 hq (by have hB : I u t.heap t := hB; rw [ht] at hB; exact hmv _ _ _ _ hvm.symm hB) hS1)
theorem gVl {Qp : Int64 → wS → Prop} (hM : Met l y ws rm (va_Pc (.ref b :: As) (fun U => I σ U.heap U)) (va_Ql Qp (fun σ' t => I σ' t.heap t) A) 0 0 A) (hmv : wMv I) (S : CallFix p m c cc nL s args Ts own) (cw : CallW R s args own C index y bytes maxL ret ws rm 0 0 n)
    (hrecv : ∃ cellB : Cell, H[b]? = some cellB ∧ cellB.vm.isStatics = false ∧ s.vm.findClass C = some cellB.cls) (hI : I σ H s) (hS : va_S A s.heap H locs) (hl : ls.size = nL) (hn : As.length = n) (hst : st = As.reverse ++ .ref b :: rest) (hW : (rest.map fun v => v.category).sum ≤ 8) (hdg : decode cc pc = .ok (.invokevirtual index, 3))
    (kk : ∀ (r : Int64) (σ' : wS) (H : Heap) (locs : List Loc), Qp r σ' → I σ' H s → va_S A s.heap H locs → W p l e R s m args below meth c H locs 0 0 QQ (F0 m (pc + 3) ls (.long r :: rest))) : W p l e R s m args below meth c H locs 0 0 QQ (F0 m pc ls st) :=
  va_calll (va_runV (As := As) (rest := rest) S hM cw (gPreV hmv hI hrecv) rfl hn hl hst (lv_room hW) hdg ⟨Nat.zero_le _, Nat.zero_le _⟩) hS (fun _ _ h => h) (fun _ h => h) (fun r u t H1 locs1 ht hvm hq hB _ _ hS1 => kk r u H1 locs1 hq (by have hB : I u t.heap t := hB; rw [ht] at hB; exact hmv _ _ _ _ hvm.symm hB) hS1)
theorem gVv {Qp : wS → Prop} (hM : Met l y ws rm (va_Pc (.ref b :: As) (fun U => I σ U.heap U)) (va_Qv Qp (fun σ' t => I σ' t.heap t) A) 0 0 A) (hmv : wMv I) (S : CallFix p m c cc nL s args Ts own) (cw : CallW R s args own C index y bytes maxL ret ws rm 0 0 n)
    (hrecv : ∃ cellB : Cell, H[b]? = some cellB ∧ cellB.vm.isStatics = false ∧ s.vm.findClass C = some cellB.cls) (hI : I σ H s) (hS : va_S A s.heap H locs) (hl : ls.size = nL) (hn : As.length = n) (hst : st = As.reverse ++ .ref b :: rest) (hW : (rest.map fun v => v.category).sum ≤ 8) (hdg : decode cc pc = .ok (.invokevirtual index, 3))
    (kk : ∀ (σ' : wS) (H : Heap) (locs : List Loc), Qp σ' → I σ' H s → va_S A s.heap H locs → W p l e R s m args below meth c H locs 0 0 QQ (F0 m (pc + 3) ls rest)) : W p l e R s m args below meth c H locs 0 0 QQ (F0 m pc ls st) :=
  va_callv (va_runV (As := As) (rest := rest) S hM cw (gPreV hmv hI hrecv) rfl hn hl hst (lv_room hW) hdg ⟨Nat.zero_le _, Nat.zero_le _⟩) hS (fun _ _ h => h) (fun _ h => h) (fun u t H1 locs1 ht hvm hq hB _ _ hS1 => kk u H1 locs1 hq (by have hB : I u t.heap t := hB; rw [ht] at hB; exact hmv _ _ _ _ hvm.symm hB) hS1)
theorem gSi {Qp : Int32 → wS → Prop} (hM : Met l y ws rm (va_Pc As (fun U => I σ U.heap U)) (va_Qi Qp (fun σ' t => I σ' t.heap t) A) 0 0 A) (hmv : wMv I) (S : CallFix p m c cc nL s args Ts own) (cw : CallB R s args own index y bytes maxL ret ws rm 0 0 n ∧ (Cond.static y).before args s = true)
    (hI : I σ H s) (hS : va_S A s.heap H locs) (hl : ls.size = nL) (hn : As.length = n) (hst : st = As.reverse ++ rest) (hW : (rest.map fun v => v.category).sum ≤ 8) (hdg : decode cc pc = .ok (.invokestatic index, 3))
    (kk : ∀ (r : Int32) (σ' : wS) (H : Heap) (locs : List Loc), Qp r σ' → I σ' H s → va_S A s.heap H locs → W p l e R s m args below meth c H locs 0 0 QQ (F0 m (pc + 3) ls (.int r :: rest))) : W p l e R s m args below meth c H locs 0 0 QQ (F0 m pc ls st) :=
  va_calli (va_runS (As := As) (rest := rest) S hM cw (gPreS hmv hI) rfl hn hl hst (lv_room hW) hdg ⟨Nat.zero_le _, Nat.zero_le _⟩) hS (fun _ _ h => h) (fun _ h => h) (fun r u t H1 locs1 ht hvm hq hB _ _ hS1 => kk r u H1 locs1 hq (by have hB : I u t.heap t := hB; rw [ht] at hB; exact hmv _ _ _ _ hvm.symm hB) hS1)
theorem gSl {Qp : Int64 → wS → Prop} (hM : Met l y ws rm (va_Pc As (fun U => I σ U.heap U)) (va_Ql Qp (fun σ' t => I σ' t.heap t) A) 0 0 A) (hmv : wMv I) (S : CallFix p m c cc nL s args Ts own) (cw : CallB R s args own index y bytes maxL ret ws rm 0 0 n ∧ (Cond.static y).before args s = true)
    (hI : I σ H s) (hS : va_S A s.heap H locs) (hl : ls.size = nL) (hn : As.length = n) (hst : st = As.reverse ++ rest) (hW : (rest.map fun v => v.category).sum ≤ 8) (hdg : decode cc pc = .ok (.invokestatic index, 3))
    (kk : ∀ (r : Int64) (σ' : wS) (H : Heap) (locs : List Loc), Qp r σ' → I σ' H s → va_S A s.heap H locs → W p l e R s m args below meth c H locs 0 0 QQ (F0 m (pc + 3) ls (.long r :: rest))) : W p l e R s m args below meth c H locs 0 0 QQ (F0 m pc ls st) :=
  va_calll (va_runS (As := As) (rest := rest) S hM cw (gPreS hmv hI) rfl hn hl hst (lv_room hW) hdg ⟨Nat.zero_le _, Nat.zero_le _⟩) hS (fun _ _ h => h) (fun _ h => h) (fun r u t H1 locs1 ht hvm hq hB _ _ hS1 => kk r u H1 locs1 hq (by have hB : I u t.heap t := hB; rw [ht] at hB; exact hmv _ _ _ _ hvm.symm hB) hS1)
theorem gSv {Qp : wS → Prop} (hM : Met l y ws rm (va_Pc As (fun U => I σ U.heap U)) (va_Qv Qp (fun σ' t => I σ' t.heap t) A) 0 0 A) (hmv : wMv I) (S : CallFix p m c cc nL s args Ts own) (cw : CallB R s args own index y bytes maxL ret ws rm 0 0 n ∧ (Cond.static y).before args s = true)
    (hI : I σ H s) (hS : va_S A s.heap H locs) (hl : ls.size = nL) (hn : As.length = n) (hst : st = As.reverse ++ rest) (hW : (rest.map fun v => v.category).sum ≤ 8) (hdg : decode cc pc = .ok (.invokestatic index, 3))
    (kk : ∀ (σ' : wS) (H : Heap) (locs : List Loc), Qp σ' → I σ' H s → va_S A s.heap H locs → W p l e R s m args below meth c H locs 0 0 QQ (F0 m (pc + 3) ls rest)) : W p l e R s m args below meth c H locs 0 0 QQ (F0 m pc ls st) :=
  va_callv (va_runS (As := As) (rest := rest) S hM cw (gPreS hmv hI) rfl hn hl hst (lv_room hW) hdg ⟨Nat.zero_le _, Nat.zero_le _⟩) hS (fun _ _ h => h) (fun _ h => h) (fun u t H1 locs1 ht hvm hq hB _ _ hS1 => kk u H1 locs1 hq (by have hB : I u t.heap t := hB; rw [ht] at hB; exact hmv _ _ _ _ hvm.symm hB) hS1)
end CALLS
