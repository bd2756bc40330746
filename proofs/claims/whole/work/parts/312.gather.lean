/-! GATHER: the limits of the facts that are known -/
def factL (k a b d : Int32) : List gL :=
  if k = 0 then [(1 + a.toNatClampNeg, 21 + 2 * b.toNatClampNeg, 0), (22 + 2 * b.toNatClampNeg, 1 + a.toNatClampNeg, 0)]
  else if k = 1 then [(1 + b.toNatClampNeg, 1 + a.toNatClampNeg, -d.toInt)]
  else if k = 2 then [(1 + a.toNatClampNeg, 0, -b.toInt), (0, 1 + a.toNatClampNeg, d.toInt)]
  else if k = 3 then [(21 + 2 * a.toNatClampNeg, 0, -b.toInt), (0, 21 + 2 * a.toNatClampNeg, d.toInt)]
  else if k = 4 then [(22 + 2 * a.toNatClampNeg, 0, -b.toInt), (0, 22 + 2 * a.toNatClampNeg, d.toInt)]
  else [(1 + a.toNatClampNeg, 1 + b.toNatClampNeg, 0), (1 + b.toNatClampNeg, 1 + a.toNatClampNeg, 0)]
/-- places that there are -/
def inE (P Mo v : Nat) : Prop := v = 0 ∨ (1 ≤ v ∧ v ≤ P) ∨ (21 ≤ v ∧ v < 21 + 2 * Mo)
theorem inE_lt {P Mo v : Nat} (hP : P ≤ 20) (hM : Mo ≤ 16) (h : inE P Mo v) : v < 53 := by unfold inE at h; omega
/-- a limit of a fact: its places are there, one of them is no motif's, its number is in bounds -/
def okF (P Mo : Nat) (a : gL) : Prop := inE P Mo a.1 ∧ inE P Mo a.2.1 ∧ -100000 ≤ a.2.2 ∧ a.2.2 ≤ 100000 ∧ (a.1 < 21 ∨ a.2.1 < 21)
theorem neg_int {d : Int32} (h1 : -100000 ≤ d.toInt) (h2 : d.toInt ≤ 100000) : (-d).toInt = -d.toInt := fb_negI (by omega)
theorem rFact_list {P Mo : Nat} (hP : P ≤ 20) (hM : Mo ≤ 16) {k t c n t0 h0 l0 t1 h1 l1 mk a b d mt mc : Int32} (h : rFact P Mo k t c n t0 h0 l0 t1 h1 l1 mk a b d mt mc) :
    n = nI (factL mk a b d).length ∧ (factL mk a b d).length ≤ 2 ∧ (∀ x ∈ factL mk a b d, okF P Mo x) ∧ (∀ x, (factL mk a b d)[0]? = some x → t0 = nI x.1 ∧ h0 = nI x.2.1 ∧ l0.toInt = x.2.2) ∧ ∀ x, (factL mk a b d)[1]? = some x → t1 = nI x.1 ∧ h1 = nI x.2.1 ∧ l1.toInt = x.2.2 := by
  obtain ⟨e1, e2, e3, e4, e5, h⟩ := h
  have z0 : (0 : Int32).toInt = 0 := by decide
  rcases h with ⟨a1, a2, p, q, b1, b2, rfl, rfl, b5, b6, b7, b8, b9, b10⟩ | ⟨a1, a2, p, q, b1, b2, b0, rfl, rfl, b3, b4, b5, b6, b7⟩ | ⟨hk, a2, b1, b2, b3, b4, b5, b6, b7, b8⟩ | ⟨a1, a2, p, q, b1, b2, b0, rfl, rfl, b5, b6, b7, b8, b9, b10⟩
  · rw [← e1, a1]
    unfold factL
    rw [if_pos rfl, nI_clamp (by omega), nI_clamp (by omega)]
    refine ⟨a2, by simp, fun x hx => ?_, fun x hx => ?_, fun x hx => ?_⟩
    · simp only [List.mem_cons, List.not_mem_nil, or_false] at hx
      rcases hx with rfl | rfl <;> (unfold okF inE; dsimp only; omega)
    · cases hx; exact ⟨b5, b6, by rw [b7, z0]⟩
    · cases hx; exact ⟨b8, b9, by rw [b10, z0]⟩
  · rw [← e1, a1]
    unfold factL
    rw [if_neg (by decide), if_pos rfl, nI_clamp (by omega), nI_clamp (by omega)]
    refine ⟨a2, by simp, fun x hx => ?_, fun x hx => ?_, fun x hx => by cases hx⟩
    · simp only [List.mem_cons, List.not_mem_nil, or_false] at hx
      subst hx
      unfold okF inE; dsimp only; omega
    · cases hx; exact ⟨b5, b6, by rw [b7]; exact neg_int b3 b4⟩
  · have kase : ∀ pt : Nat, t0 = nI pt → inE P Mo pt → factL mk a b d = [(pt, 0, -b.toInt), (0, pt, d.toInt)] → n = nI (factL mk a b d).length ∧ (factL mk a b d).length ≤ 2 ∧ (∀ x ∈ factL mk a b d, okF P Mo x) ∧ (∀ x, (factL mk a b d)[0]? = some x → t0 = nI x.1 ∧ h0 = nI x.2.1 ∧ l0.toInt = x.2.2) ∧ ∀ x, (factL mk a b d)[1]? = some x → t1 = nI x.1 ∧ h1 = nI x.2.1 ∧ l1.toInt = x.2.2 := by
      intro pt ht hpt hl
      rw [hl]
      refine ⟨a2, by simp, fun x hx => ?_, fun x hx => ?_, fun x hx => ?_⟩
      · simp only [List.mem_cons, List.not_mem_nil, or_false] at hx
        rcases hx with rfl | rfl <;> (unfold okF; dsimp only; refine ⟨?_, ?_, by omega, by omega, by omega⟩ <;> first | exact hpt | exact Or.inl rfl)
      · cases hx; exact ⟨ht, b4, by rw [b5]; exact neg_int (by omega) (by omega)⟩
      · cases hx; exact ⟨b6, by rw [b7]; exact ht, by rw [b8]⟩
    rcases hk with ⟨a1, p, b9, rfl, b10⟩ | ⟨a1, p, b9, rfl, b10⟩ | ⟨a1, p, b9, rfl, b10⟩
    · refine kase _ b10 (Or.inr (Or.inl ⟨by omega, by omega⟩)) ?_
      rw [← e1, a1]; unfold factL
      rw [if_neg (by decide), if_neg (by decide), if_pos rfl, nI_clamp (by omega)]
    · refine kase _ b10 (Or.inr (Or.inr ⟨by omega, by omega⟩)) ?_
      rw [← e1, a1]; unfold factL
      rw [if_neg (by decide), if_neg (by decide), if_neg (by decide), if_pos rfl, nI_clamp (by omega)]
    · refine kase _ b10 (Or.inr (Or.inr ⟨by omega, by omega⟩)) ?_
      rw [← e1, a1]; unfold factL
      rw [if_neg (by decide), if_neg (by decide), if_neg (by decide), if_neg (by decide), if_pos rfl, nI_clamp (by omega)]
  · rw [← e1, a1]
    unfold factL
    rw [if_neg (by decide), if_neg (by decide), if_neg (by decide), if_neg (by decide), if_neg (by decide), nI_clamp (by omega), nI_clamp (by omega)]
    refine ⟨a2, by simp, fun x hx => ?_, fun x hx => ?_, fun x hx => ?_⟩
    · simp only [List.mem_cons, List.not_mem_nil, or_false] at hx
      rcases hx with rfl | rfl <;> (unfold okF inE; dsimp only; omega)
    · cases hx; exact ⟨b5, b6, by rw [b7, z0]⟩
    · cases hx; exact ⟨b8, b9, by rw [b10, z0]⟩
abbrev knows (t c day : Int32) : Prop := ¬ day < t ∧ (c < 0 ∨ ¬ c ≤ day)
/-- the limits of the first F facts, as known on a day, without one of them -/
def LF (σ : wS) (day w : Int32) : Nat → List gL
  | 0 => []
  | F + 1 => LF σ day w F ++ (if knows (σ.2.2.1 4 F) (σ.2.2.1 5 F) day ∧ ¬ nI F = w then factL (σ.2.2.1 0 F) (σ.2.2.1 1 F) (σ.2.2.1 2 F) (σ.2.2.1 3 F) else [])
theorem x_isKnown {Q : Int32 → Prop} {σ : wS} {f F : Nat} {day : Int32} (hf : f < F) (hF : F ≤ 100) (h4 : σ.1 4 = nI F) (hc : -1 ≤ (σ.2.2.1 12 f).toInt) : wx_X2_isKnown Q (nI f) day σ ↔ Q (b2 (knows (σ.2.2.1 11 f) (σ.2.2.1 12 f) day)) := by
  have hin : vp_in (nI f) 100 := nI_in (by omega) (by decide)
  have hcl : (nI f).toNatClampNeg = f := nI_clamp (by omega)
  have e1 : aI σ 11 (nI f) = σ.2.2.1 11 f := by show σ.2.2.1 11 (nI f).toNatClampNeg = _; rw [hcl]
  have e2 : aI σ 12 (nI f) = σ.2.2.1 12 f := by show σ.2.2.1 12 (nI f).toNatClampNeg = _; rw [hcl]
  unfold wx_X2_isKnown
  rw [x_has, h4, b2_t (isN_to (by omega) hf), e1, e2]
  have n1 : ¬ (1 : Int32) = 0 := by decide
  have k1 : (σ.2.2.1 11 f ≤ day) ↔ ¬ day < σ.2.2.1 11 f := by rw [fa_le, fa_lt]; omega
  have k2 := neg1_of hc
  simp only [n1, false_implies, not_false_eq_true, true_implies, true_and, hin]
  by_cases c1 : σ.2.2.1 11 f ≤ day
  · by_cases c2 : σ.2.2.1 12 f = -1
    · rw [b2_t ⟨k1.mp c1, Or.inl (k2.mp c2)⟩]
      simp [c1, c2]
    · by_cases c3 : σ.2.2.1 12 f ≤ day
      · rw [b2_f (fun z => z.2.elim (fun y => c2 (k2.mpr y)) (fun y => y c3))]
        simp [c1, c2, c3]
      · rw [b2_t ⟨k1.mp c1, Or.inr c3⟩]
        simp [c1, c2, c3]
  · rw [b2_f (fun z => c1 (k1.mpr z.1))]
    simp [c1]
theorem x_copy {Q : Int32 → wS → Prop} {σ : wS} {f F N : Nat} {fl : List gL} (hf : f < F) (hF : F ≤ 100) (h4 : σ.1 4 = nI F) (h13 : σ.2.2.1 13 f = nI fl.length) (hl : fl.length ≤ 2) (hN : N + 2 ≤ 200)
    (ha : ∀ (k : Nat) (a : gL), fl[k]? = some a → σ.2.2.1 14 (2 * f + k) = nI a.1 ∧ σ.2.2.1 15 (2 * f + k) = nI a.2.1 ∧ (σ.2.2.1 16 (2 * f + k)).toInt = a.2.2)
    (hq : ∀ τ : wS, keepX σ τ → (∀ j, j < N → τ.2.2.1 22 j = σ.2.2.1 22 j ∧ τ.2.2.1 23 j = σ.2.2.1 23 j ∧ τ.2.2.1 24 j = σ.2.2.1 24 j) → (∀ (k : Nat) (a : gL), fl[k]? = some a → τ.2.2.1 22 (N + k) = nI a.1 ∧ τ.2.2.1 23 (N + k) = nI a.2.1 ∧ (τ.2.2.1 24 (N + k)).toInt = a.2.2) → Q (nI (N + fl.length)) τ) : wx_X2_copyLimits Q (nI f) (nI N) σ := by
  have hcl : (nI f).toNatClampNeg = f := nI_clamp (by omega)
  refine wloop_of (fun w : Int32 × Int32 × wS => ∃ k : Nat, k ≤ fl.length ∧ w.1 = nI (N + k) ∧ w.2.1 = nI k ∧ keepX σ w.2.2 ∧ (∀ j, j < N → w.2.2.2.2.1 22 j = σ.2.2.1 22 j ∧ w.2.2.2.2.1 23 j = σ.2.2.1 23 j ∧ w.2.2.2.2.1 24 j = σ.2.2.1 24 j) ∧ ∀ (i : Nat) (a : gL), i < k → fl[i]? = some a → w.2.2.2.2.1 22 (N + i) = nI a.1 ∧ w.2.2.2.2.1 23 (N + i) = nI a.2.1 ∧ (w.2.2.2.2.1 24 (N + i)).toInt = a.2.2) (fun w => fl.length - w.2.1.toNatClampNeg) ?_ _ ⟨0, Nat.zero_le _, rfl, rfl, keepX.rf σ, fun _ _ => ⟨rfl, rfl, rfl⟩, fun i a hi => absurd hi (Nat.not_lt_zero i)⟩
  rintro K ⟨x4, x5, τ⟩ ⟨k, hk, e4, e5, kp, k1, k2⟩ kk
  dsimp only at e4 e5 kp k1 k2 kk
  subst e4; subst e5
  have q4 : τ.1 4 = nI F := (kp.1 4 (by omega) (by omega)).trans h4
  have q13 : aI τ 13 (nI f) = nI fl.length := by show τ.2.2.1 13 (nI f).toNatClampNeg = _; rw [hcl, kp.2 13 (by omega) (by omega)]; exact h13
  dsimp only [wx_X2_copyLimits_L6]
  unfold wx_X2_limitsOf
  rw [x_has, q4]
  refine q_t (isN_to (by omega) hf) ⟨nI_in (by omega) (by decide), ?_⟩
  rw [q13]
  refine ⟨fun c => ?_, fun c a3 e3 => ?_⟩
  · have hke : k = fl.length := by have : fl.length ≤ k := (nI_leI (by omega) (by omega)).mp c; omega
    subst hke
    exact hq τ kp k1 (fun i a hi => k2 i a (List.getElem?_eq_some_iff.mp hi).1 hi)
  · have hlt : k < fl.length := Nat.lt_of_not_le (fun z => c ((nI_leI (by omega) (by omega)).mpr z))
    have e3 : a3 = nI (2 * f + k) := by rw [e3]; show nI 2 * nI f + nI k = _; rw [pk_mul, nI_add]
    subst e3
    obtain ⟨a, hka⟩ : ∃ a, fl[k]? = some a := ⟨_, List.getElem?_eq_getElem hlt⟩
    obtain ⟨b1, b2, b3⟩ := ha k a hka
    have hin : vp_in (nI (2 * f + k)) 200 := nI_in (by omega) (by decide)
    have hc2 : (nI (2 * f + k)).toNatClampNeg = 2 * f + k := nI_clamp (by omega)
    have r14 : aI τ 14 (nI (2 * f + k)) = nI a.1 := by show τ.2.2.1 14 (nI (2 * f + k)).toNatClampNeg = _; rw [hc2, kp.2 14 (by omega) (by omega)]; exact b1
    have r15 : aI τ 15 (nI (2 * f + k)) = nI a.2.1 := by show τ.2.2.1 15 (nI (2 * f + k)).toNatClampNeg = _; rw [hc2, kp.2 15 (by omega) (by omega)]; exact b2
    have r16 : aI τ 16 (nI (2 * f + k)) = σ.2.2.1 16 (2 * f + k) := by show τ.2.2.1 16 (nI (2 * f + k)).toNatClampNeg = _; rw [hc2, kp.2 16 (by omega) (by omega)]
    refine ⟨hin, hin, hin, ?_⟩
    rw [r14, r15, r16]
    have hin2 : vp_in (nI (N + k)) 200 := nI_in (by omega) (by decide)
    have hc3 : (nI (N + k)).toNatClampNeg = N + k := nI_clamp (by omega)
    unfold wx_X4_setLimit
    refine i_f (nI_pos (by omega)) (i_t ((nI_ltI (b := 200) (by omega) (by omega)).mpr (by omega)) ⟨hin2, fun σ1 e1 => ⟨hin2, fun σ2 e2 => ⟨hin2, fun σ3 e3 a5 e5 a6 e6 => ?_⟩⟩⟩)
    subst e5; subst e6
    have kp3 : keepX σ σ3 := by
      subst e3; subst e2; subst e1
      exact kp.trans ((keepX.arr _ 22 _ (by omega)).trans ((keepX.arr _ 23 _ (by omega)).trans (keepX.arr _ 24 _ (by omega))))
    have s22 : σ3.2.2.1 22 = upd (τ.2.2.1 22) (N + k) (nI a.1) := by subst e3; subst e2; subst e1; show upd (τ.2.2.1 22) (nI (N + k)).toNatClampNeg _ = _; rw [hc3]
    have s23 : σ3.2.2.1 23 = upd (τ.2.2.1 23) (N + k) (nI a.2.1) := by subst e3; subst e2; subst e1; show upd (τ.2.2.1 23) (nI (N + k)).toNatClampNeg _ = _; rw [hc3]
    have s24 : σ3.2.2.1 24 = upd (τ.2.2.1 24) (N + k) (σ.2.2.1 16 (2 * f + k)) := by subst e3; subst e2; subst e1; show upd (τ.2.2.1 24) (nI (N + k)).toNatClampNeg _ = _; rw [hc3]
    refine kk _ ⟨k + 1, by omega, nI_1 _, nI_1 k, kp3, fun j hj => ?_, fun i b hi hb => ?_⟩ ?_
    · dsimp only
      rw [s22, s23, s24, pk_un (by omega), pk_un (by omega), pk_un (by omega)]
      exact k1 j hj
    · dsimp only
      rw [s22, s23, s24]
      by_cases e : i = k
      · subst e
        have hba : b = a := Option.some.inj (hb.symm.trans hka)
        subst hba
        rw [pk_us, pk_us, pk_us]
        exact ⟨rfl, rfl, b3⟩
      · rw [pk_un (by omega), pk_un (by omega), pk_un (by omega)]
        exact k2 i b (by omega) hb
    · dsimp only
      rw [nI_1, nI_clamp (by omega), nI_clamp (by omega)]; omega
theorem LF_len {σ : wS} {day w : Int32} {F : Nat} (h : ∀ f, f < F → (factL (σ.2.2.1 0 f) (σ.2.2.1 1 f) (σ.2.2.1 2 f) (σ.2.2.1 3 f)).length ≤ 2) : (LF σ day w F).length ≤ 2 * F := by
  induction F with
  | zero => exact Nat.le_refl _
  | succ F ih =>
    have h1 := ih (fun f hf => h f (by omega))
    have h2 := h F (by omega)
    unfold LF
    rw [List.length_append]
    split
    · omega
    · simp; omega
theorem x_gather {Q : wS → Prop} {σx σm : wS} {P Mo F : Nat} {day w : Int32} (hP : P ≤ 20) (hM : Mo ≤ 16) (hF : F ≤ 100) (f2 : σx.1 4 = nI F)
    (f5 : ∀ f, f < F → rFact P Mo (σx.2.2.1 10 f) (σx.2.2.1 11 f) (σx.2.2.1 12 f) (σx.2.2.1 13 f) (σx.2.2.1 14 (2 * f)) (σx.2.2.1 15 (2 * f)) (σx.2.2.1 16 (2 * f)) (σx.2.2.1 14 (2 * f + 1)) (σx.2.2.1 15 (2 * f + 1)) (σx.2.2.1 16 (2 * f + 1)) (σm.2.2.1 0 f) (σm.2.2.1 1 f) (σm.2.2.1 2 f) (σm.2.2.1 3 f) (σm.2.2.1 4 f) (σm.2.2.1 5 f))
    (hq : ∀ τ : wS, keepX σx τ → gHas τ (LF σm day w F) → Q τ) : wx_X4_gather Q day w σx := by
  have hlen : ∀ g, g ≤ F → (LF σm day w g).length ≤ 2 * g := fun g hg => LF_len (fun f hf => (rFact_list hP hM (f5 f (by omega))).2.1)
  intro σ1 e1
  subst e1
  refine wloop_of (fun v : Int32 × wS => ∃ k : Nat, k ≤ F ∧ v.1 = nI k ∧ keepX σx v.2 ∧ gHas v.2 (LF σm day w k)) (fun v => F - v.1.toNatClampNeg) ?_ _ ⟨0, Nat.zero_le _, rfl, keepX.st7 σx 0, rfl, by simp [LF], fun k a h => by simp [LF] at h⟩
  rintro K ⟨x4, τ⟩ ⟨k, hk, e4, kp, gh⟩ kk
  dsimp only at e4 kp gh kk
  subst e4
  have q4 : τ.1 4 = nI F := (kp.1 4 (by omega) (by omega)).trans f2
  show (_ ∧ _)
  rw [q4]
  refine ⟨fun c => ?_, fun c => ?_⟩
  · have hke : k = F := by have : F ≤ k := (nI_leI (by omega) (by omega)).mp c; omega
    subst hke
    exact hq τ kp gh
  have hlt : k < F := Nat.lt_of_not_le (fun z => c ((nI_leI (by omega) (by omega)).mpr z))
  have hf := f5 k hlt
  obtain ⟨l1, l2, l3, l4, l5⟩ := rFact_list hP hM hf
  have skip : ¬ (knows (σm.2.2.1 4 k) (σm.2.2.1 5 k) day ∧ ¬ nI k = w) → K (nI k + 1, τ) := by
    intro hn
    refine kk _ ⟨k + 1, by omega, nI_1 k, kp, ?_⟩ ?_
    · dsimp only
      rw [show LF σm day w (k + 1) = LF σm day w k by
        conv => lhs; unfold LF
        rw [if_neg hn, List.append_nil]]
      exact gh
    · dsimp only
      rw [nI_1, nI_clamp (by omega), nI_clamp (by omega)]; omega
  refine ⟨fun c1 a3 e3 => ?_, fun c1 => ?_⟩
  · subst e3; exact skip (fun z => z.2 c1)
  have t11 : τ.2.2.1 11 k = σm.2.2.1 4 k := (congrFun (kp.2 11 (by omega) (by omega)) k).trans hf.2.1
  have t12 : τ.2.2.1 12 k = σm.2.2.1 5 k := (congrFun (kp.2 12 (by omega) (by omega)) k).trans hf.2.2.1
  rw [x_isKnown hlt hF q4 (by rw [t12, ← hf.2.2.1]; exact hf.2.2.2.2.1.1), t11, t12]
  by_cases c2 : knows (σm.2.2.1 4 k) (σm.2.2.1 5 k) day
  · refine q_t c2 ?_
    obtain ⟨g7, gl, ga⟩ := gh
    rw [g7]
    have hL := hlen k hk
    refine x_copy (F := F) hlt hF q4 (fl := factL (σm.2.2.1 0 k) (σm.2.2.1 1 k) (σm.2.2.1 2 k) (σm.2.2.1 3 k)) ?_ l2 (by omega) (fun i a hi => ?_) (fun υ kq h1 h2 σ9 e9 a10 e10 => ?_)
    · rw [kp.2 13 (by omega) (by omega)]; exact l1
    · rw [kp.2 14 (by omega) (by omega), kp.2 15 (by omega) (by omega), kp.2 16 (by omega) (by omega)]
      have hi2 : i < 2 := by have := (List.getElem?_eq_some_iff.mp hi).1; omega
      rcases (show i = 0 ∨ i = 1 by omega) with rfl | rfl
      · exact l4 a hi
      · exact l5 a hi
    · subst e10; subst e9
      have hcon : LF σm day w (k + 1) = LF σm day w k ++ factL (σm.2.2.1 0 k) (σm.2.2.1 1 k) (σm.2.2.1 2 k) (σm.2.2.1 3 k) := by
        conv => lhs; unfold LF
        rw [if_pos ⟨c2, c1⟩]
      refine kk _ ⟨k + 1, by omega, nI_1 k, (kp.trans kq).trans (keepX.st7 υ _), ?_⟩ ?_
      · dsimp only
        rw [hcon]
        refine ⟨?_, ?_, fun i a hi => ?_⟩
        · rw [List.length_append]; rfl
        · rw [List.length_append]; omega
        · show υ.2.2.1 22 i = _ ∧ υ.2.2.1 23 i = _ ∧ (υ.2.2.1 24 i).toInt = _
          by_cases hi2 : i < (LF σm day w k).length
          · rw [List.getElem?_append_left hi2] at hi
            obtain ⟨h3, h4, h5⟩ := h1 i hi2
            rw [h3, h4, h5]
            exact ga i a hi
          · rw [List.getElem?_append_right (by omega)] at hi
            have := h2 _ a hi
            rw [show (LF σm day w k).length + (i - (LF σm day w k).length) = i by omega] at this
            exact this
      · dsimp only
        rw [nI_1, nI_clamp (by omega), nI_clamp (by omega)]; omega
  · refine q_f c2 (fun a6 e6 => ?_)
    subst e6; exact skip (fun z => c2 z.1)
theorem LF_ok {σm : wS} {P Mo F : Nat} {day w : Int32} (h : ∀ f, f < F → ∀ x ∈ factL (σm.2.2.1 0 f) (σm.2.2.1 1 f) (σm.2.2.1 2 f) (σm.2.2.1 3 f), okF P Mo x) : ∀ x ∈ LF σm day w F, okF P Mo x := by
  induction F with
  | zero => intro x hx; cases hx
  | succ F ih =>
    intro x hx
    unfold LF at hx
    rcases List.mem_append.mp hx with h1 | h1
    · exact ih (fun f hf => h f (by omega)) x h1
    · split at h1
      · exact h F (by omega) x h1
      · cases h1
theorem okF.A {P Mo : Nat} (hP : P ≤ 20) (hM : Mo ≤ 16) {L : List gL} (h : ∀ x ∈ L, okF P Mo x) : okA L := fun a ha => ⟨inE_lt hP hM (h a ha).1, inE_lt hP hM (h a ha).2.1, (h a ha).2.2.1, (h a ha).2.2.2.1⟩
