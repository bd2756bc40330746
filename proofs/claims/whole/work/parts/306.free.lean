/-- the last of the greatest among those that count, as both seek it -/
def lastF (c : Nat → Prop) [DecidablePred c] (a : Nat → Int32) : Nat → Option Nat
  | 0 => none
  | k + 1 => match lastF c a k with
    | none => if c k then some k else none
    | some j => if c k ∧ ¬ a k < a j then some k else some j
def encO : Option Nat → Int32
  | none => -1
  | some j => nI j
theorem lastF_lt (c : Nat → Prop) [DecidablePred c] (a : Nat → Int32) : ∀ (k j : Nat), lastF c a k = some j → j < k := by
  intro k
  induction k with
  | zero => intro j h; cases h
  | succ k ih =>
    intro j h
    unfold lastF at h
    split at h
    · split at h
      · cases h; omega
      · cases h
    · next i hi =>
      have := ih i hi
      split at h
      · cases h; omega
      · cases h; omega
theorem lastF_congr {c d : Nat → Prop} [DecidablePred c] [DecidablePred d] {a b : Nat → Int32} : ∀ (k : Nat), (∀ i, i < k → (c i ↔ d i) ∧ a i = b i) → lastF c a k = lastF d b k := by
  intro k
  induction k with
  | zero => intro _; rfl
  | succ k ih =>
    intro h
    have h1 := ih (fun i hi => h i (by omega))
    obtain ⟨h2, h3⟩ := h k (by omega)
    unfold lastF
    rw [h1]
    cases hl : lastF d b k with
    | none => simp only [h2]
    | some j =>
      have hj := lastF_lt d b k j hl
      simp only [h2, h3, (h j (by omega)).2]
theorem encO_neg {o : Option Nat} {n : Nat} (hn : n < 2 ^ 31) (h : ∀ j, o = some j → j < n) : (encO o < 0 ↔ o = none) ∧ (encO o = -1 ↔ o = none) := by
  cases o with
  | none => exact ⟨⟨fun _ => rfl, fun _ => by decide⟩, ⟨fun _ => rfl, fun _ => rfl⟩⟩
  | some j =>
    have hj := h j rfl
    refine ⟨⟨fun z => absurd z (nI_pos (by omega)), fun z => by cases z⟩, ⟨fun z => ?_, fun z => by cases z⟩⟩
    have h1 : nI j = -1 := z
    exact absurd (h1 ▸ nI_pos (n := j) (by omega)) (by decide)
theorem x_lawInForce {Q : Int32 → Prop} {day : Int32} {σ : wS} {N : Nat} (hN : N ≤ 10) (h5 : σ.1 5 = nI N) (hq : Q (encO (lastF (fun k => ¬ day < σ.2.2.1 17 k) (σ.2.2.1 17) N))) : wx_X3_lawInForce Q day σ := by
  intro a1 e1
  subst e1
  refine wloop_of (fun v : Int32 × Int32 => ∃ k : Nat, k ≤ N ∧ v.2 = nI k ∧ v.1 = encO (lastF (fun k => ¬ day < σ.2.2.1 17 k) (σ.2.2.1 17) k)) (fun v => N - v.2.toNatClampNeg) ?_ _ ⟨0, Nat.zero_le _, rfl, rfl⟩
  rintro K ⟨x2, x3⟩ ⟨k, hk, e3, e2⟩ kk
  dsimp only at e3 e2 kk
  subst e3; subst e2
  have hcl : (nI k).toNatClampNeg = k := nI_clamp (by omega)
  show (_ ∧ _)
  rw [h5]
  refine ⟨fun c => ?_, fun c => ?_⟩
  · have : N ≤ k := (nI_leI (by omega) (by omega)).mp c
    rw [show k = N by omega]; exact hq
  have hlt : k < N := Nat.lt_of_not_le (fun z => c ((nI_leI (by omega) (by omega)).mpr z))
  have hin : vp_in (nI k) 10 := nI_in (by omega) (by decide)
  have nx : ∀ o : Option Nat, lastF (fun k => ¬ day < σ.2.2.1 17 k) (σ.2.2.1 17) (k + 1) = o → K (encO o, nI k + 1) := by
    intro o ho
    refine kk _ ⟨k + 1, by omega, nI_1 k, by rw [ho]⟩ ?_
    dsimp only
    rw [nI_1, nI_clamp (by omega), hcl]; omega
  refine ⟨hin, ?_⟩
  have eA : aI σ 17 (nI k) = σ.2.2.1 17 k := by show σ.2.2.1 17 (nI k).toNatClampNeg = _; rw [hcl]
  rw [eA]
  obtain ⟨n1, n2⟩ := encO_neg (o := lastF (fun k => ¬ day < σ.2.2.1 17 k) (σ.2.2.1 17) k) (n := k) (by omega) (fun j hj => lastF_lt _ _ k j hj)
  refine ⟨fun c1 a ea => ?_, fun c1 => ⟨fun c2 a ea => ?_, fun c2 => ?_⟩⟩
  · subst ea
    refine nx _ ?_
    conv => lhs; unfold lastF
    cases hl : lastF (fun k => ¬ day < σ.2.2.1 17 k) (σ.2.2.1 17) k with
    | none => simp only [c1, not_true_eq_false, if_false]
    | some j => simp only [c1, not_true_eq_false, false_and, if_false]
  · subst ea
    have hl := n2.mp c2
    refine nx (some k) ?_
    unfold lastF
    rw [hl]
    simp only [c1, not_false_eq_true, if_true]
  · cases hl : lastF (fun k => ¬ day < σ.2.2.1 17 k) (σ.2.2.1 17) k with
    | none => rw [hl] at c2; exact absurd rfl c2
    | some j =>
      have hj := lastF_lt _ _ k j hl
      have hcj : (nI j).toNatClampNeg = j := nI_clamp (by omega)
      refine ⟨hin, nI_in (by omega) (by decide), ?_⟩
      have eB : aI σ 17 (encO (some j)) = σ.2.2.1 17 j := by show σ.2.2.1 17 (nI j).toNatClampNeg = _; rw [hcj]
      rw [eB]
      refine ⟨fun c3 a ea => ?_, fun c3 a ea => ?_⟩
      · subst ea
        refine nx (some j) ?_
        unfold lastF
        rw [hl]
        simp only [c1, c3, not_true_eq_false, and_false, if_false]
      · subst ea
        refine nx (some k) ?_
        unfold lastF
        rw [hl]
        simp only [c1, c3, not_false_eq_true, and_self, if_true]
theorem x_deathKnown {Q : Int32 → Prop} {pl kn : Int32} {σ : wS} {N : Nat} (hN : N ≤ 60) (h6 : σ.1 6 = nI N) (hq : Q (encO (lastF (fun k => σ.2.2.1 19 k = pl ∧ ¬ kn < σ.2.2.1 21 k) (σ.2.2.1 21) N))) : wx_X3_deathKnown Q pl kn σ := by
  intro a1 e1
  subst e1
  obtain ⟨cF, hcF⟩ : ∃ f : Nat → Option Nat, f = lastF (fun k => σ.2.2.1 19 k = pl ∧ ¬ kn < σ.2.2.1 21 k) (σ.2.2.1 21) := ⟨_, rfl⟩
  refine wloop_of (fun v : Int32 × Int32 => ∃ k : Nat, k ≤ N ∧ v.2 = nI k ∧ v.1 = encO (cF k)) (fun v => N - v.2.toNatClampNeg) ?_ _ ⟨0, Nat.zero_le _, rfl, by rw [hcF]; rfl⟩
  rintro K ⟨x2, x3⟩ ⟨k, hk, e3, e2⟩ kk
  dsimp only at e3 e2 kk
  subst e3; subst e2
  have hcl : (nI k).toNatClampNeg = k := nI_clamp (by omega)
  show (_ ∧ _)
  rw [h6]
  refine ⟨fun c => ?_, fun c => ?_⟩
  · have : N ≤ k := (nI_leI (by omega) (by omega)).mp c
    rw [show k = N by omega, hcF]; exact hq
  have hlt : k < N := Nat.lt_of_not_le (fun z => c ((nI_leI (by omega) (by omega)).mpr z))
  have hin : vp_in (nI k) 60 := nI_in (by omega) (by decide)
  have nx : ∀ o : Option Nat, cF (k + 1) = o → K (encO o, nI k + 1) := by
    intro o ho
    refine kk _ ⟨k + 1, by omega, nI_1 k, by rw [ho]⟩ ?_
    dsimp only
    rw [nI_1, nI_clamp (by omega), hcl]; omega
  have eA : aI σ 19 (nI k) = σ.2.2.1 19 k := by show σ.2.2.1 19 (nI k).toNatClampNeg = _; rw [hcl]
  have eT : aI σ 21 (nI k) = σ.2.2.1 21 k := by show σ.2.2.1 21 (nI k).toNatClampNeg = _; rw [hcl]
  obtain ⟨n1, n2⟩ := encO_neg (o := cF k) (n := k) (by omega) (fun j hj => lastF_lt _ _ k j (by rw [hcF] at hj; exact hj))
  have no : ¬ (σ.2.2.1 19 k = pl ∧ ¬ kn < σ.2.2.1 21 k) → cF (k + 1) = cF k := by
    intro hc
    rw [hcF]
    conv => lhs; unfold lastF
    cases hl : lastF (fun k => σ.2.2.1 19 k = pl ∧ ¬ kn < σ.2.2.1 21 k) (σ.2.2.1 21) k with
    | none => simp only [hc, if_false]
    | some j => simp only [hc, false_and, if_false]
  have J40 : ¬ (σ.2.2.1 19 k = pl ∧ ¬ kn < σ.2.2.1 21 k) → wx_X3_deathKnown_J40 Q K pl kn (encO (cF k)) (nI k) σ := by
    intro hc
    refine ⟨fun _ a ea => ?_, fun z => absurd rfl z⟩
    subst ea
    exact nx _ (no hc)
  refine ⟨hin, ?_⟩
  rw [eA]
  refine ⟨fun c1 => J40 (fun z => c1 z.1), fun c1 => ⟨hin, ?_⟩⟩
  rw [eT]
  refine ⟨fun c2 => J40 (fun z => z.2 c2), fun c2 => ?_⟩
  refine ⟨fun z => absurd z (by decide), fun _ => ⟨fun c3 a ea => ?_, fun c3 => ?_⟩⟩
  · subst ea
    refine nx (some k) ?_
    have hl := n2.mp c3
    rw [hcF] at hl ⊢
    unfold lastF
    rw [hl]
    simp only [c1, c2, not_false_eq_true, and_self, if_true]
  · cases hl : cF k with
    | none => rw [hl] at c3; exact absurd rfl c3
    | some j =>
      have hj := lastF_lt _ _ k j (by rw [hcF] at hl; exact hl)
      have hcj : (nI j).toNatClampNeg = j := nI_clamp (by omega)
      refine ⟨hin, nI_in (by omega) (by decide), ?_⟩
      have eB : aI σ 21 (encO (some j)) = σ.2.2.1 21 j := by show σ.2.2.1 21 (nI j).toNatClampNeg = _; rw [hcj]
      rw [eB, eT]
      refine ⟨fun c4 a ea => ?_, fun c4 a ea => ?_⟩
      · subst ea
        refine nx (some j) ?_
        rw [hcF] at hl ⊢
        unfold lastF
        rw [hl]
        simp only [c4, not_true_eq_false, and_false, if_false]
      · subst ea
        refine nx (some k) ?_
        rw [hcF] at hl ⊢
        unfold lastF
        rw [hl]
        simp only [c1, c2, c4, not_false_eq_true, and_self, if_true]
/-- what both answer -/
def freeV (o d : Option Nat) (dd ld : Nat → Int32) (day : Int32) : Int32 := match o, d with
  | some i, some j => if day < dd j + ld i then 0 else 1
  | _, _ => 0
theorem x_isFreeOn {Q : Int32 → Prop} {pl day kn : Int32} {σ : wS} {N De : Nat} (hN : N ≤ 10) (hD : De ≤ 60) (h5 : σ.1 5 = nI N) (h6 : σ.1 6 = nI De)
    (hq : Q (freeV (lastF (fun k => ¬ day < σ.2.2.1 17 k) (σ.2.2.1 17) N) (lastF (fun k => σ.2.2.1 19 k = pl ∧ ¬ kn < σ.2.2.1 21 k) (σ.2.2.1 21) De) (σ.2.2.1 20) (σ.2.2.1 18) day)) : wx_X3_isFreeOn Q pl day kn σ := by
  refine x_lawInForce hN h5 (x_deathKnown hD h6 ?_)
  cases ho : lastF (fun k => ¬ day < σ.2.2.1 17 k) (σ.2.2.1 17) N with
  | none => rw [ho] at hq; exact i_t rfl (by cases hd : lastF (fun k => σ.2.2.1 19 k = pl ∧ ¬ kn < σ.2.2.1 21 k) (σ.2.2.1 21) De <;> (rw [hd] at hq; exact hq))
  | some i =>
    have hi := lastF_lt _ _ N i ho
    rw [ho] at hq
    refine i_f (fun z => ?_) ?_
    · have := (encO_neg (o := some i) (n := N) (by omega) (fun j hj => by cases hj; exact hi)).2.mp z
      cases this
    cases hd : lastF (fun k => σ.2.2.1 19 k = pl ∧ ¬ kn < σ.2.2.1 21 k) (σ.2.2.1 21) De with
    | none => rw [hd] at hq; exact i_t' rfl hq
    | some j =>
      have hj := lastF_lt _ _ De j hd
      rw [hd] at hq
      refine i_f' (fun z => ?_) ⟨nI_in (by omega) (by decide), nI_in (by omega) (by decide), ?_⟩
      · have := (encO_neg (o := some j) (n := De) (by omega) (fun q hq => by cases hq; exact hj)).2.mp z
        cases this
      · have e1 : aI σ 20 (encO (some j)) = σ.2.2.1 20 j := by show σ.2.2.1 20 (nI j).toNatClampNeg = _; rw [nI_clamp (by omega)]
        have e2 : aI σ 18 (encO (some i)) = σ.2.2.1 18 i := by show σ.2.2.1 18 (nI i).toNatClampNeg = _; rw [nI_clamp (by omega)]
        rw [e1, e2]
        have hq : Q (if day < σ.2.2.1 20 j + σ.2.2.1 18 i then 0 else 1) := hq
        refine ⟨fun c => by rw [if_pos c] at hq; exact hq, fun c => by rw [if_neg c] at hq; exact hq⟩
theorem m_free_D {Q : Int32 → wS → Prop} {pl day kn : Int32} {σ : wS} {N De : Nat} (hN : N ≤ 10) (hD : De ≤ 60) (h10 : σ.1 10 = nI De) {o : Option Nat} (ho : ∀ i, o = some i → i < N)
    (hq : Q (freeV o (lastF (fun k => σ.2.2.1 23 k = pl ∧ ¬ kn < σ.2.2.1 25 k) (σ.2.2.1 25) De) (σ.2.2.1 24) (σ.2.2.1 22) day) σ) : ∃ n, wloop (wm_X6_free_L112 Q pl day kn (encO o) σ) n (-1, 0) := by
  obtain ⟨cF, hcF⟩ : ∃ f : Nat → Option Nat, f = lastF (fun k => σ.2.2.1 23 k = pl ∧ ¬ kn < σ.2.2.1 25 k) (σ.2.2.1 25) := ⟨_, rfl⟩
  refine wloop_of (fun v : Int32 × Int32 => ∃ k : Nat, k ≤ De ∧ v.2 = nI k ∧ v.1 = encO (cF k)) (fun v => De - v.2.toNatClampNeg) ?_ _ ⟨0, Nat.zero_le _, rfl, by rw [hcF]; rfl⟩
  rintro K ⟨x2, x3⟩ ⟨k, hk, e3, e2⟩ kk
  dsimp only at e3 e2 kk
  subst e3; subst e2
  have hcl : (nI k).toNatClampNeg = k := nI_clamp (by omega)
  obtain ⟨n1, n2⟩ := encO_neg (o := cF k) (n := k) (by omega) (fun j hj => lastF_lt _ _ k j (by rw [hcF] at hj; exact hj))
  show (_ ∧ _)
  rw [h10]
  refine ⟨fun c => ?_, fun c => ?_⟩
  · have hke : k = De := by have : De ≤ k := (nI_leI (by omega) (by omega)).mp c; omega
    subst hke
    rw [← hcF] at hq
    obtain ⟨o1, o2⟩ := encO_neg (o := o) (n := N) (by omega) ho
    cases ho' : o with
    | none => subst ho'; exact i_t (by decide) (by cases hd : cF k <;> (rw [hd] at hq; exact hq))
    | some i =>
      subst ho'
      have hi := ho i rfl
      refine i_f (fun z => by have := o1.mp z; cases this) ?_
      cases hd : cF k with
      | none => rw [hd] at hq; exact i_t (by decide) hq
      | some j =>
        have hj := lastF_lt _ _ k j (by rw [hcF] at hd; exact hd)
        rw [hd] at hq n1
        refine i_f (fun z => by have := n1.mp z; cases this) ⟨nI_in (by omega) (by decide), nI_in (by omega) (by decide), ?_⟩
        have e1 : aI σ 24 (encO (some j)) = σ.2.2.1 24 j := by show σ.2.2.1 24 (nI j).toNatClampNeg = _; rw [nI_clamp (by omega)]
        have e2 : aI σ 22 (encO (some i)) = σ.2.2.1 22 i := by show σ.2.2.1 22 (nI i).toNatClampNeg = _; rw [nI_clamp (by omega)]
        rw [e1, e2]
        have hq : Q (if day < σ.2.2.1 24 j + σ.2.2.1 22 i then 0 else 1) σ := hq
        refine ⟨fun c => by rw [if_pos c] at hq; exact hq, fun c => by rw [if_neg c] at hq; exact hq⟩
  have hlt : k < De := Nat.lt_of_not_le (fun z => c ((nI_leI (by omega) (by omega)).mpr z))
  have hin : vp_in (nI k) 60 := nI_in (by omega) (by decide)
  have nx : ∀ o : Option Nat, cF (k + 1) = o → K (encO o, nI k + 1) := by
    intro o ho
    refine kk _ ⟨k + 1, by omega, nI_1 k, by rw [ho]⟩ ?_
    dsimp only
    rw [nI_1, nI_clamp (by omega), hcl]; omega
  have eA : aI σ 23 (nI k) = σ.2.2.1 23 k := by show σ.2.2.1 23 (nI k).toNatClampNeg = _; rw [hcl]
  have eT : aI σ 25 (nI k) = σ.2.2.1 25 k := by show σ.2.2.1 25 (nI k).toNatClampNeg = _; rw [hcl]
  have no : ¬ (σ.2.2.1 23 k = pl ∧ ¬ kn < σ.2.2.1 25 k) → cF (k + 1) = cF k := by
    intro hc
    rw [hcF]
    conv => lhs; unfold lastF
    cases hl : lastF (fun k => σ.2.2.1 23 k = pl ∧ ¬ kn < σ.2.2.1 25 k) (σ.2.2.1 25) k with
    | none => simp only [hc, if_false]
    | some j => simp only [hc, false_and, if_false]
  refine ⟨hin, ?_⟩
  rw [eA]
  refine ⟨fun c1 a ea => by subst ea; exact nx _ (no (fun z => c1 z.1)), fun c1 => ⟨hin, ?_⟩⟩
  rw [eT]
  refine ⟨fun c2 a ea => by subst ea; exact nx _ (no (fun z => z.2 c2)), fun c2 => ⟨fun c3 a ea => ?_, fun c3 => ?_⟩⟩
  · subst ea
    refine nx (some k) ?_
    have hl := n1.mp c3
    rw [hcF] at hl ⊢
    unfold lastF
    rw [hl]
    simp only [c1, c2, not_false_eq_true, and_self, if_true]
  · cases hl : cF k with
    | none => rw [hl] at c3; exact absurd (by decide) c3
    | some j =>
      have hj := lastF_lt _ _ k j (by rw [hcF] at hl; exact hl)
      have hcj : (nI j).toNatClampNeg = j := nI_clamp (by omega)
      refine ⟨hin, nI_in (by omega) (by decide), ?_⟩
      have eB : aI σ 25 (encO (some j)) = σ.2.2.1 25 j := by show σ.2.2.1 25 (nI j).toNatClampNeg = _; rw [hcj]
      rw [eB]
      refine ⟨fun c4 a ea => ?_, fun c4 a ea => ?_⟩
      · subst ea
        refine nx (some j) ?_
        rw [hcF] at hl ⊢
        unfold lastF
        rw [hl]
        simp only [c4, not_true_eq_false, and_false, if_false]
      · subst ea
        refine nx (some k) ?_
        rw [hcF] at hl ⊢
        unfold lastF
        rw [hl]
        simp only [c1, c2, c4, not_false_eq_true, and_self, if_true]
theorem m_free_L {Q : Int32 → wS → Prop} {pl day kn : Int32} {σ : wS} {N De : Nat} (hN : N ≤ 10) (hD : De ≤ 60) (h9 : σ.1 9 = nI N) (h10 : σ.1 10 = nI De)
    (hq : Q (freeV (lastF (fun k => ¬ day < σ.2.2.1 21 k) (σ.2.2.1 21) N) (lastF (fun k => σ.2.2.1 23 k = pl ∧ ¬ kn < σ.2.2.1 25 k) (σ.2.2.1 25) De) (σ.2.2.1 24) (σ.2.2.1 22) day) σ) : ∃ n, wloop (wm_X6_free_L54 Q pl day kn σ) n (-1, 0) := by
  obtain ⟨cF, hcF⟩ : ∃ f : Nat → Option Nat, f = lastF (fun k => ¬ day < σ.2.2.1 21 k) (σ.2.2.1 21) := ⟨_, rfl⟩
  refine wloop_of (fun v : Int32 × Int32 => ∃ k : Nat, k ≤ N ∧ v.2 = nI k ∧ v.1 = encO (cF k)) (fun v => N - v.2.toNatClampNeg) ?_ _ ⟨0, Nat.zero_le _, rfl, by rw [hcF]; rfl⟩
  rintro K ⟨x2, x3⟩ ⟨k, hk, e3, e2⟩ kk
  dsimp only at e3 e2 kk
  subst e3; subst e2
  have hcl : (nI k).toNatClampNeg = k := nI_clamp (by omega)
  obtain ⟨n1, n2⟩ := encO_neg (o := cF k) (n := k) (by omega) (fun j hj => lastF_lt _ _ k j (by rw [hcF] at hj; exact hj))
  show (_ ∧ _)
  rw [h9]
  refine ⟨fun c a1 ea1 => ?_, fun c => ?_⟩
  · have hke : k = N := by have : N ≤ k := (nI_leI (by omega) (by omega)).mp c; omega
    subst hke
    subst ea1
    rw [← hcF] at hq
    exact m_free_D (N := k) hN hD h10 (fun i hi => lastF_lt _ _ k i (by rw [hcF] at hi; exact hi)) hq
  have hlt : k < N := Nat.lt_of_not_le (fun z => c ((nI_leI (by omega) (by omega)).mpr z))
  have hin : vp_in (nI k) 10 := nI_in (by omega) (by decide)
  have nx : ∀ o : Option Nat, cF (k + 1) = o → K (encO o, nI k + 1) := by
    intro o ho
    refine kk _ ⟨k + 1, by omega, nI_1 k, by rw [ho]⟩ ?_
    dsimp only
    rw [nI_1, nI_clamp (by omega), hcl]; omega
  have eA : aI σ 21 (nI k) = σ.2.2.1 21 k := by show σ.2.2.1 21 (nI k).toNatClampNeg = _; rw [hcl]
  refine ⟨hin, ?_⟩
  rw [eA]
  refine ⟨fun c1 a ea => ?_, fun c1 => ⟨fun c2 a ea => ?_, fun c2 => ?_⟩⟩
  · subst ea
    refine nx _ ?_
    rw [hcF]
    conv => lhs; unfold lastF
    cases hl : lastF (fun k => ¬ day < σ.2.2.1 21 k) (σ.2.2.1 21) k with
    | none => simp only [c1, not_true_eq_false, if_false]
    | some j => simp only [c1, not_true_eq_false, false_and, if_false]
  · subst ea
    have hl := n1.mp c2
    refine nx (some k) ?_
    rw [hcF] at hl ⊢
    unfold lastF
    rw [hl]
    simp only [c1, not_false_eq_true, if_true]
  · cases hl : cF k with
    | none => rw [hl] at c2; exact absurd (by decide) c2
    | some j =>
      have hj := lastF_lt _ _ k j (by rw [hcF] at hl; exact hl)
      have hcj : (nI j).toNatClampNeg = j := nI_clamp (by omega)
      refine ⟨hin, nI_in (by omega) (by decide), ?_⟩
      have eB : aI σ 21 (encO (some j)) = σ.2.2.1 21 j := by show σ.2.2.1 21 (nI j).toNatClampNeg = _; rw [hcj]
      rw [eB]
      refine ⟨fun c3 a ea => ?_, fun c3 a ea => ?_⟩
      · subst ea
        refine nx (some j) ?_
        rw [hcF] at hl ⊢
        unfold lastF
        rw [hl]
        simp only [c1, c3, not_true_eq_false, and_false, if_false]
      · subst ea
        refine nx (some k) ?_
        rw [hcF] at hl ⊢
        unfold lastF
        rw [hl]
        simp only [c1, c3, not_false_eq_true, and_self, if_true]
theorem freeV_or (o d : Option Nat) (dd ld : Nat → Int32) (day : Int32) : freeV o d dd ld day = 0 ∨ freeV o d dd ld day = 1 := by
  cases o with
  | none => exact Or.inl rfl
  | some i =>
    cases d with
    | none => exact Or.inl rfl
    | some j =>
      show (if day < dd j + ld i then (0 : Int32) else 1) = 0 ∨ (if day < dd j + ld i then (0 : Int32) else 1) = 1
      split
      · exact Or.inl rfl
      · exact Or.inr rfl
theorem freeV_congr {o d : Option Nat} {dd ld dd2 ld2 : Nat → Int32} {day : Int32} (h1 : ∀ i, o = some i → ld i = ld2 i) (h2 : ∀ j, d = some j → dd j = dd2 j) : freeV o d dd ld day = freeV o d dd2 ld2 day := by
  cases o with
  | none => rfl
  | some i =>
    cases d with
    | none => rfl
    | some j =>
      show (if day < dd j + ld i then (0 : Int32) else 1) = (if day < dd2 j + ld2 i then (0 : Int32) else 1)
      rw [h1 i rfl, h2 j rfl]
theorem r_free : rT_free Rel := by
  intro σx σm x1 x2 x3 h
  obtain ⟨hs, P, Mo, h0⟩ := id h
  obtain ⟨p1, p2, p3, p4, p5, p6, hO, hF, hE, hC, Lw, De, l1, l2, l3, l4, l5, l6, l7, l8⟩ := h0
  obtain ⟨ok, hok⟩ : ∃ c : Prop, c ↔ (isR x2 0 200000 ∧ isR x3 0 9999) := ⟨_, Iff.rfl⟩
  have eP : (sI (sI σm 1 0) 0 0).1 2 = nI P := p4
  have M : ∀ (Q : Int32 → wS → Prop), (¬ isN x1 (nI P) → Q (-1) (sI (sI (sI σm 1 0) 0 0) 0 1)) → (isN x1 (nI P) → ¬ ok → Q (-1) (sI (sI (sI σm 1 0) 0 0) 0 2)) → (isN x1 (nI P) → ok → Q (freeV (lastF (fun k => ¬ x2 < σm.2.2.1 21 k) (σm.2.2.1 21) Lw) (lastF (fun k => σm.2.2.1 23 k = x1 ∧ ¬ x3 < σm.2.2.1 25 k) (σm.2.2.1 25) De) (σm.2.2.1 24) (σm.2.2.1 22) x2) (sI (sI σm 1 0) 0 0)) → wm_X6_free Q x1 x2 x3 σm := by
    intro Q k0 k1 k3 σ1 e1 σ2 e2
    subst e1; subst e2
    rw [m_isPlate, eP]
    by_cases a : isN x1 (nI P)
    · refine q_t' a ?_
      have no2 : ¬ ok → wm_X6_refuse (fun r5 σ6 => Q r5 σ6) 2 (sI (sI σm 1 0) 0 0) := fun hn => m_refuse.mpr (k1 a hn)
      by_cases c1 : x2 < 0
      · exact i_t c1 (no2 (fun z => (hok.mp z).1.1 c1))
      refine i_f c1 ?_
      by_cases c2 : 200000 < x2
      · exact i_t c2 (no2 (fun z => (hok.mp z).1.2 c2))
      refine i_f c2 ?_
      rw [m_isDay]
      by_cases c3 : isR x3 0 9999
      · refine q_t' c3 (fun a1 ea => ?_)
        subst ea
        exact m_free_L (N := Lw) (De := De) l1 l2 l4 l6 (k3 a (hok.mpr ⟨⟨c1, c2⟩, c3⟩))
      · exact q_f' c3 (no2 (fun z => c3 (hok.mp z).2))
    · exact q_f' a (m_refuse.mpr (k0 a))
  have X : ∀ (Q : Int32 → wS → Prop) (s1 : Int32), (s1 = 0 ↔ ¬ ok) → (¬ isN x1 (nI P) → Q (-1) (sI σx 3 1)) → (isN x1 (nI P) → ¬ ok → Q (-1) (sI σx 3 2)) → (isN x1 (nI P) → ok → Q (freeV (lastF (fun k => ¬ x2 < σx.2.2.1 17 k) (σx.2.2.1 17) Lw) (lastF (fun k => σx.2.2.1 19 k = x1 ∧ ¬ x3 < σx.2.2.1 21 k) (σx.2.2.1 21) De) (σx.2.2.1 20) (σx.2.2.1 18) x2) (sI σx 3 0)) → wx_X5_free_J27 Q x1 x2 x3 (b2 (isN x1 (nI P))) s1 σx := by
    intro Q s1 hs1 k0 k1 k3
    unfold wx_X5_free_J27
    rw [x_whyNot]
    by_cases a : isN x1 (nI P)
    · rw [if_neg (by rw [b2_0]; exact fun z => z a)]
      by_cases c : s1 = 0
      · rw [if_pos c]
        exact i_f (by decide) (x_refuse.mpr (k1 a (hs1.mp c)))
      · rw [if_neg c]
        refine i_t rfl (x_isFreeOn (N := Lw) (De := De) l1 l2 l3 l5 ?_)
        have hq := k3 a (Classical.byContradiction fun z => c (hs1.mpr z))
        rcases freeV_or (lastF (fun k => ¬ x2 < σx.2.2.1 17 k) (σx.2.2.1 17) Lw) (lastF (fun k => σx.2.2.1 19 k = x1 ∧ ¬ x3 < σx.2.2.1 21 k) (σx.2.2.1 21) De) (σx.2.2.1 20) (σx.2.2.1 18) x2 with e | e
        · rw [e] at hq ⊢
          exact i_t rfl (x_answer.mpr hq)
        · rw [e] at hq ⊢
          exact i_f (by decide) (x_answer.mpr hq)
    · rw [if_pos (b2_0.mpr a)]
      exact i_f (by decide) (x_refuse.mpr (k0 a))
  have fin : ∀ s1 : Int32, (s1 = 0 ↔ ¬ ok) → wx_X5_free_J27 (fun r1 σx1 => wm_X6_free (fun r2 σm1 => r1 = r2 ∧ Rel σx1 σm1) x1 x2 x3 σm) x1 x2 x3 (b2 (isN x1 (nI P))) s1 σx := by
    intro s1 hs1
    refine X _ s1 hs1 (fun a => ?_) (fun a b => ?_) (fun a b => ?_)
    · exact M _ (fun _ => ⟨rfl, rel_no h 1⟩) (fun z => absurd z a) (fun z => absurd z a)
    · exact M _ (fun z => absurd a z) (fun _ _ => ⟨rfl, rel_no h 2⟩) (fun _ z => absurd z b)
    · refine M _ (fun z => absurd a z) (fun _ z => absurd b z) (fun _ _ => ⟨?_, rel_ok h⟩)
      have e1 : lastF (fun k => ¬ x2 < σx.2.2.1 17 k) (σx.2.2.1 17) Lw = lastF (fun k => ¬ x2 < σm.2.2.1 21 k) (σm.2.2.1 21) Lw := lastF_congr Lw (fun i hi => by rw [(l7 i hi).1]; exact ⟨Iff.rfl, rfl⟩)
      have e2 : lastF (fun k => σx.2.2.1 19 k = x1 ∧ ¬ x3 < σx.2.2.1 21 k) (σx.2.2.1 21) De = lastF (fun k => σm.2.2.1 23 k = x1 ∧ ¬ x3 < σm.2.2.1 25 k) (σm.2.2.1 25) De := lastF_congr De (fun i hi => by rw [(l8 i hi).1, (l8 i hi).2.2]; exact ⟨Iff.rfl, rfl⟩)
      rw [e1, e2]
      exact freeV_congr (fun i hi => (l7 i (lastF_lt _ _ _ _ hi)).2) (fun j hj => (l8 j (lastF_lt _ _ _ _ hj)).2.1)
  unfold wx_X5_free
  rw [x_isPlate, p3, x_isWithin]
  by_cases c1 : isR x2 0 200000
  · refine q_t c1 ?_
    rw [x_isDay]
    by_cases c2 : isR x3 0 9999
    · exact q_t c2 (fin 1 ⟨fun e => absurd e (by decide), fun z => absurd (hok.mpr ⟨c1, c2⟩) z⟩)
    · exact q_f c2 (fin 0 ⟨fun _ z => c2 (hok.mp z).2, fun _ => rfl⟩)
  · exact q_f c1 (fin 0 ⟨fun _ z => c1 (hok.mp z).1, fun _ => rfl⟩)
