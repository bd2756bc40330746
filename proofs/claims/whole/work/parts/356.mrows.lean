/-! MROWS: the reference's edges, marks and counts -/
section MROWS
variable {L R : Nat → Nat} {P : Nat}
def edM (P : Nat) (L R : Nat → Nat) (σ : wS) : Prop := σ.1 2 = nI P ∧ ∀ p, p < P → (((σ.2.2.1 8 p ≤ 0 ∧ L p = 100 + p) ∨ (¬ σ.2.2.1 8 p ≤ 0 ∧ σ.2.2.1 8 p = nI (L p))) ∧ ((σ.2.2.1 9 p ≤ 0 ∧ R p = 200 + p) ∨ (¬ σ.2.2.1 9 p ≤ 0 ∧ σ.2.2.1 9 p = nI (R p))))
/-- the sets that the reference takes -/
def okP (P : Nat) (L R : Nat → Nat) (S : Nat → Prop) : Prop := ∀ p, S p → p < P ∧ 0 < L p ∧ L p < 300 ∧ 0 < R p ∧ R p < 300
theorem okP.S {S : Nat → Prop} (hP : P ≤ 20) (h : okP P L R S) : okS L R S := fun p hp => by have := h p hp; omega
theorem okP.sub {S T : Nat → Prop} (h : okP P L R S) (h2 : ∀ p, T p → S p) : okP P L R T := fun p hp => h p (h2 p hp)
def keepH (σ τ : wS) : Prop := τ.1 = σ.1 ∧ ∀ b, b ≠ 12 → b ≠ 13 → τ.2.2.1 b = σ.2.2.1 b
theorem keepH.rf (σ : wS) : keepH σ σ := ⟨rfl, fun _ _ _ => rfl⟩
theorem keepH.trans {a b c : wS} (h : keepH a b) (h2 : keepH b c) : keepH a c := ⟨h2.1.trans h.1, fun k k1 k2 => (h2.2 k k1 k2).trans (h.2 k k1 k2)⟩
theorem keepH.sA (A : Nat) (hA : A = 12 ∨ A = 13) (σ : wS) (i v : Int32) : keepH σ (sA σ A i v) := ⟨rfl, fun _ h1 h2 => va_up_ne _ _ (by omega)⟩
theorem edM.keep {σ τ : wS} (h : edM P L R σ) (hk : keepH σ τ) : edM P L R τ := by
  unfold edM
  rw [hk.1, hk.2 8 (by omega) (by omega), hk.2 9 (by omega) (by omega)]
  exact h
theorem m_leftOf {Q : Int32 → Prop} {σ : wS} {p : Nat} (hM : edM P L R σ) (hP : P ≤ 20) (hp : p < P) : wm_X6_leftOf Q (nI p) σ ↔ Q (nI (L p)) := by
  have hin : vp_in (nI p) 20 := nI_in (by omega) (by decide)
  unfold wm_X6_leftOf
  rw [aI_nI σ 8 (by omega)]
  rcases (hM.2 p hp).1 with ⟨h1, h2⟩ | ⟨h1, h2⟩
  · rw [h2, ← nI_add]
    exact ⟨fun h => h.2.1 h1, fun h => ⟨hin, i_t h1 h⟩⟩
  · rw [← h2]
    exact ⟨fun h => (h.2.2 h1).2, fun h => ⟨hin, i_f h1 ⟨hin, h⟩⟩⟩
theorem m_rightOf {Q : Int32 → Prop} {σ : wS} {p : Nat} (hM : edM P L R σ) (hP : P ≤ 20) (hp : p < P) : wm_X6_rightOf Q (nI p) σ ↔ Q (nI (R p)) := by
  have hin : vp_in (nI p) 20 := nI_in (by omega) (by decide)
  unfold wm_X6_rightOf
  rw [aI_nI σ 9 (by omega)]
  rcases (hM.2 p hp).2 with ⟨h1, h2⟩ | ⟨h1, h2⟩
  · rw [h2, ← nI_add]
    exact ⟨fun h => h.2.1 h1, fun h => ⟨hin, i_t h1 h⟩⟩
  · rw [← h2]
    exact ⟨fun h => (h.2.2 h1).2, fun h => ⟨hin, i_f h1 ⟨hin, h⟩⟩⟩
theorem b_1 (q : Nat) : bt 1 q = true ↔ q = 0 := by
  have e : (1 : Int32) = (1 : Int32) <<< (nI 0 &&& 31) := by decide
  rw [e]
  exact b_one (by omega) q
theorem m_b1 (y : Int32) : (y &&& 1) = 1 ↔ bt y 0 = true := by
  constructor
  · intro h
    have : bt (y &&& 1) 0 = true := by rw [h]; exact (b_1 0).mpr rfl
    exact ((b_andT _ _ _).mp this).1
  · intro h
    refine b_ext (fun i _ => Bool.eq_iff_iff.mpr ?_)
    rw [b_andT, b_1]
    exact ⟨fun z => z.2, fun z => ⟨by rw [z]; exact h, z⟩⟩
theorem m_b0 (y : Int32) : (y &&& 1) = 0 ↔ ¬ bt y 0 = true := by
  rw [b_no]
  constructor
  · intro h z
    exact h 0 ((b_andT _ _ _).mpr ⟨z, (b_1 0).mpr rfl⟩)
  · intro h q z
    obtain ⟨z1, z2⟩ := (b_andT _ _ _).mp z
    rw [(b_1 q).mp z2] at z1
    exact h z1
theorem m_sh {x : Int32} {p : Nat} (hp : p < 32) : bt (x >>> (nI p &&& 31)) 0 = bt x p := by rw [b_sshr p hp x (by omega), if_pos (by omega), Nat.add_zero]
theorem m_bit {x : Int32} {p : Nat} (hp : p < 32) : ((x >>> (nI p &&& 31)) &&& 1) = 0 ↔ ¬ bS x p := by rw [m_b0, m_sh hp]
theorem m_bit1 {x : Int32} {p : Nat} (hp : p < 32) : ((x >>> (nI p &&& 31)) &&& 1) = 1 ↔ bS x p := by rw [m_b1, m_sh hp]
theorem geP {k : Nat} (hP : P ≤ 20) (hk : k < 2 ^ 31) : nI P ≤ nI k ↔ P ≤ k := nI_leI (by omega) hk
/-- marks as they stand -/
def mkS (L R : Nat → Nat) (S : Nat → Prop) (τ : wS) (mk : Nat → Nat) : Prop := ∀ v, tch L R S v → τ.2.2.1 13 v = nI (mk v)
def mkSum (τ : wS) : Nat := fb_sm (fun v => (τ.2.2.1 13 v).toNatClampNeg) 300
theorem m_marks {Q : wS → Prop} {x : Int32} {σ : wS} (hM : edM P L R σ) (hP : P ≤ 20) (hS : okP P L R (bS x)) (hq : ∀ (τ : wS) (mk : Nat → Nat), keepH σ τ → mkOk L R (bS x) mk → mkS L R (bS x) τ mk → Q τ) : wm_X6_marks Q x σ := by
  have tl : ∀ v, tch L R (bS x) v → v < 300 := fun v ⟨p, hp, e⟩ => by have := hS p hp; omega
  refine wloop_of (fun w : Int32 × wS => ∃ k : Nat, k ≤ P ∧ w.1 = nI k ∧ keepH σ w.2 ∧ ∀ v, (∃ p, p < k ∧ bS x p ∧ (L p = v ∨ R p = v)) → w.2.2.2.1 13 v = nI v) (fun w => P - w.1.toNatClampNeg) ?_ _ ⟨0, by omega, rfl, keepH.rf σ, fun v ⟨p, hp, _⟩ => absurd hp (Nat.not_lt_zero p)⟩
  rintro K ⟨x2, τ⟩ ⟨k, hk, ex, ke, hv⟩ kk
  try dsimp only at ex ke hv kk
  subst ex
  have hMt := hM.keep ke
  dsimp only [wm_X6_marks_L2]
  rw [hMt.1]
  refine ⟨fun c => ?_, fun c => ?_⟩
  · have hkP := (geP hP (by omega)).mp c
    refine wloop_of (fun w : Int32 × wS => ∃ mk : Nat → Nat, keepH σ w.2 ∧ mkIn L R (bS x) mk ∧ mkS L R (bS x) w.2 mk ∧ (w.1 = 0 → ∀ p, bS x p → mk (L p) = mk (R p))) (fun w => if w.1 = 0 then 0 else 1 + mkSum w.2) ?_ _ ⟨fun v => v, ke, mkIn_id _ (fun _ _ => rfl), fun v ⟨p, hp, e⟩ => hv v ⟨p, by have := hS p hp; omega, hp, e⟩, fun z => absurd z (show ¬ (1 : Int32) = 0 by decide)⟩
    clear kk K
    rintro K ⟨x2, υ⟩ ⟨mk, ku, hin, hms, hz⟩ kk
    try dsimp only at ku hin hms hz kk
    dsimp only [wm_X6_marks_L59]
    refine ⟨fun c => hq υ mk ku ⟨hin, hz c⟩ hms, fun c => ?_⟩
    rw [if_neg c] at kk
    refine wloop_of (fun w : Int32 × Int32 × wS => ∃ (j : Nat) (mk : Nat → Nat), j ≤ P ∧ w.2.1 = nI j ∧ keepH σ w.2.2 ∧ mkIn L R (bS x) mk ∧ mkS L R (bS x) w.2.2 mk ∧ mkSum w.2.2 ≤ mkSum υ ∧ (w.1 = 0 → ∀ p, p < j → bS x p → mk (L p) = mk (R p)) ∧ (¬ w.1 = 0 → mkSum w.2.2 < mkSum υ)) (fun w => P - w.2.1.toNatClampNeg) ?_ _ ⟨0, mk, by omega, rfl, ku, hin, hms, Nat.le_refl _, fun _ p hp => absurd hp (Nat.not_lt_zero p), fun z => absurd rfl z⟩
    rintro K2 ⟨x2, x3, ω⟩ ⟨j, mk, hj, ej, kw, hin, hms, hsum, hz, hz1⟩ kk2
    try dsimp only at ej kw hin hms hsum hz hz1 kk2
    subst ej
    have hMw := hM.keep kw
    dsimp only [wm_X6_marks_L67]
    rw [hMw.1]
    refine ⟨fun c2 => ?_, fun c2 => ?_⟩
    · have hjP := (geP hP (by omega)).mp c2
      refine kk _ ⟨mk, kw, hin, hms, fun z p hp => hz z p (by have := hS p hp; omega) hp⟩ ?_
      try dsimp only
      by_cases z : x2 = 0
      · rw [if_pos z]; omega
      · rw [if_neg z]; have := hz1 z; omega
    have hjl : j < P := Nat.lt_of_not_le (fun z => c2 ((geP hP (by omega)).mpr z))
    have hmu : P - (nI j + 1).toNatClampNeg < P - (nI j).toNatClampNeg := by rw [nI_1, nI_clamp (by omega), nI_clamp (by omega)]; omega
    rw [m_bit (by omega)]
    refine ⟨fun c3 a e => ?_, fun c3 => ?_⟩
    · subst e
      refine kk2 _ ⟨j + 1, mk, by omega, nI_1 j, kw, hin, hms, hsum, fun z p hp hp2 => ?_, hz1⟩ hmu
      by_cases e : p = j
      · subst e; exact absurd hp2 c3
      · exact hz z p (by omega) hp2
    have hSj : bS x j := Classical.byContradiction c3
    obtain ⟨_, l1, l2, r1, r2⟩ := hS j hSj
    have tL : tch L R (bS x) (L j) := ⟨j, hSj, Or.inl rfl⟩
    have tR : tch L R (bS x) (R j) := ⟨j, hSj, Or.inr rfl⟩
    have m1 := (mkOk.lt (hS.S hP) hin tL).1
    have m2 := (mkOk.lt (hS.S hP) hin tR).1
    have iL : vp_in (nI (L j)) 500 := nI_in (by omega) (by decide)
    have iR : vp_in (nI (R j)) 500 := nI_in (by omega) (by decide)
    rw [m_leftOf hMw hP hjl]
    refine ⟨iL, ?_⟩
    rw [m_rightOf hMw hP hjl, aI_nI ω 13 (by omega), aI_nI ω 13 (by omega), hms _ tL, hms _ tR]
    refine ⟨iR, fun c4 => ?_, fun c4 a e => ?_⟩
    · have hne : mk (L j) ≠ mk (R j) := fun z => c4 (by rw [z])
      have hLR : L j ≠ R j := fun z => hne (by rw [z])
      rw [m_leftOf hMw hP hjl]
      refine ⟨iL, ?_⟩
      rw [m_rightOf hMw hP hjl, aI_nI ω 13 (by omega), aI_nI ω 13 (by omega), hms _ tL, hms _ tR, mn_nI (by omega) (by omega)]
      refine ⟨iR, fun m10 e10 => ?_⟩
      rw [m_leftOf hMw hP hjl]
      refine ⟨iL, fun σ13 e13 => ?_⟩
      have k13 : keepH σ σ13 := by rw [e13]; exact kw.trans (keepH.sA 13 (Or.inr rfl) ω _ _)
      rw [m_rightOf (hM.keep k13) hP hjl]
      refine ⟨iR, fun σ16 e16 a17 e17 => ?_⟩
      subst e17
      have k16 : keepH σ σ16 := by rw [e16]; exact k13.trans (keepH.sA 13 (Or.inr rfl) σ13 _ _)
      have hval : ∀ v, σ16.2.2.1 13 v = if v = R j then nI (min (mk (L j)) (mk (R j))) else if v = L j then nI (min (mk (L j)) (mk (R j))) else ω.2.2.1 13 v := by
        intro v
        rw [e16, a_sA σ13 13 (by omega)]
        by_cases d : v = R j
        · rw [if_pos ⟨rfl, d⟩, if_pos d, e10]
        · rw [if_neg (fun z => d z.2), if_neg d, e13, a_sA ω 13 (by omega)]
          by_cases d2 : v = L j
          · rw [if_pos ⟨rfl, d2⟩, if_pos d2, e10]
          · rw [if_neg (fun z => d2 z.2), if_neg d2]
      have hlt : mkSum σ16 < mkSum ω := by
        have f1 := fb_sm_upd (fun v => (ω.2.2.1 13 v).toNatClampNeg) (min (mk (L j)) (mk (R j))) (i := L j) (n := 300) l2
        have f2 := fb_sm_upd (fun v => if v = L j then min (mk (L j)) (mk (R j)) else (ω.2.2.1 13 v).toNatClampNeg) (min (mk (L j)) (mk (R j))) (i := R j) (n := 300) r2
        have f3 : mkSum σ16 = fb_sm (fun v => if v = R j then min (mk (L j)) (mk (R j)) else if v = L j then min (mk (L j)) (mk (R j)) else (ω.2.2.1 13 v).toNatClampNeg) 300 := fb_sm_cong (fun v _ => by
          rw [hval v]
          by_cases d : v = R j
          · rw [if_pos d, if_pos d, nI_clamp (by omega)]
          · rw [if_neg d, if_neg d]
            by_cases d2 : v = L j
            · rw [if_pos d2, if_pos d2, nI_clamp (by omega)]
            · rw [if_neg d2, if_neg d2])
        try dsimp only at f1 f2
        rw [hms _ tL, nI_clamp (by omega)] at f1
        rw [if_neg (fun z => hLR z.symm), hms _ tR, nI_clamp (by omega)] at f2
        unfold mkSum at f3 ⊢
        omega
      refine kk2 _ ⟨j + 1, fun v => if v = L j ∨ v = R j then min (mk (L j)) (mk (R j)) else mk v, by omega, nI_1 j, k16, ?_, fun v tv => ?_, by try dsimp only; omega, fun z => absurd z (show ¬ (1 : Int32) = 0 by decide), fun _ => by dsimp only; omega⟩ hmu
      · refine mkIn_up hin hSj (m := min (mk (L j)) (mk (R j))) ?_ (fun v _ => rfl)
        omega
      · try dsimp only
        rw [hval v]
        by_cases d : v = R j
        · rw [if_pos d, if_pos (Or.inr d)]
        · rw [if_neg d]
          by_cases d2 : v = L j
          · rw [if_pos d2, if_pos (Or.inl d2)]
          · rw [if_neg d2, if_neg (fun z => z.elim d2 d)]; exact hms v tv
    · subst e
      refine kk2 _ ⟨j + 1, mk, by omega, nI_1 j, kw, hin, hms, hsum, fun z p hp hp2 => ?_, hz1⟩ hmu
      by_cases e : p = j
      · subst e; exact (nI_eq (by omega) (by omega)).mp c4
      · exact hz z p (by omega) hp2
  have hkl : k < P := Nat.lt_of_not_le (fun z => c ((geP hP (by omega)).mpr z))
  have hmu : P - (nI k + 1).toNatClampNeg < P - (nI k).toNatClampNeg := by rw [nI_1, nI_clamp (by omega), nI_clamp (by omega)]; omega
  rw [m_bit (by omega)]
  refine ⟨fun c3 => ?_, fun c3 a e => ?_⟩
  · have hSk : bS x k := Classical.byContradiction c3
    obtain ⟨_, l1, l2, r1, r2⟩ := hS k hSk
    rw [m_leftOf hMt hP hkl, m_leftOf hMt hP hkl]
    refine ⟨nI_in (by omega) (by decide), fun σ5 e5 => ?_⟩
    have k5 : keepH σ σ5 := by rw [e5]; exact ke.trans (keepH.sA 13 (Or.inr rfl) τ _ _)
    rw [m_rightOf (hM.keep k5) hP hkl, m_rightOf (hM.keep k5) hP hkl]
    refine ⟨nI_in (by omega) (by decide), fun σ10 e10 a e => ?_⟩
    subst e
    have k10 : keepH σ σ10 := by rw [e10]; exact k5.trans (keepH.sA 13 (Or.inr rfl) σ5 _ _)
    refine kk _ ⟨k + 1, by omega, nI_1 k, k10, fun v ⟨p, hp, hp2, hp3⟩ => ?_⟩ hmu
    try dsimp only
    rw [e10, a_sA σ5 13 (by omega)]
    by_cases d : v = R k
    · rw [if_pos ⟨rfl, d⟩, d]
    · rw [if_neg (fun z => d z.2), e5, a_sA τ 13 (by omega)]
      by_cases d2 : v = L k
      · rw [if_pos ⟨rfl, d2⟩, d2]
      · rw [if_neg (fun z => d2 z.2)]
        refine hv v ⟨p, ?_, hp2, hp3⟩
        have : p ≠ k := fun z => by subst z; omega
        omega
  · subst e
    refine kk _ ⟨k + 1, by omega, nI_1 k, ke, fun v ⟨p, hp, hp2, hp3⟩ => hv v ⟨p, ?_, hp2, hp3⟩⟩ hmu
    have : p ≠ k := fun z => c3 (z ▸ hp2)
    omega
/-- the counts as they stand -/
def cnS (L R : Nat → Nat) (S : Nat → Prop) (τ : wS) : Prop := ∀ v, v < 500 → (τ.2.2.1 12 v).toInt = (od L S v : Int) - (od R S v : Int)
theorem od_P {F : Nat → Nat} {S : Nat → Prop} (hP : P ≤ 20) (h : ∀ p, S p → p < P) (v : Nat) : fb_sm (fun p => c1 (S p ∧ F p = v)) P = od F S v := by
  unfold od
  obtain ⟨d, e⟩ : ∃ d, 20 = P + d := ⟨20 - P, by omega⟩
  rw [e, fb_sm_split, sm_0 (f := fun k => c1 (S (P + k) ∧ F (P + k) = v)) (fun k _ => c1_f (fun z => by have := h _ z.1; omega)), Nat.add_zero]
theorem m_counts {Q : wS → Prop} {x : Int32} {σ : wS} (hM : edM P L R σ) (hP : P ≤ 20) (hS : okP P L R (bS x)) (hq : ∀ τ : wS, keepH σ τ → τ.2.2.1 13 = σ.2.2.1 13 → cnS L R (bS x) τ → Q τ) : wm_X6_counts Q x σ := by
  refine wloop_of (fun w : Int32 × wS => ∃ k : Nat, k ≤ 500 ∧ w.1 = nI k ∧ keepH σ w.2 ∧ w.2.2.2.1 13 = σ.2.2.1 13 ∧ ∀ v, v < k → w.2.2.2.1 12 v = 0) (fun w => 500 - w.1.toNatClampNeg) ?_ _ ⟨0, by omega, rfl, keepH.rf σ, rfl, fun v hv => absurd hv (Nat.not_lt_zero v)⟩
  rintro K ⟨x2, τ⟩ ⟨k, hk, ex, ke, h13, hv⟩ kk
  try dsimp only at ex ke h13 hv kk
  subst ex
  dsimp only [wm_X6_counts_L2]
  refine ⟨fun c => ?_, fun c => ?_⟩
  · have hk5 : 500 ≤ k := (nI_leI (a := 500) (by omega) (by omega)).mp c
    refine wloop_of (fun w : Int32 × wS => ∃ j : Nat, j ≤ P ∧ w.1 = nI j ∧ keepH σ w.2 ∧ w.2.2.2.1 13 = σ.2.2.1 13 ∧ ∀ v, v < 500 → (w.2.2.2.1 12 v).toInt = (fb_sm (fun p => c1 (bS x p ∧ L p = v)) j : Int) - (fb_sm (fun p => c1 (bS x p ∧ R p = v)) j : Int)) (fun w => P - w.1.toNatClampNeg) ?_ _ ⟨0, by omega, rfl, ke, h13, fun v h => by try dsimp only; rw [hv v (by omega)]; rfl⟩
    clear kk K
    rintro K ⟨x2, υ⟩ ⟨j, hj, ej, ku, u13, hu⟩ kk
    try dsimp only at ej ku u13 hu kk
    subst ej
    have hMu := hM.keep ku
    dsimp only [wm_X6_counts_L24]
    rw [hMu.1]
    refine ⟨fun c2 => ?_, fun c2 => ?_⟩
    · have hjP := (geP hP (by omega)).mp c2
      have ej : j = P := by omega
      subst ej
      refine hq υ ku u13 (fun v h => ?_)
      rw [hu v h, od_P hP (fun p hp => (hS p hp).1), od_P hP (fun p hp => (hS p hp).1)]
    have hjl : j < P := Nat.lt_of_not_le (fun z => c2 ((geP hP (by omega)).mpr z))
    have hmu : P - (nI j + 1).toNatClampNeg < P - (nI j).toNatClampNeg := by rw [nI_1, nI_clamp (by omega), nI_clamp (by omega)]; omega
    have bd : ∀ (F : Nat → Nat) (v : Nat), fb_sm (fun p => c1 (bS x p ∧ F p = v)) j ≤ 20 := fun F v => by
      have := fb_sm_bound (f := fun p => c1 (bS x p ∧ F p = v)) (c := 1) (n := j) (fun k _ => c1_1 _)
      omega
    rw [m_bit (by omega)]
    refine ⟨fun c3 => ?_, fun c3 a e => ?_⟩
    · have hSj : bS x j := Classical.byContradiction c3
      obtain ⟨_, l1, l2, r1, r2⟩ := hS j hSj
      have iL : vp_in (nI (L j)) 500 := nI_in (by omega) (by decide)
      have iR : vp_in (nI (R j)) 500 := nI_in (by omega) (by decide)
      rw [m_leftOf hMu hP hjl]
      refine ⟨iL, iL, fun σ3 e3 => ?_⟩
      have k3 : keepH σ σ3 := by rw [e3]; exact ku.trans (keepH.sA 12 (Or.inl rfl) υ _ _)
      rw [m_rightOf (hM.keep k3) hP hjl]
      refine ⟨iR, iR, fun σ6 e6 a e => ?_⟩
      subst e
      have k6 : keepH σ σ6 := by rw [e6]; exact k3.trans (keepH.sA 12 (Or.inl rfl) σ3 _ _)
      have o1 : (1 : Int32).toInt = 1 := by decide
      have v3 : ∀ v, v < 500 → (σ3.2.2.1 12 v).toInt = (fb_sm (fun p => c1 (bS x p ∧ L p = v)) (j + 1) : Int) - (fb_sm (fun p => c1 (bS x p ∧ R p = v)) j : Int) := by
        intro v h
        rw [fb_sm_succ, e3, a_sA υ 12 (by omega)]
        have b1 := bd L v
        have b2 := bd R v
        by_cases d : v = L j
        · rw [if_pos ⟨rfl, d⟩, c1_t ⟨hSj, d.symm⟩, aI_nI υ 12 (by omega), ← d, fb_addI (by rw [hu v h, o1]; omega) (by rw [hu v h, o1]; omega), hu v h, o1]
          omega
        · rw [if_neg (fun z => d z.2), c1_f (fun z => d z.2.symm), hu v h]; rfl
      have v6 : ∀ v, v < 500 → (σ6.2.2.1 12 v).toInt = (fb_sm (fun p => c1 (bS x p ∧ L p = v)) (j + 1) : Int) - (fb_sm (fun p => c1 (bS x p ∧ R p = v)) (j + 1) : Int) := by
        intro v h
        rw [fb_sm_succ (fun p => c1 (bS x p ∧ R p = v)), e6, a_sA σ3 12 (by omega)]
        have b1 := bd L v
        have b2 := bd R v
        have b3 := c1_1 (bS x j ∧ L j = v)
        have b4 : fb_sm (fun p => c1 (bS x p ∧ L p = v)) (j + 1) = fb_sm (fun p => c1 (bS x p ∧ L p = v)) j + c1 (bS x j ∧ L j = v) := rfl
        by_cases d : v = R j
        · rw [if_pos ⟨rfl, d⟩, c1_t ⟨hSj, d.symm⟩, aI_nI σ3 12 (by omega), ← d, fb_subI (by rw [v3 v h, o1]; omega) (by rw [v3 v h, o1]; omega), v3 v h, o1]
          omega
        · rw [if_neg (fun z => d z.2), c1_f (fun z => d z.2.symm), v3 v h]; rfl
      refine kk _ ⟨j + 1, by omega, nI_1 j, k6, ?_, v6⟩ hmu
      try dsimp only
      rw [← u13, e6, e3]
      funext v
      rw [a_sA _ 12 (by omega), if_neg (fun z => absurd z.1 (by omega)), a_sA _ 12 (by omega), if_neg (fun z => absurd z.1 (by omega))]
    · subst e
      refine kk _ ⟨j + 1, by omega, nI_1 j, ku, u13, fun v h => ?_⟩ hmu
      try dsimp only
      rw [fb_sm_succ, fb_sm_succ, c1_f (fun z => c3 z.1), c1_f (fun z => c3 z.1), hu v h]
      rfl
  have hkl : k < 500 := Nat.lt_of_not_le (fun z => c ((nI_leI (a := 500) (by omega) (by omega)).mpr z))
  refine ⟨nI_in hkl (by decide), fun σ1 e1 a e => ?_⟩
  subst e
  refine kk _ ⟨k + 1, by omega, nI_1 k, by try dsimp only; rw [e1]; exact ke.trans (keepH.sA 12 (Or.inl rfl) τ _ _), ?_, fun v h => ?_⟩ ?_
  · try dsimp only
    rw [← h13, e1]
    funext v
    rw [a_sA _ 12 (by omega), if_neg (fun z => absurd z.1 (by omega))]
  · try dsimp only
    rw [e1, a_sA τ 12 (by omega)]
    by_cases d : v = k
    · rw [if_pos ⟨rfl, d⟩]
    · rw [if_neg (fun z => d z.2)]; exact hv v (by omega)
  · try dsimp only
    rw [nI_1, nI_clamp (by omega), nI_clamp (by omega)]; omega
theorem cn_mx {S : Nat → Prop} {τ : wS} (h : cnS L R S τ) {v : Nat} (hv : v < 500) : mx 0 (aI τ 12 (nI v)) = nI (ps L R S v) ∧ (aI τ 12 (nI v) ≤ 0 ↔ ps L R S v = 0) := by
  rw [aI_nI τ 12 (by omega)]
  have h1 := od_20 L S v
  have h2 := od_20 R S v
  have h3 := h v hv
  have z0 : (0 : Int32).toInt = 0 := by decide
  refine ⟨?_, ?_⟩
  · unfold mx ps
    by_cases d : (0 : Int32) < τ.2.2.1 12 v
    · rw [if_pos d, fa_eq, nI_toInt (by omega), h3]
      rw [fa_lt, z0, h3] at d
      omega
    · rw [if_neg d, fa_eq, nI_toInt (by omega), z0]
      rw [fa_lt, z0, h3] at d
      omega
  · rw [fa_le, z0, h3]
    unfold ps
    omega
end MROWS
