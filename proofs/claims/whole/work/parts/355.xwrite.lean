/-! XWRITE: the class writes the first row -/
section XWRITE
variable {L R : Nat → Nat}
theorem x_first {Q : Int32 → Prop} {x : Int32} {σ : wS} (hE : edX L R σ) (hS : okS L R (bS x)) (hq : ∀ y : Int32, (∀ p, bS y p ↔ fpl L R (bS x) p) → Q y) : wx_X1_firstPlaces Q x σ := by
  have hx : ∀ q, bS x q → q < 20 := fun q h => (hS q h).1
  have hs20 := st_20 hS
  refine x_starts hE hS ⟨fun c => ?_, fun c => hq x (fun p => ⟨fun z => ⟨z, Or.inl ?_⟩, fun z => z.1⟩)⟩
  · have hst : ¬ st L R (bS x) = 0 := fun z => c (by rw [z]; rfl)
    refine wloop_of (fun w : Int32 × Int32 => ∃ k : Nat, k ≤ 20 ∧ w.2 = nI k ∧ ∀ p, bS w.1 p ↔ p < k ∧ bS x p ∧ 0 < ps L R (bS x) (L p)) (fun w => 20 - w.2.toNatClampNeg) ?_ _ ⟨0, by omega, rfl, fun p => ⟨fun z => absurd z (b_no.mp rfl p), fun z => absurd z.1 (Nat.not_lt_zero p)⟩⟩
    rintro K ⟨x2, x3⟩ ⟨k, hk, ex, hb⟩ kk
    try dsimp only at ex hb kk
    subst ex
    dsimp only [wx_X1_firstPlaces_L14]
    refine ⟨fun c => ?_, fun c => ?_⟩
    · have h20 := ge20 (by omega) c
      refine hq x2 (fun p => (hb p).trans ⟨fun z => ⟨z.2.1, Or.inr z.2.2⟩, fun z => ⟨?_, z.1, z.2.elim (fun y => absurd y hst) id⟩⟩)
      have := hx p z.1
      omega
    have hlt := lt20 (by omega) c
    have hmu : 20 - (nI k + 1).toNatClampNeg < 20 - (nI k).toNatClampNeg := by rw [nI_1, nI_clamp (by omega), nI_clamp (by omega)]; omega
    have no : ¬ (bS x k ∧ 0 < ps L R (bS x) (L k)) → K (x2, nI k + 1) := by
      intro hn
      refine kk _ ⟨k + 1, by omega, nI_1 k, fun p => (hb p).trans ⟨fun z => ⟨by omega, z.2⟩, fun z => ⟨?_, z.2⟩⟩⟩ hmu
      by_cases e : p = k
      · subst e; exact absurd z.2 hn
      · omega
    rw [x_holds (by omega)]
    by_cases d : bt x k = true
    · refine q_t d (x_missing hE hx hlt ?_)
      have h20 : ps L R (bS x) (L k) ≤ 20 := Nat.le_trans (ps_st hS _) hs20
      refine ⟨fun c1 a6 e6 => ?_, fun c1 a7 e7 a8 e8 => ?_⟩
      · subst e6
        have : ps L R (bS x) (L k) ≤ 0 := (nI_leI (b := 0) (by omega) (by omega)).mp c1
        exact no (fun z => by omega)
      · subst e8
        have hpos : 0 < ps L R (bS x) (L k) := Nat.pos_of_ne_zero (fun z => c1 (by rw [z]; exact (nI_leI (a := 0) (b := 0) (by omega) (by omega)).mpr (Nat.le_refl _)))
        refine kk _ ⟨k + 1, by omega, nI_1 k, fun p => ?_⟩ hmu
        try dsimp only
        show bt a7 p = true ↔ _
        rw [e7, b_orT, b_one (by omega)]
        refine ⟨fun z => ?_, fun z => ?_⟩
        · rcases z with z | z
          · have := (hb p).mp z; exact ⟨by omega, this.2⟩
          · subst z; exact ⟨by omega, d, hpos⟩
        · by_cases e : p = k
          · exact Or.inr e
          · exact Or.inl ((hb p).mpr ⟨by omega, z.2⟩)
    · refine q_f d (fun a e => ?_)
      subst e
      exact no (fun z => d z.1)
  · exact Classical.byContradiction fun y => nI_ne0 (Nat.pos_of_ne_zero y) (by omega) c
theorem x_goes {Q : Int32 → Prop} {y : Int32} {σ : wS} {p : Nat} (hE : edX L R σ) (hy : ∀ q, bS y q → q < 20) (hp : p < 20)
    (h1 : ((∀ q, ¬ bS y q) ∨ ((∃ q, bS y q ∧ L q = R p) ∧ con L R (bS y))) → Q 1) (h0 : ¬ ((∀ q, ¬ bS y q) ∨ ((∃ q, bS y q ∧ L q = R p) ∧ con L R (bS y))) → Q 0) : wx_X1_goesOn Q (nI p) y σ := by
  refine ⟨fun c => h1 (Or.inl (b_no.mp c)), fun c => ⟨nI_in hp (by decide), ?_⟩⟩
  have hne : ¬ ∀ q, ¬ bS y q := fun z => c (b_no.mpr z)
  have hz : ((aI σ 9 (nI p)) &&& y) = 0 ↔ ¬ ∃ q, bS y q ∧ L q = R p := by
    rw [b_no, aI_nI σ 9 (by omega)]
    exact ⟨fun h ⟨q, h2, h3⟩ => h q ((b_andT _ _ _).mpr ⟨((hE p hp q).2.2).mpr ⟨hy q h2, h3⟩, h2⟩), fun h q z => h ⟨q, ((b_andT _ _ _).mp z).2, (((hE p hp q).2.2).mp ((b_andT _ _ _).mp z).1).2⟩⟩
  refine ⟨fun c2 => h0 (fun z => z.elim hne (fun w => (hz.mp c2) w.1)), fun c2 => ?_⟩
  have hex : ∃ q, bS y q ∧ L q = R p := Classical.byContradiction fun z => c2 (hz.mpr z)
  obtain ⟨p0, g0, gm⟩ := lst_bit hy c
  refine x_partOf hE hy g0 gm (fun y1 hP => ⟨fun ne => h0 (fun z => ?_), fun e => h1 (Or.inr ⟨hex, (prt_con hP).mpr (fun q h => by rw [e]; exact h)⟩)⟩)
  rcases z with z | z
  · exact hne z
  · exact ne (b_ext (fun i _ => Bool.eq_iff_iff.mpr ⟨hP.1 i, (prt_con hP).mp z.2 i⟩))
theorem x_least {Q : Int32 → Prop} {o y : Int32} {σ : wS} (hE : edX L R σ) (hy : ∀ q, bS y q → q < 20) (ho : ∃ p, bS o p ∧ gon L R (bS y) p) (ho2 : ∀ p, bS o p → p < 20)
    (hq : ∀ p, p < 20 → bS o p → gon L R (bS y) p → (∀ q, q < p → ¬ (bS o q ∧ gon L R (bS y) q)) → Q (nI p)) : wx_X1_leastThatGoesOn Q o y σ := by
  refine wloop_of (fun w : Int32 => ∃ k : Nat, k ≤ 20 ∧ w = nI k ∧ ∀ q, q < k → ¬ (bS o q ∧ gon L R (bS y) q)) (fun w => 20 - w.toNatClampNeg) ?_ _ ⟨0, by omega, rfl, fun q h => absurd h (Nat.not_lt_zero q)⟩
  rintro K x3 ⟨k, hk, ex, hb⟩ kk
  try dsimp only at kk
  subst ex
  refine ⟨fun c => ?_, fun c => ?_⟩
  · have h20 := ge20 (by omega) c
    obtain ⟨p, h1, h2⟩ := ho
    have := ho2 p h1
    exact absurd ⟨h1, h2⟩ (hb p (by omega))
  have hlt := lt20 (by omega) c
  have no : ¬ (bS o k ∧ gon L R (bS y) k) → K (nI k + 1) := by
    intro hn
    refine kk _ ⟨k + 1, by omega, nI_1 k, fun q h => ?_⟩ (by rw [nI_1, nI_clamp (by omega), nI_clamp (by omega)]; omega)
    by_cases e : q = k
    · subst e; exact hn
    · exact hb q (by omega)
  rw [x_holds (by omega)]
  by_cases d : bt o k = true
  · refine q_t d (x_goes hE (fun q h => hy q ((b_rm y (by omega) q).mp h).1) hlt ?_ ?_)
    · rw [bS_rm y (by omega)]
      intro hg
      exact ⟨fun z => absurd z (by decide), fun _ => hq k hlt d hg hb⟩
    · rw [bS_rm y (by omega)]
      intro hg
      refine ⟨fun _ a e => ?_, fun z => absurd rfl z⟩
      subst e
      exact no (fun z => hg z.2)
  · refine q_f d (fun a e => ?_)
    subst e
    exact no (fun z => d z.1)
theorem edX.keep {σ τ : wS} (h : edX L R σ) (hk : keepA 0 σ τ) : edX L R τ := by
  unfold edX
  rw [hk.2 7 (by omega), hk.2 8 (by omega), hk.2 9 (by omega)]
  exact h
theorem x_write {Q : Int32 → wS → Prop} {x : Int32} {σ : wS} (hE : edX L R σ) (hS : okS L R (bS x)) (hR : ∀ p, bS x p → R p ≠ 0) (hc : con L R (bS x)) (hs : st L R (bS x) ≤ 1)
    (hq : ∀ (n : Nat) (a : Nat → Nat) (τ : wS), n ≤ 20 → sq L R (bS x) n a → (∀ p, ¬ rs (bS x) a n p) → keepA 0 σ τ → (∀ j, j < n → τ.2.2.1 0 j = nI (a j)) → Q (nI n) τ) : wx_X1_writeFirstRow_outRow Q x σ := by
  have hx : ∀ q, bS x q → q < 20 := fun q h => (hS q h).1
  refine x_first hE hS (fun o0 ho0 => ?_)
  refine wloop_of (fun w : Int32 × Int32 × Int32 × wS => ∃ (k : Nat) (a : Nat → Nat), k + fb_ct (bt w.1) 20 ≤ 20 ∧ w.2.2.1 = nI k ∧ sq L R (bS x) k a ∧ bS w.1 = rs (bS x) a k ∧ can L R (rs (bS x) a k) (eg R a k) ∧ keepA 0 σ w.2.2.2 ∧ (∀ j, j < k → w.2.2.2.2.2.1 0 j = nI (a j)) ∧
    (∀ p, bS w.2.1 p ↔ if k = 0 then fpl L R (bS x) p else (p < 20 ∧ L p = eg R a k))) (fun w => 20 - w.2.2.1.toNatClampNeg) ?_ _ ⟨0, fun _ => 0, by have := fb_ct_le (bt x) 20; try dsimp only; omega, rfl, fun i hi => absurd hi (Nat.not_lt_zero i), (rs_0 _ _).symm, Or.inl ⟨rfl, by rw [rs_0]; exact hc, by rw [rs_0]; exact hs⟩, ⟨rfl, fun _ _ => rfl⟩, fun j hj => absurd hj (Nat.not_lt_zero j), ho0⟩
  rintro K ⟨y, o, x5, τ⟩ ⟨k, a, hk, ek, hsq, ey, hcan, ke, h0, hob⟩ kk
  try dsimp only at ek hk hsq ey hcan ke h0 hob kk
  subst ek
  have hyS : ∀ q, bS y q → bS x q := fun q h => by rw [ey] at h; exact h.1
  have hy : ∀ q, bS y q → q < 20 := fun q h => hx q (hyS q h)
  have hoS : okS L R (rs (bS x) a k) := hS.sub (fun p z => z.1)
  dsimp only [wx_X1_writeFirstRow_outRow_L12]
  refine ⟨fun c => ?_, fun c => ⟨fun c2 => ?_, fun c2 => ?_⟩⟩
  · have h20 := ge20 (by omega) c
    refine hq k a τ (by omega) hsq (fun p hp => ?_) ke h0
    rw [← ey] at hp
    exact ct_none hy (by omega) p hp
  · refine hq k a τ (by omega) hsq (fun p hp => ?_) ke h0
    rw [← ey] at hp
    exact b_no.mp c2 p hp
  have hlt := lt20 (by omega) c
  have hst : ∀ p, (bS (o &&& y) p ∧ gon L R (bS y) p) ↔ nxR L R (rs (bS x) a k) (eg R a k) p := by
    intro p
    have e1 : bS (o &&& y) p ↔ bS o p ∧ bS y p := b_andT _ _ _
    rw [e1, hob p, ey]
    by_cases z : k = 0
    · subst z
      rw [if_pos rfl, rs_0, show eg R a 0 = 0 from rfl, ← nx_first hS hs]
      exact ⟨fun w => ⟨w.1.1, w.2⟩, fun w => ⟨⟨w.1, w.1.1⟩, w.2⟩⟩
    · rw [if_neg z]
      rcases hcan with ⟨e0, _⟩ | ⟨e0, hrf⟩
      · obtain ⟨j, rfl⟩ : ∃ j, k = j + 1 := ⟨k - 1, by omega⟩
        have e2 : R (a j) = 0 := by
          unfold eg at e0
          rw [if_neg z] at e0
          exact e0
        exact absurd e2 (hR _ ((hsq j (by omega)).1.1.1))
      · rw [← nx_next hoS e0 (rf_ex hrf)]
        exact ⟨fun w => ⟨w.1.2, w.1.1.2, w.2⟩, fun w => ⟨⟨⟨hx p w.1.1, w.2.1⟩, w.1⟩, w.2.2⟩⟩
  obtain ⟨q0, hq0, _⟩ := lst_bit hy c2
  obtain ⟨p1, hp1⟩ := nx_some hoS hcan (q0 := q0) (by rw [← ey]; exact hq0)
  refine x_least (hE.keep ke) hy ⟨p1, (hst p1).mpr hp1⟩ (fun p h => hy p ((b_andT _ _ _).mp h).2) (fun p hp20 hpo hpg hmin => ?_)
  have hnx := (hst p).mp ⟨hpo, hpg⟩
  refine ⟨fun _ => ⟨nI_in hlt (by decide), fun σ3 e3 a4 e4 a5 e5 => ⟨nI_in hp20 (by decide), fun a6 e6 => ?_⟩⟩, fun c3 => ?_⟩
  · subst e4
    obtain ⟨s1, s2⟩ := sq_s hsq hnx (fun q h z => hmin q h ((hst q).mpr z))
    have ke3 : keepA 0 σ σ3 := by rw [e3]; exact ke.trans (keepA.sA 0 τ _ _)
    refine kk _ ⟨k + 1, _, ?_, nI_1 k, s1, ?_, ?_, ke3, fun j hj => ?_, fun q => ?_⟩ ?_
    · try dsimp only
      have hb : ∀ q, bt a5 q = true ↔ bt y q = true ∧ q ≠ p := fun q => by rw [e5, b_rm y (by omega)]
      have hyp : bS y p := by rw [ey]; exact hnx.1
      have := ct_lt (p := bt a5) (q := bt y) hp20 (fun q _ h => ((hb q).mp h).1) (ts_nt (fun z => ((hb p).mp z).2 rfl)) hyp
      omega
    · try dsimp only
      rw [e5, bS_rm y (by omega), ey, s2]
    · rw [s2, eg_s]
      exact nx_can (hR p (hnx.1.1)) hnx
    · try dsimp only
      rw [e3, a_sA τ 0 (by omega)]
      by_cases z : j = k
      · rw [if_pos ⟨rfl, z⟩, if_pos z]
      · rw [if_neg (fun w => z w.2), if_neg z]; exact h0 j (by omega)
    · try dsimp only
      rw [if_neg (by omega), eg_s, e6, aI_nI σ3 9 (by omega), ke3.2 9 (by omega)]
      exact (hE p hp20 q).2.2
    · try dsimp only
      rw [nI_1, nI_clamp (by omega), nI_clamp (by omega)]; omega
  · exfalso
    rw [fa_eq, nI_toInt (by omega)] at c3
    have : (-1 : Int32).toInt = -1 := by decide
    omega
end XWRITE
