theorem x_mp0 {Q : Int32 → Prop} {x : Int32} : wx_X5_motifPoint Q x 0 ↔ Q (21 + 2 * x) := by
  unfold wx_X5_motifPoint
  rw [show (21 : Int32) + 2 * x + 0 = 21 + 2 * x from Int32.add_zero _]
  exact ⟨fun h => h.1 rfl, fun h => i_t rfl h⟩
theorem x_mp1 {Q : Int32 → Prop} {x : Int32} : wx_X5_motifPoint Q x 1 ↔ Q (21 + 2 * x + 1) := by
  unfold wx_X5_motifPoint
  exact ⟨fun h => h.2 (by decide), fun h => i_f (by decide) h⟩
theorem x_pp {Q : Int32 → Prop} {x : Int32} : wx_X5_platePoint Q x ↔ Q (1 + x) := Iff.rfl
theorem pp_nI (j : Nat) : (1 : Int32) + nI j = nI (1 + j) := nI_add 1 j
theorem mp_nI (j : Nat) : (21 : Int32) + 2 * nI j = nI (21 + 2 * j) := by
  show nI 21 + nI 2 * nI j = _
  rw [pk_mul, nI_add]
theorem mp1_nI (j : Nat) : (21 : Int32) + 2 * nI j + 1 = nI (22 + 2 * j) := by
  rw [mp_nI]; show nI (21 + 2 * j) + nI 1 = _; rw [nI_add]; congr 1; omega
/-- a fact told: both refuse alike, or both take it (two limits) -/
theorem fin2 {P Mo F : Nat} {σx σm : wS} (h : Rel σx σm) (h0 : Rel0 P Mo σx σm) (hF : F ≤ 100) (f2 : σx.1 4 = nI F) (f3 : σm.1 4 = nI F) (f4 : ∀ f, F ≤ f → f < 100 → σx.2.2.1 13 f = 0)
    (f5 : ∀ f, f < F → rFact P Mo (σx.2.2.1 10 f) (σx.2.2.1 11 f) (σx.2.2.1 12 f) (σx.2.2.1 13 f) (σx.2.2.1 14 (2 * f)) (σx.2.2.1 15 (2 * f)) (σx.2.2.1 16 (2 * f)) (σx.2.2.1 14 (2 * f + 1)) (σx.2.2.1 15 (2 * f + 1)) (σx.2.2.1 16 (2 * f + 1)) (σm.2.2.1 0 f) (σm.2.2.1 1 f) (σm.2.2.1 2 f) (σm.2.2.1 3 f) (σm.2.2.1 4 f) (σm.2.2.1 5 f))
    {A B : Prop} [Decidable A] [Decidable B] {kd day t0 h0' l0 t1 h1 l1 a b d : Int32} (hn : A → B → rFact P Mo kd day (-1) 2 t0 h0' l0 t1 h1 l1 kd a b d day (-1)) {K : Int32 → wS → Prop}
    (k1 : ¬ A → K (-1) (sI σx 3 1)) (k2 : A → ¬ B → K (-1) (sI σx 3 2)) (k3 : A → B → ∀ (r1 : Int32) (σx1 : wS), wm_X6_adds (fun r2 σm1 => r1 = r2 ∧ Rel σx1 σm1) kd a b d day (sI (sI σm 1 0) 0 0) → K r1 σx1) :
    wx_X5_whyNoFact (fun r => ((r = 0 → wx_X2_tell (fun r1 σ2 => wx_X2_addLimit (fun σ3 => wx_X2_addLimit (fun σ4 => K r1 (sI σ4 3 0)) t1 h1 l1 σ3) t0 h0' l0 σ2) kd day σx) ∧ (¬ r = 0 → K (-1) (sI σx 3 r)))) (b2 A) (b2 B) σx := by
  rw [x_whyNoFact, f2]
  by_cases a1 : A
  · rw [if_pos a1]
    by_cases b1 : B
    · rw [if_pos b1]
      by_cases c1 : nI F < 100
      · rw [if_pos c1]
        exact i_t rfl (fact2 h h0 ((nI_ltI (b := 100) (by omega) (by omega)).mp c1) f2 f3 f4 f5 (hn a1 b1) (k3 a1 b1))
      · rw [if_neg c1]
        have hFe : F = 100 := by
          have : ¬ F < 100 := fun z => c1 ((nI_ltI (b := 100) (by omega) (by omega)).mpr z)
          omega
        exact i_f (by decide) (k3 a1 b1 _ _ (m_adds (F := F) hF f3 (fun _ => ⟨rfl, rel_no h 3⟩) (fun z => by omega)))
    · rw [if_neg b1]
      exact i_f (by decide) (k2 a1 b1)
  · rw [if_neg a1]
    exact i_f (by decide) (k1 a1)
theorem fin1 {P Mo F : Nat} {σx σm : wS} (h : Rel σx σm) (h0 : Rel0 P Mo σx σm) (hF : F ≤ 100) (f2 : σx.1 4 = nI F) (f3 : σm.1 4 = nI F) (f4 : ∀ f, F ≤ f → f < 100 → σx.2.2.1 13 f = 0)
    (f5 : ∀ f, f < F → rFact P Mo (σx.2.2.1 10 f) (σx.2.2.1 11 f) (σx.2.2.1 12 f) (σx.2.2.1 13 f) (σx.2.2.1 14 (2 * f)) (σx.2.2.1 15 (2 * f)) (σx.2.2.1 16 (2 * f)) (σx.2.2.1 14 (2 * f + 1)) (σx.2.2.1 15 (2 * f + 1)) (σx.2.2.1 16 (2 * f + 1)) (σm.2.2.1 0 f) (σm.2.2.1 1 f) (σm.2.2.1 2 f) (σm.2.2.1 3 f) (σm.2.2.1 4 f) (σm.2.2.1 5 f))
    {A B : Prop} [Decidable A] [Decidable B] {kd day t0 h0' l0 a b d : Int32} (hn : A → B → ∀ t1 h1 l1, rFact P Mo kd day (-1) 1 t0 h0' l0 t1 h1 l1 kd a b d day (-1)) {K : Int32 → wS → Prop}
    (k1 : ¬ A → K (-1) (sI σx 3 1)) (k2 : A → ¬ B → K (-1) (sI σx 3 2)) (k3 : A → B → ∀ (r1 : Int32) (σx1 : wS), wm_X6_adds (fun r2 σm1 => r1 = r2 ∧ Rel σx1 σm1) kd a b d day (sI (sI σm 1 0) 0 0) → K r1 σx1) :
    wx_X5_whyNoFact (fun r => ((r = 0 → wx_X2_tell (fun r1 σ2 => wx_X2_addLimit (fun σ3 => K r1 (sI σ3 3 0)) t0 h0' l0 σ2) kd day σx) ∧ (¬ r = 0 → K (-1) (sI σx 3 r)))) (b2 A) (b2 B) σx := by
  rw [x_whyNoFact, f2]
  by_cases a1 : A
  · rw [if_pos a1]
    by_cases b1 : B
    · rw [if_pos b1]
      by_cases c1 : nI F < 100
      · rw [if_pos c1]
        exact i_t rfl (fact1 h h0 ((nI_ltI (b := 100) (by omega) (by omega)).mp c1) f2 f3 f4 f5 (hn a1 b1) (k3 a1 b1))
      · rw [if_neg c1]
        have hFe : F = 100 := by
          have : ¬ F < 100 := fun z => c1 ((nI_ltI (b := 100) (by omega) (by omega)).mpr z)
          omega
        exact i_f (by decide) (k3 a1 b1 _ _ (m_adds (F := F) hF f3 (fun _ => ⟨rfl, rel_no h 3⟩) (fun z => by omega)))
    · rw [if_neg b1]
      exact i_f (by decide) (k2 a1 b1)
  · rw [if_neg a1]
    exact i_f (by decide) (k1 a1)
theorem day_of {x : Int32} (h : isR x 0 9999) : 0 ≤ x.toInt ∧ x.toInt ≤ 9999 := by
  have := isR_of h
  have z0 : (0 : Int32).toInt = 0 := by decide
  have z9 : (9999 : Int32).toInt = 9999 := by decide
  omega
theorem r_shows : rT_shows Rel := by
  intro σx σm x1 x2 x3 h
  obtain ⟨hs, P, Mo, h0⟩ := id h
  obtain ⟨p1, p2, p3, p4, p5, p6, hO, ⟨F, f1, f2, f3, f4, f5⟩, hE, hC, hR⟩ := id h0
  have eP : (sI (sI σm 1 0) 0 0).1 2 = nI P := p4
  have eM : (sI (sI σm 1 0) 0 0).1 3 = nI Mo := p6
  have M : ∀ (Q : Int32 → wS → Prop), (¬ (isN x1 (nI P) ∧ isN x2 (nI Mo)) → Q (-1) (sI (sI (sI σm 1 0) 0 0) 0 1)) → (isN x1 (nI P) ∧ isN x2 (nI Mo) → ¬ isR x3 0 9999 → Q (-1) (sI (sI (sI σm 1 0) 0 0) 0 2)) → (isN x1 (nI P) ∧ isN x2 (nI Mo) → isR x3 0 9999 → wm_X6_adds Q 0 x1 x2 0 x3 (sI (sI σm 1 0) 0 0)) → wm_X6_shows Q x1 x2 x3 σm := by
    intro Q k1 k2 k3 σ1 e1 σ2 e2
    subst e1; subst e2
    rw [m_isPlate, eP]
    by_cases a : isN x1 (nI P)
    · refine q_t a ?_
      rw [m_isMotif, eM]
      by_cases b : isN x2 (nI Mo)
      · refine q_t' b ?_
        rw [m_isDay]
        by_cases c : isR x3 0 9999
        · exact q_t c (k3 ⟨a, b⟩ c)
        · exact q_f c (m_refuse.mpr (k2 ⟨a, b⟩ c))
      · exact q_f' b (m_refuse.mpr (k1 (fun z => b z.2)))
    · exact q_f a (m_refuse.mpr (k1 (fun z => a z.1)))
  have fin : ∀ s1 : Int32, s1 = b2 (isN x1 (nI P) ∧ isN x2 (nI Mo)) → wx_X5_shows_J22 (fun r1 σx1 => wm_X6_shows (fun r2 σm1 => r1 = r2 ∧ Rel σx1 σm1) x1 x2 x3 σm) x1 x2 x3 s1 σx := by
    intro s1 e1
    subst e1
    unfold wx_X5_shows_J22
    simp only [x_isDay, x_pp, x_mp0, x_mp1, x_answer, x_refuse]
    refine fin2 h h0 f1 f2 f3 f4 f5 (kd := 0) (a := x1) (b := x2) (d := 0) (fun a b => ?_) (fun a => M _ (fun _ => ⟨rfl, rel_no h 1⟩) (fun z => absurd z a) (fun z => absurd z a)) (fun a b => M _ (fun z => absurd a z) (fun _ _ => ⟨rfl, rel_no h 2⟩) (fun _ z => absurd z b)) (fun a b r1 σx1 hq => M _ (fun z => absurd a z) (fun _ z => absurd b z) (fun _ _ => hq))
    obtain ⟨a1, a2⟩ := a
    obtain ⟨p, hp, rfl⟩ := isN_of (by omega) a1
    obtain ⟨q, hq, rfl⟩ := isN_of (by omega) a2
    exact ⟨rfl, rfl, rfl, day_of b, by decide, Or.inl ⟨rfl, rfl, p, q, hp, hq, rfl, rfl, pp_nI p, mp_nI q, rfl, mp1_nI q, pp_nI p, rfl⟩⟩
  unfold wx_X5_shows
  rw [x_isPlate, p3]
  by_cases a : isN x1 (nI P)
  · refine q_t a ?_
    rw [x_isMotif, p5]
    by_cases b : isN x2 (nI Mo)
    · exact q_t b (fin 1 (b2_t ⟨a, b⟩).symm)
    · exact q_f b (fin 0 (b2_f (fun z => b z.2)).symm)
  · exact q_f a (fin 0 (b2_f (fun z => a z.1)).symm)
theorem r_same : rT_same Rel := by
  intro σx σm x1 x2 x3 h
  obtain ⟨hs, P, Mo, h0⟩ := id h
  obtain ⟨p1, p2, p3, p4, p5, p6, hO, ⟨F, f1, f2, f3, f4, f5⟩, hE, hC, hR⟩ := id h0
  have eP : (sI (sI σm 1 0) 0 0).1 2 = nI P := p4
  have M : ∀ (Q : Int32 → wS → Prop), (¬ (isN x1 (nI P) ∧ isN x2 (nI P) ∧ x1 ≠ x2) → Q (-1) (sI (sI (sI σm 1 0) 0 0) 0 1)) → (isN x1 (nI P) ∧ isN x2 (nI P) ∧ x1 ≠ x2 → ¬ isR x3 0 9999 → Q (-1) (sI (sI (sI σm 1 0) 0 0) 0 2)) → (isN x1 (nI P) ∧ isN x2 (nI P) ∧ x1 ≠ x2 → isR x3 0 9999 → wm_X6_adds Q 5 x1 x2 0 x3 (sI (sI σm 1 0) 0 0)) → wm_X6_same Q x1 x2 x3 σm := by
    intro Q k1 k2 k3 σ1 e1 σ2 e2
    subst e1; subst e2
    rw [m_isPlate, eP]
    by_cases a : isN x1 (nI P)
    · refine q_t a ?_
      rw [m_isPlate, eP]
      by_cases b : isN x2 (nI P)
      · refine q_t b ?_
        by_cases d : x1 = x2
        · exact i_t' d (m_refuse.mpr (k1 (fun z => z.2.2 d)))
        · refine i_f' d ?_
          rw [m_isDay]
          by_cases c : isR x3 0 9999
          · exact q_t c (k3 ⟨a, b, d⟩ c)
          · exact q_f c (m_refuse.mpr (k2 ⟨a, b, d⟩ c))
      · exact q_f b (m_refuse.mpr (k1 (fun z => b z.2.1)))
    · exact q_f a (m_refuse.mpr (k1 (fun z => a z.1)))
  unfold wx_X5_same
  rw [x_areTwo, p3]
  simp only [x_isDay, x_pp, x_mp0, x_mp1, x_answer, x_refuse]
  refine fin2 h h0 f1 f2 f3 f4 f5 (kd := 5) (a := x1) (b := x2) (d := 0) (fun a b => ?_) (fun a => M _ (fun _ => ⟨rfl, rel_no h 1⟩) (fun z => absurd z a) (fun z => absurd z a)) (fun a b => M _ (fun z => absurd a z) (fun _ _ => ⟨rfl, rel_no h 2⟩) (fun _ z => absurd z b)) (fun a b r1 σx1 hq => M _ (fun z => absurd a z) (fun _ z => absurd b z) (fun _ _ => hq))
  obtain ⟨a1, a2, a3⟩ := a
  obtain ⟨p, hp, rfl⟩ := isN_of (by omega) a1
  obtain ⟨q, hq, rfl⟩ := isN_of (by omega) a2
  exact ⟨rfl, rfl, rfl, day_of b, by decide, Or.inr (Or.inr (Or.inr ⟨rfl, rfl, p, q, hp, hq, fun e => a3 (by rw [e]), rfl, rfl, pp_nI p, pp_nI q, rfl, pp_nI q, pp_nI p, rfl⟩))⟩
theorem r_ahead : rT_ahead Rel := by
  intro σx σm x1 x2 x3 x4 h
  obtain ⟨hs, P, Mo, h0⟩ := id h
  obtain ⟨p1, p2, p3, p4, p5, p6, hO, ⟨F, f1, f2, f3, f4, f5⟩, hE, hC, hR⟩ := id h0
  have eP : (sI (sI σm 1 0) 0 0).1 2 = nI P := p4
  have M : ∀ (Q : Int32 → wS → Prop), (¬ (isN x1 (nI P) ∧ isN x2 (nI P) ∧ x1 ≠ x2) → Q (-1) (sI (sI (sI σm 1 0) 0 0) 0 1)) → (isN x1 (nI P) ∧ isN x2 (nI P) ∧ x1 ≠ x2 → ¬ (isR x3 (-100000) 100000 ∧ isR x4 0 9999) → Q (-1) (sI (sI (sI σm 1 0) 0 0) 0 2)) → (isN x1 (nI P) ∧ isN x2 (nI P) ∧ x1 ≠ x2 → isR x3 (-100000) 100000 ∧ isR x4 0 9999 → wm_X6_adds Q 1 x1 x2 x3 x4 (sI (sI σm 1 0) 0 0)) → wm_X6_ahead Q x1 x2 x3 x4 σm := by
    intro Q k1 k2 k3 σ1 e1 σ2 e2
    subst e1; subst e2
    rw [m_isPlate, eP]
    by_cases a : isN x1 (nI P)
    · refine q_t a ?_
      rw [m_isPlate, eP]
      by_cases b : isN x2 (nI P)
      · refine q_t b ?_
        by_cases d : x1 = x2
        · exact i_t' d (m_refuse.mpr (k1 (fun z => z.2.2 d)))
        · refine i_f' d ?_
          rw [m_isDay]
          by_cases c : isR x4 0 9999
          · refine q_t c ?_
            by_cases e1 : x3 < -100000
            · exact i_t e1 (m_refuse.mpr (k2 ⟨a, b, d⟩ (fun z => z.1.1 e1)))
            refine i_f e1 ?_
            by_cases e2 : 100000 < x3
            · exact i_t e2 (m_refuse.mpr (k2 ⟨a, b, d⟩ (fun z => z.1.2 e2)))
            exact i_f e2 (k3 ⟨a, b, d⟩ ⟨⟨e1, e2⟩, c⟩)
          · exact q_f c (m_refuse.mpr (k2 ⟨a, b, d⟩ (fun z => c z.2)))
      · exact q_f b (m_refuse.mpr (k1 (fun z => b z.2.1)))
    · exact q_f a (m_refuse.mpr (k1 (fun z => a z.1)))
  have fin : ∀ s2 : Int32, s2 = b2 (isR x3 (-100000) 100000 ∧ isR x4 0 9999) → wx_X5_ahead_J31 (fun r1 σx1 => wm_X6_ahead (fun r2 σm1 => r1 = r2 ∧ Rel σx1 σm1) x1 x2 x3 x4 σm) x1 x2 x3 x4 (b2 (isN x1 (nI P) ∧ isN x2 (nI P) ∧ x1 ≠ x2)) s2 σx := by
    intro s2 e2
    subst e2
    unfold wx_X5_ahead_J31
    simp only [x_pp, x_answer, x_refuse]
    refine fin1 h h0 f1 f2 f3 f4 f5 (kd := 1) (a := x1) (b := x2) (d := x3) (fun a b => ?_) (fun a => M _ (fun _ => ⟨rfl, rel_no h 1⟩) (fun z => absurd z a) (fun z => absurd z a)) (fun a b => M _ (fun z => absurd a z) (fun _ _ => ⟨rfl, rel_no h 2⟩) (fun _ z => absurd z b)) (fun a b r1 σx1 hq => M _ (fun z => absurd a z) (fun _ z => absurd b z) (fun _ _ => hq))
    obtain ⟨a1, a2, a3⟩ := a
    obtain ⟨b1, b3⟩ := b
    obtain ⟨p, hp, rfl⟩ := isN_of (by omega) a1
    obtain ⟨q, hq, rfl⟩ := isN_of (by omega) a2
    have hr := isR_of b1
    have z0 : (-100000 : Int32).toInt = -100000 := by decide
    have z9 : (100000 : Int32).toInt = 100000 := by decide
    exact fun _ _ _ => ⟨rfl, rfl, rfl, day_of b3, by decide, Or.inr (Or.inl ⟨rfl, rfl, p, q, hp, hq, fun e => a3 (by rw [e]), rfl, rfl, by omega, by omega, pp_nI q, pp_nI p, rfl⟩)⟩
  unfold wx_X5_ahead
  rw [x_areTwo, p3, x_isWithin]
  by_cases a : isR x3 (-100000) 100000
  · refine q_t a ?_
    rw [x_isDay]
    by_cases b : isR x4 0 9999
    · exact q_t b (fin 1 (b2_t ⟨a, b⟩).symm)
    · exact q_f b (fin 0 (b2_f (fun z => b z.2)).symm)
  · exact q_f a (fin 0 (b2_f (fun z => a z.1)).symm)
theorem rng_of {a b : Int32} (h : ¬ a < 0 ∧ ¬ b < a ∧ ¬ 100000 < b) : 0 ≤ a.toInt ∧ a.toInt ≤ b.toInt ∧ b.toInt ≤ 100000 := by
  obtain ⟨h1, h2, h3⟩ := h
  have z0 : (0 : Int32).toInt = 0 := by decide
  have z9 : (100000 : Int32).toInt = 100000 := by decide
  rw [fa_lt] at h1 h2 h3
  omega
theorem r_taken : rT_taken Rel := by
  intro σx σm x1 x2 x3 x4 h
  obtain ⟨hs, P, Mo, h0⟩ := id h
  obtain ⟨p1, p2, p3, p4, p5, p6, hO, ⟨F, f1, f2, f3, f4, f5⟩, hE, hC, hR⟩ := id h0
  have eP : (sI (sI σm 1 0) 0 0).1 2 = nI P := p4
  have M : ∀ (Q : Int32 → wS → Prop), (¬ isN x1 (nI P) → Q (-1) (sI (sI (sI σm 1 0) 0 0) 0 1)) → (isN x1 (nI P) → ¬ ((¬ x2 < 0 ∧ ¬ x3 < x2 ∧ ¬ 100000 < x3) ∧ isR x4 0 9999) → Q (-1) (sI (sI (sI σm 1 0) 0 0) 0 2)) → (isN x1 (nI P) → (¬ x2 < 0 ∧ ¬ x3 < x2 ∧ ¬ 100000 < x3) ∧ isR x4 0 9999 → wm_X6_adds Q 2 x1 x2 x3 x4 (sI (sI σm 1 0) 0 0)) → wm_X6_taken Q x1 x2 x3 x4 σm := by
    intro Q k1 k2 k3 σ1 e1 σ2 e2
    subst e1; subst e2
    rw [m_isPlate, eP]
    by_cases a : isN x1 (nI P)
    · refine q_t' a ?_
      rw [m_isTime]
      by_cases b : isR x2 0 100000
      · refine q_t b ?_
        rw [m_isTime]
        by_cases c : isR x3 0 100000
        · refine q_t c ?_
          by_cases d : x3 < x2
          · exact i_t d (m_refuse.mpr (k2 a (fun z => z.1.2.1 d)))
          refine i_f d ?_
          rw [m_isDay]
          by_cases e : isR x4 0 9999
          · exact q_t e (k3 a ⟨⟨b.1, d, c.2⟩, e⟩)
          · exact q_f e (m_refuse.mpr (k2 a (fun z => e z.2)))
        · refine q_f c (m_refuse.mpr (k2 a (fun z => c ⟨fun y => ?_, z.1.2.2⟩)))
          have := rng_of z.1
          rw [fa_lt, show (0 : Int32).toInt = 0 by decide] at y
          omega
      · refine q_f b (m_refuse.mpr (k2 a (fun z => b ⟨z.1.1, fun y => ?_⟩)))
        have := rng_of z.1
        rw [fa_lt, show (100000 : Int32).toInt = 100000 by decide] at y
        omega
    · exact q_f' a (m_refuse.mpr (k1 a))
  have fin : ∀ s2 : Int32, s2 = b2 ((¬ x2 < 0 ∧ ¬ x3 < x2 ∧ ¬ 100000 < x3) ∧ isR x4 0 9999) → wx_X5_taken_J27 (fun r1 σx1 => wm_X6_taken (fun r2 σm1 => r1 = r2 ∧ Rel σx1 σm1) x1 x2 x3 x4 σm) x1 x2 x3 x4 (b2 (isN x1 (nI P))) s2 σx := by
    intro s2 e2
    subst e2
    unfold wx_X5_taken_J27
    simp only [x_pp, x_answer, x_refuse, wx_X5_tellRange]
    refine fin2 h h0 f1 f2 f3 f4 f5 (kd := 2) (a := x1) (b := x2) (d := x3) (fun a b => ?_) (fun a => M _ (fun _ => ⟨rfl, rel_no h 1⟩) (fun z => absurd z a) (fun z => absurd z a)) (fun a b => M _ (fun z => absurd a z) (fun _ _ => ⟨rfl, rel_no h 2⟩) (fun _ z => absurd z b)) (fun a b r1 σx1 hq => M _ (fun z => absurd a z) (fun _ z => absurd b z) (fun _ _ => hq))
    obtain ⟨b1, b3⟩ := b
    obtain ⟨p, hp, rfl⟩ := isN_of (by omega) a
    obtain ⟨r1, r2, r3⟩ := rng_of b1
    exact ⟨rfl, rfl, rfl, day_of b3, by decide, Or.inr (Or.inr (Or.inl ⟨Or.inl ⟨rfl, p, hp, rfl, pp_nI p⟩, rfl, r1, r2, r3, rfl, rfl, rfl, rfl, rfl⟩))⟩
  unfold wx_X5_taken
  rw [x_isPlate, p3, x_isTimeRange]
  by_cases a : ¬ x2 < 0 ∧ ¬ x3 < x2 ∧ ¬ 100000 < x3
  · refine q_t a ?_
    rw [x_isDay]
    by_cases b : isR x4 0 9999
    · exact q_t b (fin 1 (b2_t ⟨a, b⟩).symm)
    · exact q_f b (fin 0 (b2_f (fun z => b z.2)).symm)
  · exact q_f a (fin 0 (b2_f (fun z => a z.1)).symm)
theorem r_stood : rT_stood Rel := by
  intro σx σm x1 x2 x3 x4 x5 h01 h
  obtain ⟨hs, P, Mo, h0⟩ := id h
  obtain ⟨p1, p2, p3, p4, p5, p6, hO, ⟨F, f1, f2, f3, f4, f5⟩, hE, hC, hR⟩ := id h0
  have eM : (sI (sI σm 1 0) 0 0).1 3 = nI Mo := p6
  obtain ⟨kd, hkd⟩ : ∃ k : Int32, k = if x2 = 0 then 3 else 4 := ⟨_, rfl⟩
  have M : ∀ (Q : Int32 → wS → Prop), (¬ isN x1 (nI Mo) → Q (-1) (sI (sI (sI σm 1 0) 0 0) 0 1)) → (isN x1 (nI Mo) → ¬ ((¬ x3 < 0 ∧ ¬ x4 < x3 ∧ ¬ 100000 < x4) ∧ isR x5 0 9999) → Q (-1) (sI (sI (sI σm 1 0) 0 0) 0 2)) → (isN x1 (nI Mo) → (¬ x3 < 0 ∧ ¬ x4 < x3 ∧ ¬ 100000 < x4) ∧ isR x5 0 9999 → wm_X6_adds Q kd x1 x3 x4 x5 (sI (sI σm 1 0) 0 0)) → wm_X6_stood Q x1 x2 x3 x4 x5 σm := by
    intro Q k1 k2 k3 σ1 e1 σ2 e2
    subst e1; subst e2
    rw [m_isMotif, eM]
    by_cases a : isN x1 (nI Mo)
    · refine q_t' a ?_
      rw [m_isTime]
      by_cases b : isR x3 0 100000
      · refine q_t b ?_
        rw [m_isTime]
        by_cases c : isR x4 0 100000
        · refine q_t c ?_
          by_cases d : x4 < x3
          · exact i_t d (m_refuse.mpr (k2 a (fun z => z.1.2.1 d)))
          refine i_f d ?_
          rw [m_isDay]
          by_cases e : isR x5 0 9999
          · have hq := k3 a ⟨⟨b.1, d, c.2⟩, e⟩
            refine q_t e ?_
            by_cases z : x2 = 0
            · rw [if_pos z] at hkd; rw [hkd] at hq; exact i_t z hq
            · rw [if_neg z] at hkd; rw [hkd] at hq; exact i_f z hq
          · exact q_f e (m_refuse.mpr (k2 a (fun z => e z.2)))
        · refine q_f c (m_refuse.mpr (k2 a (fun z => c ⟨fun y => ?_, z.1.2.2⟩)))
          have := rng_of z.1
          rw [fa_lt, show (0 : Int32).toInt = 0 by decide] at y
          omega
      · refine q_f b (m_refuse.mpr (k2 a (fun z => b ⟨z.1.1, fun y => ?_⟩)))
        have := rng_of z.1
        rw [fa_lt, show (100000 : Int32).toInt = 100000 by decide] at y
        omega
    · exact q_f' a (m_refuse.mpr (k1 a))
  have X : ∀ (Q : Int32 → wS → Prop) (s1 s2 : Int32) (pt : Int32), pt = 21 + 2 * x1 + x2 → wx_X5_whyNoFact (fun r1 => ((r1 = 0 → wx_X5_tellRange (fun r3 σ4 => Q r3 σ4) kd pt x3 x4 x5 σx) ∧ (¬ r1 = 0 → wx_X5_refuse (fun r3 σ4 => Q r3 σ4) r1 σx))) s1 s2 σx → wx_X5_stood_J28 Q x1 x2 x3 x4 x5 s1 s2 σx := by
    intro Q s1 s2 pt hpt hq
    have e : (fun r1 : Int32 => ((r1 = 0 → wx_X5_tellRange (fun r3 σ4 => Q r3 σ4) kd pt x3 x4 x5 σx) ∧ (¬ r1 = 0 → wx_X5_refuse (fun r3 σ4 => Q r3 σ4) r1 σx))) = (fun r1 : Int32 => ((r1 = 0 → ((x2 = 0 → wx_X5_stood_J55 Q x1 x2 x3 x4 x5 3 σx) ∧ (¬ x2 = 0 → wx_X5_stood_J55 Q x1 x2 x3 x4 x5 4 σx))) ∧ (¬ r1 = 0 → wx_X5_refuse (fun r3 σ4 => Q r3 σ4) r1 σx))) := by
      funext r1
      congr 1
      apply propext
      unfold wx_X5_stood_J55
      rcases h01 with z | z
      · subst z
        rw [if_pos rfl] at hkd
        rw [hkd, hpt, Int32.add_zero]
        simp only [x_mp0]
        simp
      · subst z
        rw [if_neg (by decide)] at hkd
        rw [hkd, hpt]
        simp only [x_mp1]
        simp
    unfold wx_X5_stood_J28
    rw [← e]
    exact hq
  have fin : ∀ s2 : Int32, s2 = b2 ((¬ x3 < 0 ∧ ¬ x4 < x3 ∧ ¬ 100000 < x4) ∧ isR x5 0 9999) → wx_X5_stood_J28 (fun r1 σx1 => wm_X6_stood (fun r2 σm1 => r1 = r2 ∧ Rel σx1 σm1) x1 x2 x3 x4 x5 σm) x1 x2 x3 x4 x5 (b2 (isN x1 (nI Mo))) s2 σx := by
    intro s2 e2
    subst e2
    refine X _ _ _ _ rfl ?_
    simp only [x_answer, x_refuse, wx_X5_tellRange]
    refine fin2 h h0 f1 f2 f3 f4 f5 (kd := kd) (a := x1) (b := x3) (d := x4) (fun a b => ?_) (fun a => M _ (fun _ => ⟨rfl, rel_no h 1⟩) (fun z => absurd z a) (fun z => absurd z a)) (fun a b => M _ (fun z => absurd a z) (fun _ _ => ⟨rfl, rel_no h 2⟩) (fun _ z => absurd z b)) (fun a b r1 σx1 hq => M _ (fun z => absurd a z) (fun _ z => absurd b z) (fun _ _ => hq))
    obtain ⟨b1, b3⟩ := b
    obtain ⟨p, hp, rfl⟩ := isN_of (by omega) a
    obtain ⟨r1, r2, r3⟩ := rng_of b1
    refine ⟨rfl, rfl, rfl, day_of b3, by decide, Or.inr (Or.inr (Or.inl ⟨Or.inr ?_, rfl, r1, r2, r3, rfl, rfl, rfl, rfl, rfl⟩))⟩
    rcases h01 with z | z
    · subst z
      rw [if_pos rfl] at hkd
      exact Or.inl ⟨hkd, p, hp, rfl, by rw [Int32.add_zero]; exact mp_nI p⟩
    · subst z
      rw [if_neg (by decide)] at hkd
      exact Or.inr ⟨hkd, p, hp, rfl, mp1_nI p⟩
  unfold wx_X5_stood
  rw [x_isMotif, p5, x_isTimeRange]
  by_cases a : ¬ x3 < 0 ∧ ¬ x4 < x3 ∧ ¬ 100000 < x4
  · refine q_t a ?_
    rw [x_isDay]
    by_cases b : isR x5 0 9999
    · exact q_t b (fin 1 (b2_t ⟨a, b⟩).symm)
    · exact q_f b (fin 0 (b2_f (fun z => b z.2)).symm)
  · exact q_f a (fin 0 (b2_f (fun z => a z.1)).symm)
