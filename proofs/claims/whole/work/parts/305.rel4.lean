theorem rFact_c {P Mo : Nat} {k t c n t0 h0 l0 t1 h1 l1 mk a b d mt mc : Int32} (h : rFact P Mo k t c n t0 h0 l0 t1 h1 l1 mk a b d mt mc) {v : Int32} (hv : -1 ≤ v.toInt ∧ v.toInt ≤ 9999) : rFact P Mo k t v n t0 h0 l0 t1 h1 l1 mk a b d mt v := by
  obtain ⟨e1, e2, e3, e4, e5, h⟩ := h
  exact ⟨e1, e2, rfl, e4, hv, h⟩
theorem neg1_of {c : Int32} (h : -1 ≤ c.toInt) : c = -1 ↔ c < 0 := by
  have h1 : (-1 : Int32).toInt = -1 := by decide
  have h0 : (0 : Int32).toInt = 0 := by decide
  rw [fa_eq, fa_lt, h1, h0]; omega
theorem r_cross : rT_cross Rel := by
  intro σx σm x1 x2 h
  obtain ⟨hs, P, Mo, h0⟩ := id h
  obtain ⟨p1, p2, p3, p4, p5, p6, hO, ⟨F, f1, f2, f3, f4, f5⟩, hE, hC, hR⟩ := h0
  have J : ∀ (Q : Int32 → wS → Prop) (r : Int32), (r = 0 → isN x1 (nI F) ∧ Q 1 (sA (sI σx 3 0) 12 x1 x2)) → (¬ r = 0 → Q 0 (sI σx 3 r)) → wx_X5_cross_J34 Q x1 x2 r σx := by
    intro Q r a1 a3 σ1 e1
    subst e1
    refine ⟨fun hr => ?_, a3⟩
    subst hr
    obtain ⟨a, hq⟩ := a1 rfl
    unfold wx_X2_crossOut
    rw [x_has]
    have e : (sI σx 3 0).1 4 = nI F := f2
    rw [e]
    refine q_t a ?_
    obtain ⟨j, hj, rfl⟩ := isN_of (by omega) a
    refine ⟨nI_in (by omega) (by decide), fun σ3 e3 => ?_⟩
    subst e3; exact hq
  unfold wx_X5_cross
  rw [x_has, f2, x_isDay, x_whyNot, why_eq]
  by_cases a : isN x1 (nI F)
  · rw [if_pos a]
    obtain ⟨j, hj, hxj⟩ := isN_of (by omega) a
    have hcl : x1.toNatClampNeg = j := by rw [hxj]; exact nI_clamp (by omega)
    have hin : vp_in x1 100 := by rw [hxj]; exact nI_in (by omega) (by decide)
    by_cases b : isR x2 0 9999
    · rw [if_pos b]
      refine i_t' rfl ?_
      unfold wx_X2_crossingDay
      rw [x_has, f2]
      refine q_t a ⟨hin, ?_⟩
      have hf := f5 j hj
      have hc1 : aI σx 12 x1 = σm.2.2.1 5 j := by show σx.2.2.1 12 x1.toNatClampNeg = _; rw [hcl]; exact hf.2.2.1
      have hc2 : -1 ≤ (σm.2.2.1 5 j).toInt := by rw [← hf.2.2.1]; exact hf.2.2.2.2.1.1
      rw [hc1]
      by_cases c : σm.2.2.1 5 j = -1
      · refine i_t c (J _ 0 (fun _ => ⟨a, ?_⟩) (fun e => absurd rfl e))
        intro σ1 e1 σ2 e2
        subst e1; subst e2
        rw [m_isFact]
        have e : (sI (sI σm 1 0) 0 0).1 4 = nI F := f3
        rw [e]
        refine q_t' a ?_
        rw [m_isDay]
        refine q_t' b ⟨hin, i_t ?_ ⟨hin, fun σ7 e7 => ?_⟩⟩
        · show σm.2.2.1 5 x1.toNatClampNeg < 0
          rw [hcl]; exact (neg1_of hc2).mp c
        · subst e7
          refine ⟨rfl, rfl, P, Mo, p1, p2, p3, p4, p5, p6, hO, ⟨F, f1, f2, f3, f4, fun f hf => ?_⟩, hE, hC, hR⟩
          show rFact P Mo (σx.2.2.1 10 f) (σx.2.2.1 11 f) (upd (σx.2.2.1 12) x1.toNatClampNeg x2 f) (σx.2.2.1 13 f) (σx.2.2.1 14 (2 * f)) (σx.2.2.1 15 (2 * f)) (σx.2.2.1 16 (2 * f)) (σx.2.2.1 14 (2 * f + 1)) (σx.2.2.1 15 (2 * f + 1)) (σx.2.2.1 16 (2 * f + 1)) (σm.2.2.1 0 f) (σm.2.2.1 1 f) (σm.2.2.1 2 f) (σm.2.2.1 3 f) (σm.2.2.1 4 f) (upd (σm.2.2.1 5) x1.toNatClampNeg x2 f)
          rw [hcl]
          by_cases ef : f = j
          · subst ef
            rw [pk_us, pk_us]
            have hr := isR_of b
            have z0 : (0 : Int32).toInt = 0 := by decide
            have z9 : (9999 : Int32).toInt = 9999 := by decide
            exact rFact_c (f5 f (by assumption)) (by omega)
          · rw [pk_un ef, pk_un ef]; exact f5 f hf
      · refine i_f c (J _ 4 (fun e => absurd e (by decide)) (fun _ => ?_))
        intro σ1 e1 σ2 e2
        subst e1; subst e2
        rw [m_isFact]
        have e : (sI (sI σm 1 0) 0 0).1 4 = nI F := f3
        rw [e]
        refine q_t' a ?_
        rw [m_isDay]
        refine q_t' b ⟨hin, i_f ?_ (m_no.mpr ⟨rfl, rfl, rel_no h 4⟩)⟩
        show ¬ σm.2.2.1 5 x1.toNatClampNeg < 0
        rw [hcl]; exact fun z => c ((neg1_of hc2).mpr z)
    · rw [if_neg b]
      refine i_f' (by decide) (J _ 2 (fun e => absurd e (by decide)) (fun _ => ?_))
      intro σ1 e1 σ2 e2
      subst e1; subst e2
      rw [m_isFact]
      have e : (sI (sI σm 1 0) 0 0).1 4 = nI F := f3
      rw [e]
      refine q_t' a ?_
      rw [m_isDay]
      exact q_f' b (m_no.mpr ⟨rfl, rfl, rel_no h 2⟩)
  · rw [if_neg a]
    refine i_f' (by decide) (J _ 1 (fun e => absurd e (by decide)) (fun _ => ?_))
    intro σ1 e1 σ2 e2
    subst e1; subst e2
    rw [m_isFact]
    have e : (sI (sI σm 1 0) 0 0).1 4 = nI F := f3
    rw [e]
    exact q_f' a (m_no.mpr ⟨rfl, rfl, rel_no h 1⟩)
theorem r_fact : rT_fact Rel := by
  intro σx σm x1 x2 h
  obtain ⟨hs, P, Mo, h0⟩ := id h
  obtain ⟨p1, p2, p3, p4, p5, p6, hO, ⟨F, f1, f2, f3, f4, f5⟩, hE, hC, hR⟩ := h0
  have e : (sI (sI σm 1 0) 0 0).1 4 = nI F := f3
  unfold wx_X5_fact
  rw [x_has, f2, x_isWithin, x_whyNot, why_eq]
  by_cases a : isN x1 (nI F)
  · rw [if_pos a]
    obtain ⟨j, hj, hxj⟩ := isN_of (by omega) a
    have hcl : x1.toNatClampNeg = j := by rw [hxj]; exact nI_clamp (by omega)
    have hin : vp_in x1 100 := by rw [hxj]; exact nI_in (by omega) (by decide)
    have hf := f5 j hj
    by_cases b : isR x2 0 3
    · rw [if_pos b]
      refine i_t rfl ⟨fun c => ?_, fun c => ?_, fun c => ?_, fun c0 c1 c2 => ?_⟩
      · unfold wx_X2_kindOf
        rw [x_has, f2]
        refine q_t a ⟨hin, x_answer.mpr ?_⟩
        intro σ1 e1 σ2 e2
        subst e1; subst e2
        rw [m_isFact, e]
        refine q_t' a ⟨fun _ => ⟨hin, ?_, rel_ok h⟩, fun z => absurd (z ▸ c) (by decide), fun z => absurd (z ▸ c) (by decide), fun z => absurd (z ▸ c) (by decide), fun z => absurd c z⟩
        show σx.2.2.1 10 x1.toNatClampNeg = σm.2.2.1 0 x1.toNatClampNeg
        rw [hcl]; exact hf.1
      · unfold wx_X2_tellingDay
        rw [x_has, f2]
        refine q_t a ⟨hin, x_answer.mpr ?_⟩
        intro σ1 e1 σ2 e2
        subst e1; subst e2
        rw [m_isFact, e]
        refine q_t' a ⟨fun z => absurd (z ▸ c) (by decide), fun _ => ⟨hin, ?_, rel_ok h⟩, fun z => absurd (z ▸ c) (by decide), fun z => absurd (z ▸ c) (by decide), fun _ z => absurd c z⟩
        show σx.2.2.1 11 x1.toNatClampNeg = σm.2.2.1 4 x1.toNatClampNeg
        rw [hcl]; exact hf.2.1
      · unfold wx_X2_crossingDay
        rw [x_has, f2]
        refine q_t a ⟨hin, x_answer.mpr ?_⟩
        intro σ1 e1 σ2 e2
        subst e1; subst e2
        rw [m_isFact, e]
        refine q_t' a ⟨fun z => absurd (z ▸ c) (by decide), fun z => absurd (z ▸ c) (by decide), fun _ => ⟨hin, ?_, rel_ok h⟩, fun z => absurd (z ▸ c) (by decide), fun _ _ z => absurd c z⟩
        show σx.2.2.1 12 x1.toNatClampNeg = σm.2.2.1 5 x1.toNatClampNeg
        rw [hcl]; exact hf.2.2.1
      · have c3 : x2 = 3 := by
          have hr := isR_of b
          have z0 : (0 : Int32).toInt = 0 := by decide
          have z1 : (1 : Int32).toInt = 1 := by decide
          have z2 : (2 : Int32).toInt = 2 := by decide
          have z3 : (3 : Int32).toInt = 3 := by decide
          rw [fa_eq] at c0 c1 c2 ⊢
          omega
        unfold wx_X2_limitsOf
        rw [x_has, f2]
        refine q_t a ⟨hin, x_answer.mpr ?_⟩
        intro σ1 e1 σ2 e2
        subst e1; subst e2
        rw [m_isFact, e]
        refine q_t' a ⟨fun z => absurd z c0, fun z => absurd z c1, fun z => absurd z c2, fun _ => ⟨hin, ?_⟩, fun _ _ _ z => absurd c3 z⟩
        show (¬ σm.2.2.1 0 x1.toNatClampNeg = 1 → σx.2.2.1 13 x1.toNatClampNeg = 2 ∧ _) ∧ (σm.2.2.1 0 x1.toNatClampNeg = 1 → σx.2.2.1 13 x1.toNatClampNeg = 1 ∧ _)
        rw [hcl, ← hf.1]
        rcases hf.2.2.2.2.2 with ⟨a1, a2, -⟩ | ⟨a1, a2, -⟩ | ⟨hk, a2, -⟩ | ⟨a1, a2, -⟩
        · exact i_f' (by rw [a1]; decide) ⟨a2, rel_ok h⟩
        · exact i_t' a1 ⟨a2, rel_ok h⟩
        · refine i_f' ?_ ⟨a2, rel_ok h⟩
          rcases hk with ⟨a1, -⟩ | ⟨a1, -⟩ | ⟨a1, -⟩ <;> (rw [a1]; decide)
        · exact i_f' (by rw [a1]; decide) ⟨a2, rel_ok h⟩
    · rw [if_neg b]
      refine i_f (by decide) (x_refuse.mpr ?_)
      intro σ1 e1 σ2 e2
      subst e1; subst e2
      rw [m_isFact, e]
      have n0 : ¬ x2 = 0 := fun z => b (by rw [z]; decide)
      have n1 : ¬ x2 = 1 := fun z => b (by rw [z]; decide)
      have n2 : ¬ x2 = 2 := fun z => b (by rw [z]; decide)
      have n3 : ¬ x2 = 3 := fun z => b (by rw [z]; decide)
      exact q_t' a ⟨fun z => absurd z n0, fun z => absurd z n1, fun z => absurd z n2, fun z => absurd z n3, fun _ _ _ _ => m_refuse.mpr ⟨rfl, rel_no h 2⟩⟩
  · rw [if_neg a]
    refine i_f (by decide) (x_refuse.mpr ?_)
    intro σ1 e1 σ2 e2
    subst e1; subst e2
    rw [m_isFact, e]
    exact q_f' a (m_refuse.mpr ⟨rfl, rel_no h 1⟩)
