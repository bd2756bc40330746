theorem r_law : rT_law Rel := by
  intro σx σm x1 x2 h
  obtain ⟨hs, P, Mo, h0⟩ := id h
  obtain ⟨p1, p2, p3, p4, p5, p6, hO, hF, hE, hC, Lw, De, l1, l2, l3, l4, l5, l6, l7, l8⟩ := h0
  obtain ⟨ok, hok⟩ : ∃ c : Prop, c ↔ (isR x1 0 100000 ∧ isR x2 0 50000) := ⟨_, Iff.rfl⟩
  have hcl : (nI Lw).toNatClampNeg = Lw := nI_clamp (by omega)
  have M : ∀ (Q : Int32 → wS → Prop), (¬ ok → Q 0 (sI (sI (sI σm 1 0) 0 0) 0 2)) → (ok → Lw = 10 → Q 0 (sI (sI (sI σm 1 0) 0 0) 0 3)) → (ok → Lw < 10 → Q 1 (sI (sA (sA (sI (sI σm 1 0) 0 0) 21 (nI Lw) x1) 22 (nI Lw) x2) 9 (nI (Lw + 1)))) → wm_X6_law Q x1 x2 σm := by
    intro Q k1 k2 k3 σ1 e1 σ2 e2
    subst e1; subst e2
    have no2 : ¬ ok → wm_X6_no (fun r5 σ6 => isB r5 ∧ Q r5 σ6) 2 (sI (sI σm 1 0) 0 0) := fun hn => m_no.mpr ⟨rfl, k1 hn⟩
    have e : (sI (sI σm 1 0) 0 0).1 9 = nI Lw := l4
    by_cases c1 : x1 < 0
    · exact i_t c1 (no2 (fun z => (hok.mp z).1.1 c1))
    refine i_f c1 ?_
    by_cases c2 : 100000 < x1
    · exact i_t c2 (no2 (fun z => (hok.mp z).1.2 c2))
    refine i_f c2 ?_
    by_cases c3 : x2 < 0
    · exact i_t c3 (no2 (fun z => (hok.mp z).2.1 c3))
    refine i_f c3 ?_
    by_cases c4 : x2 ≤ 50000
    · refine i_t c4 ?_
      have hk : ok := hok.mpr ⟨⟨c1, c2⟩, c3, fun z => by rw [fa_lt] at z; rw [fa_le] at c4; omega⟩
      rw [e]
      by_cases c5 : Lw = 10
      · refine i_t' (by rw [c5]; rfl) (m_no.mpr ⟨rfl, k2 hk c5⟩)
      · refine i_f' (fun z => c5 ((nI_eq (b := 10) (by omega) (by omega)).mp z)) ?_
        have hin : vp_in (nI Lw) 10 := nI_in (by omega) (by decide)
        refine ⟨hin, fun σ3 e3 => ⟨by subst e3; show vp_in ((sI (sI σm 1 0) 0 0).1 9) 10; rw [e]; exact hin, fun σ4 e4 σ5 e5 => ?_⟩⟩
        have q3 : σ3.1 9 = nI Lw := by subst e3; exact e
        have q4 : σ4.1 9 = nI Lw := by subst e4; subst e3; exact e
        rw [q4, nI_1] at e5
        rw [q3] at e4
        subst e5; subst e4; subst e3
        exact k3 hk (by omega)
    · exact i_f c4 (no2 (fun z => c4 (by have := (hok.mp z).2.2; rw [fa_lt] at this; rw [fa_le]; omega)))
  have X : ∀ (Q : Int32 → wS → Prop) (s1 : Int32), (s1 = 0 ↔ ¬ ok) → (¬ ok → Q 0 (sI σx 3 2)) → (ok → Lw = 10 → Q 0 (sI σx 3 3)) → (ok → Lw < 10 → Q 1 (sI (sA (sA (sI σx 3 0) 17 (nI Lw) x1) 18 (nI Lw) x2) 5 (nI (Lw + 1)))) → wx_X5_law_J26 Q x1 x2 1 s1 σx := by
    intro Q s1 hs1 k1 k2 k3
    have J : ∀ r : Int32, (r = 0 → Lw < 10 → Q 1 (sI (sA (sA (sI σx 3 0) 17 (nI Lw) x1) 18 (nI Lw) x2) 5 (nI (Lw + 1)))) → (r = 0 → Lw < 10) → (¬ r = 0 → Q 0 (sI σx 3 r)) → wx_X5_law_J46 Q x1 x2 r σx := by
      intro r a1 a2 a3 σ1 e1
      subst e1
      refine ⟨fun hr => ?_, a3⟩
      subst hr
      have hlt := a2 rfl
      have e : (sI σx 3 0).1 5 = nI Lw := l3
      have c10 : nI Lw < 10 := (nI_ltI (b := 10) (by omega) (by omega)).mpr hlt
      unfold wx_X3_addLaw wx_X3_hasAllLaws
      rw [e]
      refine i_t c10 (i_t rfl ?_)
      have hin : vp_in (nI Lw) 10 := nI_in (by omega) (by decide)
      refine ⟨hin, fun σ3 e3 => ⟨by subst e3; show vp_in ((sI σx 3 0).1 5) 10; rw [e]; exact hin, fun σ4 e4 σ5 e5 => ?_⟩⟩
      have q3 : σ3.1 5 = nI Lw := by subst e3; exact e
      have q4 : σ4.1 5 = nI Lw := by subst e4; subst e3; exact e
      rw [q4, nI_1] at e5
      rw [q3] at e4
      subst e5; subst e4; subst e3
      exact a1 rfl hlt
    unfold wx_X5_law_J26
    rw [x_whyNot]
    rw [if_neg (show ¬ (1 : Int32) = 0 by decide)]
    by_cases c : s1 = 0
    · rw [if_pos c]
      exact i_f' (by decide) (J 2 (fun e => absurd e (by decide)) (fun e => absurd e (by decide)) (fun _ => k1 (hs1.mp c)))
    · rw [if_neg c]
      have hk : ok := Classical.byContradiction fun z => c (hs1.mpr z)
      refine i_t' rfl ?_
      unfold wx_X3_hasAllLaws
      rw [l3]
      by_cases c5 : Lw = 10
      · refine i_f (fun z => by have z := (nI_ltI (b := 10) (by omega) (by omega)).mp z; omega) (i_f (by decide) (J 3 (fun e => absurd e (by decide)) (fun e => absurd e (by decide)) (fun _ => k2 hk c5)))
      · refine i_t ((nI_ltI (b := 10) (by omega) (by omega)).mpr (by omega)) (i_t rfl (J 0 (fun _ => k3 hk) (fun _ => by omega) (fun e => absurd rfl e)))
  have fin : ∀ s1 : Int32, (s1 = 0 ↔ ¬ ok) → wx_X5_law_J26 (fun r1 σx1 => wm_X6_law (fun r2 σm1 => r1 = r2 ∧ Rel σx1 σm1) x1 x2 σm) x1 x2 1 s1 σx := by
    intro s1 hs1
    refine X _ s1 hs1 (fun a => ?_) (fun a b => ?_) (fun a b => ?_)
    · exact M _ (fun _ => ⟨rfl, rel_no h 2⟩) (fun z => absurd z a) (fun z => absurd z a)
    · exact M _ (fun z => absurd a z) (fun _ _ => ⟨rfl, rel_no h 3⟩) (fun _ z => by omega)
    · refine M _ (fun z => absurd a z) (fun _ z => by omega) (fun _ _ => ⟨rfl, rfl, P, Mo, p1, p2, p3, p4, p5, p6, hO, hF, hE, hC, Lw + 1, De, by omega, l2, rfl, rfl, l5, l6, fun k hk => ?_, l8⟩)
      show upd (σx.2.2.1 17) (nI Lw).toNatClampNeg x1 k = upd (σm.2.2.1 21) (nI Lw).toNatClampNeg x1 k ∧ upd (σx.2.2.1 18) (nI Lw).toNatClampNeg x2 k = upd (σm.2.2.1 22) (nI Lw).toNatClampNeg x2 k
      rw [hcl]
      by_cases e : k = Lw
      · subst e; simp only [pk_us]; exact ⟨trivial, trivial⟩
      · rw [pk_un e, pk_un e, pk_un e, pk_un e]; exact l7 k (by omega)
  unfold wx_X5_law
  rw [x_isWithin]
  by_cases c1 : isR x1 0 100000
  · refine q_t c1 ?_
    rw [x_isWithin]
    by_cases c2 : isR x2 0 50000
    · exact q_t c2 (fin 1 ⟨fun e => absurd e (by decide), fun z => absurd (hok.mpr ⟨c1, c2⟩) z⟩)
    · exact q_f c2 (fin 0 ⟨fun _ z => c2 (hok.mp z).2, fun _ => rfl⟩)
  · exact q_f c1 (fin 0 ⟨fun _ z => c1 (hok.mp z).1, fun _ => rfl⟩)
theorem r_death : rT_death Rel := by
  intro σx σm x1 x2 x3 h
  obtain ⟨hs, P, Mo, h0⟩ := id h
  obtain ⟨p1, p2, p3, p4, p5, p6, hO, hF, hE, hC, Lw, De, l1, l2, l3, l4, l5, l6, l7, l8⟩ := h0
  obtain ⟨ok, hok⟩ : ∃ c : Prop, c ↔ (isR x2 0 100000 ∧ isR x3 0 9999) := ⟨_, Iff.rfl⟩
  have hcl : (nI De).toNatClampNeg = De := nI_clamp (by omega)
  have M : ∀ (Q : Int32 → wS → Prop), (¬ isN x1 (nI P) → Q 0 (sI (sI (sI σm 1 0) 0 0) 0 1)) → (isN x1 (nI P) → ¬ ok → Q 0 (sI (sI (sI σm 1 0) 0 0) 0 2)) → (isN x1 (nI P) → ok → De = 60 → Q 0 (sI (sI (sI σm 1 0) 0 0) 0 3)) → (isN x1 (nI P) → ok → De < 60 → Q 1 (sI (sA (sA (sA (sI (sI σm 1 0) 0 0) 23 (nI De) x1) 24 (nI De) x2) 25 (nI De) x3) 10 (nI (De + 1)))) → wm_X6_death Q x1 x2 x3 σm := by
    intro Q k0 k1 k2 k3 σ1 e1 σ2 e2
    subst e1; subst e2
    rw [m_isPlate]
    have eP : (sI (sI σm 1 0) 0 0).1 2 = nI P := p4
    rw [eP]
    have e : (sI (sI σm 1 0) 0 0).1 10 = nI De := l6
    by_cases a : isN x1 (nI P)
    · refine q_t' a ?_
      have no2 : ¬ ok → wm_X6_no (fun r5 σ6 => isB r5 ∧ Q r5 σ6) 2 (sI (sI σm 1 0) 0 0) := fun hn => m_no.mpr ⟨rfl, k1 a hn⟩
      by_cases c1 : x2 < 0
      · exact i_t c1 (no2 (fun z => (hok.mp z).1.1 c1))
      refine i_f c1 ?_
      by_cases c2 : 100000 < x2
      · exact i_t c2 (no2 (fun z => (hok.mp z).1.2 c2))
      refine i_f c2 ?_
      rw [m_isDay]
      by_cases c3 : isR x3 0 9999
      · refine q_t' c3 ?_
        have hk : ok := hok.mpr ⟨⟨c1, c2⟩, c3⟩
        rw [e]
        by_cases c5 : De = 60
        · refine i_t' (by rw [c5]; rfl) (m_no.mpr ⟨rfl, k2 a hk c5⟩)
        · refine i_f' (fun z => c5 ((nI_eq (b := 60) (by omega) (by omega)).mp z)) ?_
          have hin : vp_in (nI De) 60 := nI_in (by omega) (by decide)
          refine ⟨hin, fun σ3 e3 => ?_⟩
          have q3 : σ3.1 10 = nI De := by subst e3; exact e
          rw [q3]
          refine ⟨hin, fun σ4 e4 => ?_⟩
          have q4 : σ4.1 10 = nI De := by subst e4; exact q3
          rw [q4]
          refine ⟨hin, fun σ5 e5 σ6 e6 => ?_⟩
          have q5 : σ5.1 10 = nI De := by subst e5; exact q4
          rw [q5, nI_1] at e6
          subst e6; subst e5; subst e4; subst e3
          exact k3 a hk (by omega)
      · exact q_f' c3 (no2 (fun z => c3 (hok.mp z).2))
    · exact q_f' a (m_no.mpr ⟨rfl, k0 a⟩)
  have X : ∀ (Q : Int32 → wS → Prop) (s1 : Int32), (s1 = 0 ↔ ¬ ok) → (¬ isN x1 (nI P) → Q 0 (sI σx 3 1)) → (isN x1 (nI P) → ¬ ok → Q 0 (sI σx 3 2)) → (isN x1 (nI P) → ok → De = 60 → Q 0 (sI σx 3 3)) → (isN x1 (nI P) → ok → De < 60 → Q 1 (sI (sA (sA (sA (sI σx 3 0) 19 (nI De) x1) 20 (nI De) x2) 21 (nI De) x3) 6 (nI (De + 1)))) → wx_X5_death_J27 Q x1 x2 x3 (b2 (isN x1 (nI P))) s1 σx := by
    intro Q s1 hs1 k0 k1 k2 k3
    have J : ∀ r : Int32, (r = 0 → De < 60 ∧ isN x1 (nI P) ∧ ok) → (¬ r = 0 → Q 0 (sI σx 3 r)) → wx_X5_death_J50 Q x1 x2 x3 r σx := by
      intro r a2 a3 σ1 e1
      subst e1
      refine ⟨fun hr => ?_, a3⟩
      subst hr
      obtain ⟨hlt, a, hk⟩ := a2 rfl
      have e : (sI σx 3 0).1 6 = nI De := l5
      unfold wx_X3_addDeath wx_X3_hasAllDeaths
      rw [e]
      refine i_t ((nI_ltI (b := 60) (by omega) (by omega)).mpr hlt) (i_t rfl ?_)
      have hin : vp_in (nI De) 60 := nI_in (by omega) (by decide)
      refine ⟨hin, fun σ3 e3 => ?_⟩
      have q3 : σ3.1 6 = nI De := by subst e3; exact e
      rw [q3]
      refine ⟨hin, fun σ4 e4 => ?_⟩
      have q4 : σ4.1 6 = nI De := by subst e4; exact q3
      rw [q4]
      refine ⟨hin, fun σ5 e5 σ6 e6 => ?_⟩
      have q5 : σ5.1 6 = nI De := by subst e5; exact q4
      rw [q5, nI_1] at e6
      subst e6; subst e5; subst e4; subst e3
      exact k3 a hk hlt
    unfold wx_X5_death_J27
    rw [x_whyNot]
    by_cases a : isN x1 (nI P)
    · rw [if_neg (by rw [b2_0]; exact fun z => z a)]
      by_cases c : s1 = 0
      · rw [if_pos c]
        exact i_f' (by decide) (J 2 (fun e => absurd e (by decide)) (fun _ => k1 a (hs1.mp c)))
      · rw [if_neg c]
        have hk : ok := Classical.byContradiction fun z => c (hs1.mpr z)
        refine i_t' rfl ?_
        unfold wx_X3_hasAllDeaths
        rw [l5]
        by_cases c5 : De = 60
        · refine i_f (fun z => by have z := (nI_ltI (b := 60) (by omega) (by omega)).mp z; omega) (i_f (by decide) (J 3 (fun e => absurd e (by decide)) (fun _ => k2 a hk c5)))
        · refine i_t ((nI_ltI (b := 60) (by omega) (by omega)).mpr (by omega)) (i_t rfl (J 0 (fun _ => ⟨by omega, a, hk⟩) (fun e => absurd rfl e)))
    · rw [if_pos (b2_0.mpr a)]
      exact i_f' (by decide) (J 1 (fun e => absurd e (by decide)) (fun _ => k0 a))
  have fin : ∀ s1 : Int32, (s1 = 0 ↔ ¬ ok) → wx_X5_death_J27 (fun r1 σx1 => wm_X6_death (fun r2 σm1 => r1 = r2 ∧ Rel σx1 σm1) x1 x2 x3 σm) x1 x2 x3 (b2 (isN x1 (nI P))) s1 σx := by
    intro s1 hs1
    refine X _ s1 hs1 (fun a => ?_) (fun a b => ?_) (fun a b c => ?_) (fun a b c => ?_)
    · exact M _ (fun _ => ⟨rfl, rel_no h 1⟩) (fun z => absurd z a) (fun z => absurd z a) (fun z => absurd z a)
    · exact M _ (fun z => absurd a z) (fun _ _ => ⟨rfl, rel_no h 2⟩) (fun _ z => absurd z b) (fun _ z => absurd z b)
    · exact M _ (fun z => absurd a z) (fun _ z => absurd b z) (fun _ _ _ => ⟨rfl, rel_no h 3⟩) (fun _ _ z => by omega)
    · refine M _ (fun z => absurd a z) (fun _ z => absurd b z) (fun _ _ z => by omega) (fun _ _ _ => ⟨rfl, rfl, P, Mo, p1, p2, p3, p4, p5, p6, hO, hF, hE, hC, Lw, De + 1, l1, by omega, l3, l4, rfl, rfl, l7, fun k hk => ?_⟩)
      show upd (σx.2.2.1 19) (nI De).toNatClampNeg x1 k = upd (σm.2.2.1 23) (nI De).toNatClampNeg x1 k ∧ upd (σx.2.2.1 20) (nI De).toNatClampNeg x2 k = upd (σm.2.2.1 24) (nI De).toNatClampNeg x2 k ∧ upd (σx.2.2.1 21) (nI De).toNatClampNeg x3 k = upd (σm.2.2.1 25) (nI De).toNatClampNeg x3 k
      rw [hcl]
      by_cases e : k = De
      · subst e; simp only [pk_us]; exact ⟨trivial, trivial, trivial⟩
      · rw [pk_un e, pk_un e, pk_un e, pk_un e, pk_un e, pk_un e]; exact l8 k (by omega)
  unfold wx_X5_death
  rw [x_isPlate, p3, x_isWithin]
  by_cases c1 : isR x2 0 100000
  · refine q_t c1 ?_
    rw [x_isDay]
    by_cases c2 : isR x3 0 9999
    · exact q_t c2 (fin 1 ⟨fun e => absurd e (by decide), fun z => absurd (hok.mpr ⟨c1, c2⟩) z⟩)
    · exact q_f c2 (fin 0 ⟨fun _ z => c2 (hok.mp z).2, fun _ => rfl⟩)
  · exact q_f c1 (fin 0 ⟨fun _ z => c1 (hok.mp z).1, fun _ => rfl⟩)
