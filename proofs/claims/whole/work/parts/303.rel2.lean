theorem rC_set {P p : Nat} (hp : p < P) (hP : P ≤ 20) {x1 x2 x3 m14 m15 m16 : Nat → Int32} {w h l : Int32} (hw : 0 ≤ w.toInt ∧ w.toInt ≤ 99) (hh : 1 ≤ h.toInt ∧ h.toInt ≤ 50) (hl : 1 ≤ l.toInt ∧ l.toInt ≤ 500) (hc : rC P x1 x2 x3 m14 m15 m16) : rC P (upd x1 p w) (upd x2 p h) (upd x3 p l) (upd m14 p w) (upd m15 p h) (upd m16 p l) := by
  obtain ⟨h1, h3⟩ := hc
  refine ⟨fun q hq => ?_, fun q hq hq2 => ?_⟩
  · by_cases e : q = p
    · subst e
      simp only [pk_us]
      exact ⟨trivial, trivial, trivial, hw.1, hw.2, hh.1, hh.2, hl.1, hl.2⟩
    · rw [pk_un e, pk_un e, pk_un e, pk_un e, pk_un e, pk_un e]
      exact h1 q hq
  · have e : q ≠ p := by omega
    rw [pk_un e, pk_un e, pk_un e]
    exact h3 q hq hq2
theorem r_want : rT_want Rel := by
  intro σx σm x1 x2 x3 x4 h
  obtain ⟨hs, P, Mo, h0⟩ := id h
  obtain ⟨p1, p2, p3, p4, p5, p6, hO, hF, hE, hC, hR⟩ := h0
  obtain ⟨ok, hok⟩ : ∃ c : Prop, c ↔ (isR x2 0 99 ∧ isR x3 1 50 ∧ isR x4 1 500) := ⟨_, Iff.rfl⟩
  -- the reference
  have M : ∀ (Q : Int32 → wS → Prop), (¬ isN x1 (nI P) → Q 0 (sI (sI (sI σm 1 0) 0 0) 0 1)) → (isN x1 (nI P) → ¬ ok → Q 0 (sI (sI (sI σm 1 0) 0 0) 0 2)) → (isN x1 (nI P) → ok → Q 1 (sA (sA (sA (sI (sI σm 1 0) 0 0) 14 x1 x2) 15 x1 x3) 16 x1 x4)) → wm_X6_want Q x1 x2 x3 x4 σm := by
    intro Q k1 k2 k3 σ1 e1 σ2 e2
    subst e1; subst e2
    rw [m_isPlate]
    have e : (sI (sI σm 1 0) 0 0).1 2 = nI P := p4
    rw [e]
    by_cases a : isN x1 (nI P)
    · refine q_t' a ?_
      have no2 : ¬ ok → wm_X6_no (fun r5 σ6 => isB r5 ∧ Q r5 σ6) 2 (sI (sI σm 1 0) 0 0) := fun hn => m_no.mpr ⟨rfl, k2 a hn⟩
      by_cases c1 : x2 < 0
      · exact i_t c1 (no2 (fun z => (hok.mp z).1.1 c1))
      refine i_f c1 ?_
      by_cases c2 : 99 < x2
      · exact i_t c2 (no2 (fun z => (hok.mp z).1.2 c2))
      refine i_f c2 ?_
      by_cases c3 : x3 < 1
      · exact i_t c3 (no2 (fun z => (hok.mp z).2.1.1 c3))
      refine i_f c3 ?_
      by_cases c4 : 50 < x3
      · exact i_t c4 (no2 (fun z => (hok.mp z).2.1.2 c4))
      refine i_f c4 ?_
      by_cases c5 : x4 < 1
      · exact i_t c5 (no2 (fun z => (hok.mp z).2.2.1 c5))
      refine i_f c5 ?_
      by_cases c6 : x4 ≤ 500
      · refine i_t c6 ?_
        obtain ⟨j, hj, rfl⟩ := isN_of (by omega) a
        have hin : vp_in (nI j) 20 := nI_in (by omega) (by decide)
        refine ⟨hin, fun σ3 e3 => ⟨hin, fun σ4 e4 => ⟨hin, fun σ5 e5 => ?_⟩⟩⟩
        subst e5; subst e4; subst e3
        exact k3 a (hok.mpr ⟨⟨c1, c2⟩, ⟨c3, c4⟩, c5, fun z => by rw [fa_lt] at z; rw [fa_le] at c6; omega⟩)
      · exact i_f c6 (no2 (fun z => c6 (by have := (hok.mp z).2.2.2; rw [fa_lt] at this; rw [fa_le]; omega)))
    · exact q_f' a (m_no.mpr ⟨rfl, k1 a⟩)
  -- the class
  have X : ∀ (Q : Int32 → wS → Prop) (s0 : Int32), (s0 = 0 ∨ s0 = 1) → (s0 = 0 ↔ ¬ ok) → (¬ isN x1 (nI P) → Q 0 (sI σx 3 1)) → (isN x1 (nI P) → ¬ ok → Q 0 (sI σx 3 2)) → (isN x1 (nI P) → ok → Q 1 (sA (sA (sA (sI σx 3 0) 1 x1 x2) 2 x1 x3) 3 x1 x4)) → wx_X5_want_J37 Q x1 x2 x3 x4 s0 σx := by
    intro Q s0 h01 hs0 k1 k2 k3
    unfold wx_X5_want_J37
    rw [x_isPlate, p3, x_whyNot]
    intro σ1 e1
    subst e1
    show ((if b2 (isN x1 (nI P)) = 0 then (1 : Int32) else if s0 = 0 then 2 else 0) = 0 → _) ∧ (¬ (if b2 (isN x1 (nI P)) = 0 then (1 : Int32) else if s0 = 0 then 2 else 0) = 0 → _)
    by_cases a : isN x1 (nI P)
    · rw [if_neg (by rw [b2_0]; exact fun z => z a)]
      by_cases c : s0 = 0
      · rw [if_pos c]
        exact i_f (by decide) (k2 a (hs0.mp c))
      · rw [if_neg c]
        refine i_t rfl ?_
        have hk : ok := Classical.byContradiction fun z => c (hs0.mpr z)
        obtain ⟨j, hj, rfl⟩ := isN_of (by omega) a
        have hin : vp_in (nI j) 20 := nI_in (by omega) (by decide)
        unfold wx_X0_setWish
        refine i_f a.1 (i_t ?_ ⟨hin, fun σ3 e3 => ⟨hin, fun σ4 e4 => ⟨hin, fun σ5 e5 => ?_⟩⟩⟩)
        · exact (nI_ltI (b := 20) (by omega) (by omega)).mpr (by omega)
        · subst e5; subst e4; subst e3
          exact k3 a hk
    · rw [if_pos (b2_0.mpr a)]
      exact i_f (by decide) (k1 a)
  have fin : ∀ s0 : Int32, (s0 = 0 ∨ s0 = 1) → (s0 = 0 ↔ ¬ ok) → wx_X5_want_J37 (fun r1 σx1 => wm_X6_want (fun r2 σm1 => r1 = r2 ∧ Rel σx1 σm1) x1 x2 x3 x4 σm) x1 x2 x3 x4 s0 σx := by
    intro s0 h01 hs0
    refine X _ s0 h01 hs0 (fun a => ?_) (fun a b => ?_) (fun a b => ?_)
    · exact M _ (fun _ => ⟨rfl, rel_no h 1⟩) (fun z => absurd z a) (fun z => absurd z a)
    · exact M _ (fun z => absurd a z) (fun _ _ => ⟨rfl, rel_no h 2⟩) (fun _ z => absurd z b)
    · refine M _ (fun z => absurd a z) (fun _ z => absurd b z) (fun _ _ => ⟨rfl, rfl, P, Mo, p1, p2, p3, p4, p5, p6, hO, hF, hE, ?_, hR⟩)
      obtain ⟨j, hj, rfl⟩ := isN_of (by omega) a
      obtain ⟨o1, o2, o3⟩ := hok.mp b
      have hcl : (nI j).toNatClampNeg = j := nI_clamp (by omega)
      show rC P (upd (σx.2.2.1 1) (nI j).toNatClampNeg x2) (upd (σx.2.2.1 2) (nI j).toNatClampNeg x3) (upd (σx.2.2.1 3) (nI j).toNatClampNeg x4) (upd (σm.2.2.1 14) (nI j).toNatClampNeg x2) (upd (σm.2.2.1 15) (nI j).toNatClampNeg x3) (upd (σm.2.2.1 16) (nI j).toNatClampNeg x4)
      rw [hcl]
      exact rC_set hj p1 (isR_of o1) (isR_of o2) (isR_of o3) hC
  unfold wx_X5_want
  rw [x_isWithin]
  by_cases c1 : isR x2 0 99
  · refine q_t c1 ?_
    rw [x_isWithin]
    by_cases c2 : isR x3 1 50
    · refine q_t c2 ?_
      rw [x_isWithin]
      by_cases c3 : isR x4 1 500
      · exact q_t c3 (fin 1 (Or.inr rfl) ⟨fun e => absurd e (by decide), fun z => absurd (hok.mpr ⟨c1, c2, c3⟩) z⟩)
      · exact q_f c3 (fin 0 (Or.inl rfl) ⟨fun _ z => c3 (hok.mp z).2.2, fun _ => rfl⟩)
    · exact q_f c2 (fin 0 (Or.inl rfl) ⟨fun _ z => c2 (hok.mp z).2.1, fun _ => rfl⟩)
  · exact q_f c1 (fin 0 (Or.inl rfl) ⟨fun _ z => c1 (hok.mp z).1, fun _ => rfl⟩)
theorem r_out : rT_out Rel := by
  intro σx σm x1 h
  obtain ⟨hs, P, Mo, h0⟩ := id h
  obtain ⟨O, o1, o2, o3, o4⟩ := h0.2.2.2.2.2.2.1
  have hk : Rel σx (sI σm 1 0) := rel_keep h (keepX.rf σx) (keepM.int σm 1 0 (by omega)) hs
  unfold wx_X5_out
  rw [o2]
  refine ⟨fun c => ?_, fun c => ⟨fun c2 => ?_, fun c2 => ⟨fun c3 => ?_, fun c3 => ?_⟩⟩⟩
  · intro σ1 e1; subst e1
    exact i_t c ⟨rfl, hk⟩
  · intro σ1 e1; subst e1
    refine i_f c (i_t ?_ ⟨rfl, hk⟩)
    show σm.1 7 ≤ x1
    rw [o3]; exact c2
  · obtain ⟨j, hj, rfl⟩ := isN_of (x := x1) (n := O) (by omega) ⟨c, c2⟩
    refine ⟨nI_in (by omega) (by decide), ?_⟩
    intro σ1 e1; subst e1
    refine i_f c (i_f ?_ ⟨nI_in (by omega) (by decide), ?_, hk⟩)
    · show ¬ σm.1 7 ≤ nI j
      rw [o3]; exact c2
    · show σx.2.2.1 0 (nI j).toNatClampNeg = σm.2.2.1 10 (nI j).toNatClampNeg
      rw [nI_clamp (by omega)]; exact o4 j hj
  · obtain ⟨j, hj, rfl⟩ := isN_of (x := x1) (n := O) (by omega) ⟨c, c2⟩
    exact absurd ((nI_ltI (b := 20) (by omega) (by omega)).mpr (by omega)) c3
