theorem rFact_mono {P Mo P1 Mo1 : Nat} (hP : P ≤ P1) (hM : Mo ≤ Mo1) {k t c n t0 h0 l0 t1 h1 l1 mk a b d mt mc : Int32} (h : rFact P Mo k t c n t0 h0 l0 t1 h1 l1 mk a b d mt mc) : rFact P1 Mo1 k t c n t0 h0 l0 t1 h1 l1 mk a b d mt mc := by
  obtain ⟨e1, e2, e3, e4, e5, h⟩ := h
  refine ⟨e1, e2, e3, e4, e5, ?_⟩
  rcases h with ⟨a1, a2, p, q, b1, b2, b3⟩ | ⟨a1, a2, p, q, b1, b2, b3⟩ | ⟨h, a2, b3⟩ | ⟨a1, a2, p, q, b1, b2, b3⟩
  · exact Or.inl ⟨a1, a2, p, q, by omega, by omega, b3⟩
  · exact Or.inr (Or.inl ⟨a1, a2, p, q, by omega, by omega, b3⟩)
  · refine Or.inr (Or.inr (Or.inl ⟨?_, a2, b3⟩))
    rcases h with ⟨a1, p, b1, b2⟩ | ⟨a1, p, b1, b2⟩ | ⟨a1, p, b1, b2⟩
    · exact Or.inl ⟨a1, p, by omega, b2⟩
    · exact Or.inr (Or.inl ⟨a1, p, by omega, b2⟩)
    · exact Or.inr (Or.inr ⟨a1, p, by omega, b2⟩)
  · exact Or.inr (Or.inr (Or.inr ⟨a1, a2, p, q, by omega, by omega, b3⟩))
theorem rF_mono {P Mo P1 Mo1 : Nat} (hP : P ≤ P1) (hM : Mo ≤ Mo1) {x4 m4 : Int32} {x10 x11 x12 x13 x14 x15 x16 m0 m1 m2 m3 m4a m5 : Nat → Int32} (h : rF P Mo x4 x10 x11 x12 x13 x14 x15 x16 m4 m0 m1 m2 m3 m4a m5) : rF P1 Mo1 x4 x10 x11 x12 x13 x14 x15 x16 m4 m0 m1 m2 m3 m4a m5 := by
  obtain ⟨F, h1, h2, h3, h4, h5⟩ := h
  exact ⟨F, h1, h2, h3, h4, fun f hf => rFact_mono hP hM (h5 f hf)⟩
theorem rE_new {P : Nat} (hP : P < 20) {x5 x6 x7 x8 x9 m8 m9 : Nat → Int32} (h : rE P x5 x6 x7 x8 x9 m8 m9) : rE (P + 1) x5 x6 x7 x8 x9 (upd m8 P 0) (upd m9 P 0) := by
  obtain ⟨h1, h2, h3, h4⟩ := h
  refine ⟨fun p hp => ?_, h2, fun p hp hq => h3 p (by omega) hq, h4⟩
  by_cases e : p = P
  · subst e
    obtain ⟨a, b⟩ := h3 p (Nat.le_refl _) hP
    exact ⟨by rw [a, pk_us], by rw [b, pk_us]⟩
  · obtain ⟨a, b⟩ := h1 p (by omega)
    exact ⟨by rw [a, pk_un e], by rw [b, pk_un e]⟩
theorem rC_new {P : Nat} (hP : P < 20) {x1 x2 x3 m14 m15 m16 : Nat → Int32} (h : rC P x1 x2 x3 m14 m15 m16) : rC (P + 1) x1 x2 x3 (upd m14 P 0) (upd m15 P 1) (upd m16 P 500) := by
  obtain ⟨h1, h3⟩ := h
  refine ⟨fun p hp => ?_, fun p hp hq => h3 p (by omega) hq⟩
  by_cases e : p = P
  · subst e
    obtain ⟨a, b, c⟩ := h3 p (Nat.le_refl _) hP
    rw [a, b, c, pk_us, pk_us, pk_us]
    decide
  · rw [pk_un e, pk_un e, pk_un e]
    exact h1 p (by omega)
theorem rR_mono {P P1 : Nat} {x5 x6 m9 m10 : Int32} {x17 x18 x19 x20 x21 m21 m22 m23 m24 m25 : Nat → Int32} (h : rR P x5 x6 x17 x18 x19 x20 x21 m9 m10 m21 m22 m23 m24 m25) : rR P1 x5 x6 x17 x18 x19 x20 x21 m9 m10 m21 m22 m23 m24 m25 := h
theorem r_plate : rT_plate Rel := by
  intro σx σm h
  obtain ⟨hs, P, Mo, h0⟩ := id h
  obtain ⟨p1, p2, p3, p4, p5, p6, hO, hF, hE, hC, hR⟩ := h0
  unfold wx_X5_plate
  refine ⟨fun hc => ?_, fun hc => ?_⟩
  · have hP : P < 20 := by rw [p3] at hc; exact (nI_ltI (by omega) (by omega)).mp (show nI P < nI 20 from hc)
    have hcl : (nI P).toNatClampNeg = P := nI_clamp (by omega)
    intro σ1 e1 σ2 e2
    intro σ3 e3 σ4 e4
    have q4 : σ4.1 2 = nI P := by subst e4; subst e3; exact p4
    refine ⟨fun _ => ?_, fun hn => ?_⟩
    · have hin : vp_in (nI P) 20 := nI_in hP (by decide)
      refine ⟨by rw [q4]; exact hin, fun σ5 e5 => ⟨by subst e5; show vp_in (σ4.1 2) 20; rw [q4]; exact hin, fun σ6 e6 => ⟨by subst e6; subst e5; show vp_in (σ4.1 2) 20; rw [q4]; exact hin, fun σ7 e7 => ⟨by subst e7; subst e6; subst e5; show vp_in (σ4.1 2) 20; rw [q4]; exact hin, fun σ8 e8 => ⟨by subst e8; subst e7; subst e6; subst e5; show vp_in (σ4.1 2) 20; rw [q4]; exact hin, fun σ9 e9 σa ea => ?_⟩⟩⟩⟩⟩
      subst ea; subst e9; subst e8; subst e7; subst e6; subst e5; subst e4; subst e3; subst e2; subst e1
      refine ⟨?_, ?_⟩
      · show (σx.1 1 + 1) - 1 = (σm.1 2 + 1) - 1
        rw [p3, p4]
      · refine ⟨rfl, P + 1, Mo, by omega, p2, ?_, ?_, p5, p6, hO, rF_mono (Nat.le_succ P) (Nat.le_refl _) hF, ?_, ?_, hR⟩
        · show σx.1 1 + 1 = nI (P + 1); rw [p3]; exact nI_1 P
        · show σm.1 2 + 1 = nI (P + 1); rw [p4]; exact nI_1 P
        · show rE (P + 1) _ _ _ _ _ (upd (σm.2.2.1 8) (σm.1 2).toNatClampNeg 0) (upd (σm.2.2.1 9) (σm.1 2).toNatClampNeg 0)
          rw [p4, hcl]
          exact rE_new hP hE
        · show rC (P + 1) _ _ _ (upd (σm.2.2.1 14) (σm.1 2).toNatClampNeg 0) (upd (σm.2.2.1 15) (σm.1 2).toNatClampNeg 1) (upd (σm.2.2.1 16) (σm.1 2).toNatClampNeg 500)
          rw [p4, hcl]
          exact rC_new hP hC
    · exact absurd hn (by rw [q4]; exact fun e => absurd ((nI_eq (b := 20) (by omega) (by omega)).mp e) (by omega))
  · have hP : P = 20 := by
      have : ¬ nI P < nI 20 := by rw [p3] at hc; exact hc
      rw [nI_ltI (by omega) (by omega)] at this; omega
    intro σ1 e1 σ3 e3 σ4 e4
    have q4 : σ4.1 2 = nI 20 := by subst e4; subst e3; rw [← hP]; exact p4
    refine ⟨fun hn => absurd q4 hn, fun _ => ?_⟩
    intro σ5 e5
    subst e5; subst e4; subst e3; subst e1
    exact ⟨rfl, rel_no h 3⟩
theorem r_motif : rT_motif Rel := by
  intro σx σm h
  obtain ⟨hs, P, Mo, h0⟩ := id h
  obtain ⟨p1, p2, p3, p4, p5, p6, hO, hF, hE, hC, hR⟩ := h0
  unfold wx_X5_motif
  refine ⟨fun hc => ?_, fun hc => ?_⟩
  · have hM : Mo < 16 := by rw [p5] at hc; exact (nI_ltI (by omega) (by omega)).mp (show nI Mo < nI 16 from hc)
    intro σ1 e1 σ2 e2
    intro σ3 e3 σ4 e4
    have q4 : σ4.1 3 = nI Mo := by subst e4; subst e3; exact p6
    refine ⟨fun _ => ?_, fun hn => ?_⟩
    · intro σ5 e5
      subst e5; subst e4; subst e3; subst e2; subst e1
      refine ⟨?_, ?_⟩
      · show (σx.1 2 + 1) - 1 = (σm.1 3 + 1) - 1
        rw [p5, p6]
      · refine ⟨rfl, P, Mo + 1, p1, by omega, p3, p4, ?_, ?_, hO, rF_mono (Nat.le_refl _) (Nat.le_succ Mo) hF, hE, hC, hR⟩
        · show σx.1 2 + 1 = nI (Mo + 1); rw [p5]; exact nI_1 Mo
        · show σm.1 3 + 1 = nI (Mo + 1); rw [p6]; exact nI_1 Mo
    · exact absurd hn (by rw [q4]; exact fun e => absurd ((nI_eq (b := 16) (by omega) (by omega)).mp e) (by omega))
  · have hM : Mo = 16 := by
      have : ¬ nI Mo < nI 16 := by rw [p5] at hc; exact hc
      rw [nI_ltI (by omega) (by omega)] at this; omega
    intro σ1 e1 σ3 e3 σ4 e4
    have q4 : σ4.1 3 = nI 16 := by subst e4; subst e3; rw [← hM]; exact p6
    refine ⟨fun hn => absurd q4 hn, fun _ => ?_⟩
    intro σ5 e5
    subst e5; subst e4; subst e3; subst e1
    exact ⟨rfl, rel_no h 3⟩
