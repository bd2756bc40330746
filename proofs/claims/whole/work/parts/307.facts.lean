theorem x_whyNoFact {Q : Int32 → Prop} {A B : Prop} [Decidable A] [Decidable B] {σ : wS} : wx_X5_whyNoFact Q (b2 A) (b2 B) σ ↔ Q (if A then (if B then (if σ.1 4 < 100 then 0 else 3) else 2) else 1) := by
  unfold wx_X5_whyNoFact
  rw [x_whyNot, why_eq]
  by_cases a : A
  · rw [if_pos a, if_pos a]
    by_cases b : B
    · rw [if_pos b, if_pos b]
      refine ⟨fun h => ?_, fun h => i_t' rfl ?_⟩
      · have h := h.2 rfl
        rw [x_isFull] at h
        by_cases c : σ.1 4 < 100
        · rw [if_pos c]; exact h.1 (b2_0.mpr (fun z => z c))
        · rw [if_neg c]; exact h.2 (fun z => b2_0.mp z c)
      · rw [x_isFull]
        by_cases c : σ.1 4 < 100
        · rw [if_pos c] at h; exact q_f (fun z => z c) h
        · rw [if_neg c] at h; exact q_t c h
    · rw [if_neg b, if_neg b]
      exact ⟨fun h => h.1 (by decide), fun h => i_f' (by decide) h⟩
  · rw [if_neg a, if_neg a]
    exact ⟨fun h => h.1 (by decide), fun h => i_f' (by decide) h⟩
theorem x_tell {Q : Int32 → wS → Prop} {kd day : Int32} {σ : wS} {F : Nat} (hF : F < 100) (h4 : σ.1 4 = nI F) (hq : Q (nI F) (sI (sA (sA (sA σ 10 (nI F) kd) 11 (nI F) day) 12 (nI F) (-1)) 4 (nI (F + 1)))) : wx_X2_tell Q kd day σ := by
  unfold wx_X2_tell
  rw [x_isFull, h4]
  have c : nI F < 100 := (nI_ltI (b := 100) (by omega) (by omega)).mpr hF
  have hin : vp_in (nI F) 100 := nI_in hF (by decide)
  refine q_f (fun z => z c) ⟨hin, fun σ3 e3 => ?_⟩
  have q3 : σ3.1 4 = nI F := by subst e3; exact h4
  rw [q3]
  refine ⟨hin, fun σ4 e4 => ?_⟩
  have q4 : σ4.1 4 = nI F := by subst e4; exact q3
  rw [q4]
  refine ⟨hin, fun σ5 e5 σ6 e6 => ?_⟩
  have q5 : σ5.1 4 = nI F := by subst e5; exact q4
  rw [q5, nI_1] at e6
  have q6 : σ6.1 4 - 1 = nI F := by subst e6; show nI (F + 1) - 1 = nI F; exact nI_pred F
  rw [q6]
  subst e6; subst e5; subst e4; subst e3
  exact hq
theorem x_addLimit {Q : wS → Prop} {t h l : Int32} {σ : wS} {F k : Nat} (hF : F < 100) (hk : k < 2) (h4 : σ.1 4 = nI (F + 1)) (h13 : σ.2.2.1 13 F = nI k) (hq : Q (sA (sA (sA (sA σ 14 (nI (2 * F + k)) t) 15 (nI (2 * F + k)) h) 16 (nI (2 * F + k)) l) 13 (nI F) (nI (k + 1)))) : wx_X2_addLimit Q t h l σ := by
  intro a1 e1
  rw [h4, nI_pred] at e1
  subst e1
  have hcl : (nI F).toNatClampNeg = F := nI_clamp (by omega)
  have hin : vp_in (nI F) 100 := nI_in hF (by decide)
  have e13 : aI σ 13 (nI F) = nI k := by show σ.2.2.1 13 (nI F).toNatClampNeg = _; rw [hcl]; exact h13
  refine i_f (nI_pos (by omega)) ⟨hin, ?_⟩
  rw [e13]
  refine i_t ((nI_ltI (b := 2) (by omega) (by omega)).mpr hk) ⟨hin, fun a2 e2 => ?_⟩
  have e2 : a2 = nI (2 * F + k) := by rw [e2]; show nI 2 * nI F + nI k = _; rw [pk_mul, nI_add]
  subst e2
  have hin2 : vp_in (nI (2 * F + k)) 200 := nI_in (by omega) (by decide)
  refine ⟨hin2, fun σ3 e3 => ⟨hin2, fun σ4 e4 => ⟨hin2, fun σ5 e5 => ⟨hin, hin, fun σ6 e6 => ?_⟩⟩⟩⟩
  have e5' : aI σ5 13 (nI F) = nI k := by subst e5; subst e4; subst e3; exact e13
  rw [e5', nI_1] at e6
  subst e6; subst e5; subst e4; subst e3
  exact hq
theorem m_adds {Q : Int32 → wS → Prop} {kd a b d day : Int32} {σ : wS} {F : Nat} (hF : F ≤ 100) (h4 : σ.1 4 = nI F) (h3 : F = 100 → Q (-1) (sI σ 0 3)) (hq : F < 100 → Q (nI F) (sI (sA (sA (sA (sA (sA (sA σ 0 (nI F) kd) 1 (nI F) a) 2 (nI F) b) 3 (nI F) d) 4 (nI F) day) 5 (nI F) (-1)) 4 (nI (F + 1)))) : wm_X6_adds Q kd a b d day σ := by
  unfold wm_X6_adds
  rw [h4]
  by_cases c : F = 100
  · exact i_t' (by rw [c]; rfl) (m_refuse.mpr (h3 c))
  · refine i_f' (fun z => c ((nI_eq (b := 100) (by omega) (by omega)).mp z)) ?_
    have hin : vp_in (nI F) 100 := nI_in (by omega) (by decide)
    refine ⟨hin, fun σ1 e1 => ?_⟩
    have q1 : σ1.1 4 = nI F := by subst e1; exact h4
    rw [q1]
    refine ⟨hin, fun σ2 e2 => ?_⟩
    have q2 : σ2.1 4 = nI F := by subst e2; exact q1
    rw [q2]
    refine ⟨hin, fun σ3 e3 => ?_⟩
    have q3 : σ3.1 4 = nI F := by subst e3; exact q2
    rw [q3]
    refine ⟨hin, fun σ4 e4 => ?_⟩
    have q4 : σ4.1 4 = nI F := by subst e4; exact q3
    rw [q4]
    refine ⟨hin, fun σ5 e5 => ?_⟩
    have q5 : σ5.1 4 = nI F := by subst e5; exact q4
    rw [q5]
    refine ⟨hin, fun σ6 e6 σ7 e7 => ?_⟩
    have q6 : σ6.1 4 = nI F := by subst e6; exact q5
    rw [q6, nI_1] at e7
    have q7 : σ7.1 4 - 1 = nI F := by subst e7; show nI (F + 1) - 1 = nI F; exact nI_pred F
    rw [q7]
    subst e7; subst e6; subst e5; subst e4; subst e3; subst e2; subst e1
    exact hq (by omega)
theorem rF_add2 {P Mo F : Nat} {x10 x11 x12 x13 x14 x15 x16 m0 m1 m2 m3 m4 m5 : Nat → Int32} (hF : F < 100) (h13 : ∀ f, F ≤ f → f < 100 → x13 f = 0)
    (hf : ∀ f, f < F → rFact P Mo (x10 f) (x11 f) (x12 f) (x13 f) (x14 (2 * f)) (x15 (2 * f)) (x16 (2 * f)) (x14 (2 * f + 1)) (x15 (2 * f + 1)) (x16 (2 * f + 1)) (m0 f) (m1 f) (m2 f) (m3 f) (m4 f) (m5 f))
    {kd day t0 h0 l0 t1 h1 l1 a b d : Int32} (hn : rFact P Mo kd day (-1) 2 t0 h0 l0 t1 h1 l1 kd a b d day (-1)) :
    rF P Mo (nI (F + 1)) (upd x10 F kd) (upd x11 F day) (upd x12 F (-1)) (upd (upd x13 F 1) F 2) (upd (upd x14 (2 * F) t0) (2 * F + 1) t1) (upd (upd x15 (2 * F) h0) (2 * F + 1) h1) (upd (upd x16 (2 * F) l0) (2 * F + 1) l1) (nI (F + 1)) (upd m0 F kd) (upd m1 F a) (upd m2 F b) (upd m3 F d) (upd m4 F day) (upd m5 F (-1)) := by
  refine ⟨F + 1, by omega, rfl, rfl, fun f h1 h2 => ?_, fun f h => ?_⟩
  · rw [pk_un (by omega), pk_un (by omega)]; exact h13 f (by omega) h2
  · by_cases e : f = F
    · subst e
      simp only [pk_us, pk_un (show 2 * f ≠ 2 * f + 1 by omega)]
      exact hn
    · have e1 : 2 * f ≠ 2 * F + 1 := by omega
      have e2 : 2 * f ≠ 2 * F := by omega
      have e3 : 2 * f + 1 ≠ 2 * F + 1 := by omega
      have e4 : 2 * f + 1 ≠ 2 * F := by omega
      simp only [pk_un e, pk_un e1, pk_un e2, pk_un e3, pk_un e4]
      exact hf f (by omega)
theorem rF_add1 {P Mo F : Nat} {x10 x11 x12 x13 x14 x15 x16 m0 m1 m2 m3 m4 m5 : Nat → Int32} (hF : F < 100) (h13 : ∀ f, F ≤ f → f < 100 → x13 f = 0)
    (hf : ∀ f, f < F → rFact P Mo (x10 f) (x11 f) (x12 f) (x13 f) (x14 (2 * f)) (x15 (2 * f)) (x16 (2 * f)) (x14 (2 * f + 1)) (x15 (2 * f + 1)) (x16 (2 * f + 1)) (m0 f) (m1 f) (m2 f) (m3 f) (m4 f) (m5 f))
    {kd day t0 h0 l0 a b d : Int32} (hn : ∀ t1 h1 l1, rFact P Mo kd day (-1) 1 t0 h0 l0 t1 h1 l1 kd a b d day (-1)) :
    rF P Mo (nI (F + 1)) (upd x10 F kd) (upd x11 F day) (upd x12 F (-1)) (upd x13 F 1) (upd x14 (2 * F) t0) (upd x15 (2 * F) h0) (upd x16 (2 * F) l0) (nI (F + 1)) (upd m0 F kd) (upd m1 F a) (upd m2 F b) (upd m3 F d) (upd m4 F day) (upd m5 F (-1)) := by
  refine ⟨F + 1, by omega, rfl, rfl, fun f h1 h2 => ?_, fun f h => ?_⟩
  · rw [pk_un (by omega)]; exact h13 f (by omega) h2
  · by_cases e : f = F
    · subst e
      simp only [pk_us]
      exact hn _ _ _
    · have e2 : 2 * f ≠ 2 * F := by omega
      have e4 : 2 * f + 1 ≠ 2 * F := by omega
      simp only [pk_un e, pk_un e2, pk_un e4]
      exact hf f (by omega)
/-- a fact of two limits, in both -/
theorem fact2 {P Mo F : Nat} {σx σm : wS} (h : Rel σx σm) (h0 : Rel0 P Mo σx σm) (hF : F < 100) (f2 : σx.1 4 = nI F) (f3 : σm.1 4 = nI F) (f4 : ∀ f, F ≤ f → f < 100 → σx.2.2.1 13 f = 0)
    (f5 : ∀ f, f < F → rFact P Mo (σx.2.2.1 10 f) (σx.2.2.1 11 f) (σx.2.2.1 12 f) (σx.2.2.1 13 f) (σx.2.2.1 14 (2 * f)) (σx.2.2.1 15 (2 * f)) (σx.2.2.1 16 (2 * f)) (σx.2.2.1 14 (2 * f + 1)) (σx.2.2.1 15 (2 * f + 1)) (σx.2.2.1 16 (2 * f + 1)) (σm.2.2.1 0 f) (σm.2.2.1 1 f) (σm.2.2.1 2 f) (σm.2.2.1 3 f) (σm.2.2.1 4 f) (σm.2.2.1 5 f))
    {kd day t0 h0' l0 t1 h1 l1 a b d : Int32} (hn : rFact P Mo kd day (-1) 2 t0 h0' l0 t1 h1 l1 kd a b d day (-1)) {K : Int32 → wS → Prop} (hK : ∀ (r1 : Int32) (σx1 : wS), wm_X6_adds (fun r2 σm1 => r1 = r2 ∧ Rel σx1 σm1) kd a b d day (sI (sI σm 1 0) 0 0) → K r1 σx1) :
    wx_X2_tell (fun r1 σ2 => wx_X2_addLimit (fun σ3 => wx_X2_addLimit (fun σ4 => K r1 (sI σ4 3 0)) t1 h1 l1 σ3) t0 h0' l0 σ2) kd day σx := by
  have cF : (nI F).toNatClampNeg = F := nI_clamp (by omega)
  have c0 : (nI (2 * F + 0)).toNatClampNeg = 2 * F + 0 := nI_clamp (by omega)
  have c1 : (nI (2 * F + 1)).toNatClampNeg = 2 * F + 1 := nI_clamp (by omega)
  refine x_tell hF f2 (x_addLimit (k := 0) hF (by omega) rfl (f4 F (Nat.le_refl _) hF) (x_addLimit (k := 1) hF (by omega) rfl ?_ ?_))
  · show upd (σx.2.2.1 13) (nI F).toNatClampNeg (nI (0 + 1)) F = nI 1
    rw [cF, pk_us]
  · refine hK _ _ (m_adds (F := F) (by omega) f3 (fun z => by omega) (fun _ => ⟨rfl, rfl, P, Mo, h0.1, h0.2.1, h0.2.2.1, h0.2.2.2.1, h0.2.2.2.2.1, h0.2.2.2.2.2.1, h0.2.2.2.2.2.2.1, ?_, h0.2.2.2.2.2.2.2.2⟩))
    show rF P Mo (nI (F + 1)) (upd (σx.2.2.1 10) (nI F).toNatClampNeg kd) (upd (σx.2.2.1 11) (nI F).toNatClampNeg day) (upd (σx.2.2.1 12) (nI F).toNatClampNeg (-1)) (upd (upd (σx.2.2.1 13) (nI F).toNatClampNeg (nI (0 + 1))) (nI F).toNatClampNeg (nI (1 + 1))) (upd (upd (σx.2.2.1 14) (nI (2 * F + 0)).toNatClampNeg t0) (nI (2 * F + 1)).toNatClampNeg t1) (upd (upd (σx.2.2.1 15) (nI (2 * F + 0)).toNatClampNeg h0') (nI (2 * F + 1)).toNatClampNeg h1) (upd (upd (σx.2.2.1 16) (nI (2 * F + 0)).toNatClampNeg l0) (nI (2 * F + 1)).toNatClampNeg l1) (nI (F + 1)) (upd (σm.2.2.1 0) (nI F).toNatClampNeg kd) (upd (σm.2.2.1 1) (nI F).toNatClampNeg a) (upd (σm.2.2.1 2) (nI F).toNatClampNeg b) (upd (σm.2.2.1 3) (nI F).toNatClampNeg d) (upd (σm.2.2.1 4) (nI F).toNatClampNeg day) (upd (σm.2.2.1 5) (nI F).toNatClampNeg (-1))
    rw [cF, c0, c1]
    exact rF_add2 hF f4 f5 hn
theorem fact1 {P Mo F : Nat} {σx σm : wS} (h : Rel σx σm) (h0 : Rel0 P Mo σx σm) (hF : F < 100) (f2 : σx.1 4 = nI F) (f3 : σm.1 4 = nI F) (f4 : ∀ f, F ≤ f → f < 100 → σx.2.2.1 13 f = 0)
    (f5 : ∀ f, f < F → rFact P Mo (σx.2.2.1 10 f) (σx.2.2.1 11 f) (σx.2.2.1 12 f) (σx.2.2.1 13 f) (σx.2.2.1 14 (2 * f)) (σx.2.2.1 15 (2 * f)) (σx.2.2.1 16 (2 * f)) (σx.2.2.1 14 (2 * f + 1)) (σx.2.2.1 15 (2 * f + 1)) (σx.2.2.1 16 (2 * f + 1)) (σm.2.2.1 0 f) (σm.2.2.1 1 f) (σm.2.2.1 2 f) (σm.2.2.1 3 f) (σm.2.2.1 4 f) (σm.2.2.1 5 f))
    {kd day t0 h0' l0 a b d : Int32} (hn : ∀ t1 h1 l1, rFact P Mo kd day (-1) 1 t0 h0' l0 t1 h1 l1 kd a b d day (-1)) {K : Int32 → wS → Prop} (hK : ∀ (r1 : Int32) (σx1 : wS), wm_X6_adds (fun r2 σm1 => r1 = r2 ∧ Rel σx1 σm1) kd a b d day (sI (sI σm 1 0) 0 0) → K r1 σx1) :
    wx_X2_tell (fun r1 σ2 => wx_X2_addLimit (fun σ3 => K r1 (sI σ3 3 0)) t0 h0' l0 σ2) kd day σx := by
  have cF : (nI F).toNatClampNeg = F := nI_clamp (by omega)
  have c0 : (nI (2 * F + 0)).toNatClampNeg = 2 * F + 0 := nI_clamp (by omega)
  refine x_tell hF f2 (x_addLimit (k := 0) hF (by omega) rfl (f4 F (Nat.le_refl _) hF) ?_)
  refine hK _ _ (m_adds (F := F) (by omega) f3 (fun z => by omega) (fun _ => ⟨rfl, rfl, P, Mo, h0.1, h0.2.1, h0.2.2.1, h0.2.2.2.1, h0.2.2.2.2.1, h0.2.2.2.2.2.1, h0.2.2.2.2.2.2.1, ?_, h0.2.2.2.2.2.2.2.2⟩))
  show rF P Mo (nI (F + 1)) (upd (σx.2.2.1 10) (nI F).toNatClampNeg kd) (upd (σx.2.2.1 11) (nI F).toNatClampNeg day) (upd (σx.2.2.1 12) (nI F).toNatClampNeg (-1)) (upd (σx.2.2.1 13) (nI F).toNatClampNeg (nI (0 + 1))) (upd (σx.2.2.1 14) (nI (2 * F + 0)).toNatClampNeg t0) (upd (σx.2.2.1 15) (nI (2 * F + 0)).toNatClampNeg h0') (upd (σx.2.2.1 16) (nI (2 * F + 0)).toNatClampNeg l0) (nI (F + 1)) (upd (σm.2.2.1 0) (nI F).toNatClampNeg kd) (upd (σm.2.2.1 1) (nI F).toNatClampNeg a) (upd (σm.2.2.1 2) (nI F).toNatClampNeg b) (upd (σm.2.2.1 3) (nI F).toNatClampNeg d) (upd (σm.2.2.1 4) (nI F).toNatClampNeg day) (upd (σm.2.2.1 5) (nI F).toNatClampNeg (-1))
  rw [cF, c0]
  exact rF_add1 hF f4 f5 hn
