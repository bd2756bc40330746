/-! SPANS: what class and reference find of the times -/
theorem m_pp {Q : Int32 → Prop} {x : Int32} : wm_X6_placeOf Q x ↔ Q (1 + x) := Iff.rfl
theorem m_bg {Q : Int32 → Prop} {x : Int32} : wm_X6_begins Q x ↔ Q (21 + 2 * x) := Iff.rfl
theorem m_en {Q : Int32 → Prop} {x : Int32} : wm_X6_endsAt Q x ↔ Q (22 + 2 * x) := Iff.rfl
theorem cls_val {L : List gL} (ho : okL L) {s v : Nat} {g : Nat → Int32} (hs : s < 53) (hv : v < 53) (hp : potL L (fun v => (g v).toInt)) (h0 : (g s).toInt = 0) (ha : attL L s g) : (g v).toInt = -dD L v s := by
  have hn := pot_noneg ho hp
  obtain ⟨l, l1, l2⟩ := dD_at L v s
  have h1 := pot_wt ho hp l s v l1 hs hv
  obtain ⟨k, k1, k2⟩ := ha v hv
  have h2 := dD_le ho hn (s := v) (v := s) k1
  omega
theorem dD_lo {L : List gL} (ho : okL L) (hn : noneg L) {s v : Nat} (hs : s < 53) : -100000 ≤ dD L s v ∧ dD L s v ≤ 100000 := by
  have h1 := dD_bd ho hn s s v
  have h2 := dD_bd ho hn s v s
  rw [dD_s ho hn hs] at h1 h2
  have := bd_le v s
  have := bd_le s v
  omega
theorem l2i {x : Int64} (h1 : -100000 ≤ x.toInt) (h2 : x.toInt ≤ 100000) : (Int64.toInt32 x).toInt = x.toInt := by
  rw [Int64.toInt_toInt32]
  rw [Int.bmod_def]
  split <;> omega
theorem negL {x : Int64} (h1 : -4000000000000 ≤ x.toInt) (h2 : x.toInt ≤ 4000000000000) : (-x).toInt = -x.toInt := by
  rw [Int64.toInt_neg]
  rw [Int.bmod_def]
  split <;> omega
theorem LF_same {σ τ : wS} (h : ∀ a, a < 6 → τ.2.2.1 a = σ.2.2.1 a) (day w : Int32) : ∀ F, LF τ day w F = LF σ day w F
  | 0 => rfl
  | F + 1 => by
    unfold LF
    rw [LF_same h day w F, h 0 (by omega), h 1 (by omega), h 2 (by omega), h 3 (by omega), h 4 (by omega), h 5 (by omega)]
theorem LM_same {σ τ : wS} (h : ∀ a, a < 6 → τ.2.2.1 a = σ.2.2.1 a) (day w : Int32) : ∀ F, LM τ day w F = LM σ day w F
  | 0 => rfl
  | F + 1 => by
    unfold LM
    rw [LM_same h day w F, h 0 (by omega), h 1 (by omega), h 2 (by omega), h 3 (by omega), h 4 (by omega), h 5 (by omega)]
/-- the graphs of both, of the same facts -/
theorem gOk {P Mo : Nat} {σx σm : wS} (h0 : Rel0 P Mo σx σm) : ∃ F : Nat, F ≤ 100 ∧ σx.1 4 = nI F ∧ σm.1 4 = nI F ∧ (∀ day w, ∀ x ∈ LF σm day w F, okF P Mo x) ∧
    (∀ (τ : wS), keepX σx τ → ∀ (Q : wS → Prop) (day w : Int32), (∀ υ, keepX σx υ → gHas υ (LF σm day w F) → Q υ) → wx_X4_gather Q day w τ) ∧
    (∀ (τ : wS), keepM σm τ → ∀ (Q : wS → Prop) (day w : Int32), (∀ υ, keepN τ υ → υ.1 6 = nI (bP P ++ bM Mo).length → mHas υ (bP P ++ bM Mo ++ LM σm day w F) → Q υ) → wm_X6_net Q day w τ) ∧
    (∀ day w, arcs P Mo (bP P ++ bM Mo ++ LM σm day w F) (LF σm day w F)) := by
  obtain ⟨p1, p2, p3, p4, p5, p6, hO, ⟨F, f1, f2, f3, f4, f5⟩, hE, hC, hR⟩ := id h0
  have hok : ∀ day w, ∀ x ∈ LF σm day w F, okF P Mo x := fun day w => LF_ok (fun f hf => (rFact_list p1 p2 (f5 f hf)).2.2.1)
  refine ⟨F, f1, f2, f3, hok, fun τ kp Q day w hq => ?_, fun τ kp Q day w hq => ?_, fun day w => arcs_of (hok day w) (fun x => LM_mem)⟩
  · refine x_gather (σm := σm) (P := P) (Mo := Mo) (F := F) p1 p2 f1 ((kp.1 4 (by omega) (by omega)).trans f2) (fun f hf => ?_) (fun υ k g => hq υ (kp.trans k) g)
    rw [kp.2 10 (by omega) (by omega), kp.2 11 (by omega) (by omega), kp.2 12 (by omega) (by omega), kp.2 13 (by omega) (by omega), kp.2 14 (by omega) (by omega), kp.2 15 (by omega) (by omega), kp.2 16 (by omega) (by omega)]
    exact f5 f hf
  · have hsm : ∀ a, a < 6 → τ.2.2.1 a = σm.2.2.1 a := fun a ha => kp.2 a (by omega) (by omega) (by omega)
    refine m_net (P := P) (Mo := Mo) (F := F) p1 p2 f1 ((kp.1 2 (by omega) (by omega) (by omega) (by omega) (by omega)).trans p4) ((kp.1 3 (by omega) (by omega) (by omega) (by omega) (by omega)).trans p6) ((kp.1 4 (by omega) (by omega) (by omega) (by omega) (by omega)).trans f3) (fun f hf => ?_) (fun υ k k6 g => hq υ k k6 ?_)
    · rw [hsm 0 (by omega), hsm 1 (by omega), hsm 2 (by omega), hsm 3 (by omega), hsm 4 (by omega), hsm 5 (by omega)]
      exact ⟨_, _, _, _, _, _, _, _, _, _, f5 f hf⟩
    · rw [LM_same hsm] at g; exact g
/-- one end of a span -/
theorem spans {P Mo : Nat} {σx σm : wS} (h : Rel σx σm) (h0 : Rel0 P Mo σx σm) {pt : Nat} (hpt : inE P Mo pt) {gr day : Int32} (hd : isR day 0 9999) {K : Int32 → wS → Prop} (hK : ∀ (r1 : Int32) (σx1 : wS), wm_X6_spanOf (fun r2 σm1 => r1 = r2 ∧ Rel σx1 σm1) (nI pt) gr day (sI (sI σm 1 0) 0 0) → K r1 σx1) :
    wx_X5_endOfSpan K (nI pt) gr day σx := by
  obtain ⟨F, f1, f2, f3, hok, hx, hm, ha⟩ := gOk h0
  obtain ⟨p1, p2, -⟩ := h0
  have hoA := okF.A p1 p2 (hok day (-1))
  have ho := hoA.L
  have hpl := inE_lt p1 p2 hpt
  have z0 : (0 : Int32).toNatClampNeg = 0 := by decide
  have ini := keepM.ini σm
  -- the reference
  have M : ∀ (Q : Int32 → wS → Prop), ((∃ f, potL (LF σm day (-1) F) f) → ∀ (r : Int32) (τ : wS), keepN (sI (sI σm 1 0) 0 0) τ → r.toInt = (if gr = 0 then dD (LF σm day (-1) F) 0 pt else -dD (LF σm day (-1) F) pt 0) → Q r τ) → ((¬ ∃ f, potL (LF σm day (-1) F) f) → ∀ τ : wS, keepN (sI (sI σm 1 0) 0 0) τ → Q (-1) (sI τ 0 5)) → wm_X6_spanOf Q (nI pt) gr day (sI (sI σm 1 0) 0 0) := by
    intro Q q1 q2
    unfold wm_X6_spanOf
    rw [m_isDay]
    refine q_t' hd (hm _ ini _ day (-1) (fun υ kn k6 mh => ?_))
    refine m_goes p1 p2 mh (ha day (-1)) (hok day (-1)) (inE_0 P Mo) (fun hp e he => i_f' (by decide) ⟨fun c => ?_, fun c => ⟨nI_in hpl (by decide), ?_⟩⟩) (fun hp e => i_t' rfl (m_refuse.mpr (q2 hp _ (kn.trans (keepN.larr _ 1 e)))))
    · refine m_goes (σ := sBF υ 1 e) p1 p2 mh (ha day (-1)) (hok day (-1)) hpt (fun _ e2 he2 => ⟨nI_in (c := 0) (by omega) (by decide), ?_⟩) (fun hnp => absurd hp hnp)
      obtain ⟨f, hf⟩ := hp
      have hn := pot_noneg ho hf
      have v0 := (he2 0 (by omega)).1 (inE_0 P Mo)
      have lm := dD_lo ho hn (v := 0) hpl
      refine q1 ⟨f, hf⟩ _ _ (kn.trans ((keepN.larr _ 1 e).trans (keepN.larr _ 1 e2))) ?_
      rw [if_neg c]
      have e0 : aL (sBF (sBF υ 1 e) 1 e2) 1 0 = e2 0 := by rw [show (0 : Int32) = nI 0 from rfl]; exact aL_sBF_nI _ 1 e2 (by omega)
      have lm2 : -100000 ≤ (e2 0).toInt ∧ (e2 0).toInt ≤ 100000 := by rw [v0]; exact lm
      have ng : (-(e2 0)).toInt = -(e2 0).toInt := negL (by omega) (by omega)
      rw [e0, l2i (by omega) (by omega), ng, v0]
    · obtain ⟨f, hf⟩ := hp
      have hn := pot_noneg ho hf
      have v0 := (he pt hpl).1 hpt
      have lm := dD_lo ho hn (s := 0) (v := pt) (by omega)
      refine q1 ⟨f, hf⟩ _ _ (kn.trans (keepN.larr _ 1 e)) ?_
      rw [if_pos c]
      have lm2 : -100000 ≤ (e pt).toInt ∧ (e pt).toInt ≤ 100000 := by rw [v0]; exact lm
      rw [aL_sBF_nI _ 1 e (by omega), l2i lm2.1 lm2.2, v0]
  -- the class
  unfold wx_X5_endOfSpan
  have J : ∀ (υ : wS) (s : Nat), s < 53 → keepX σx υ → gHas υ (LF σm day (-1) F) → (gr = 0 ∧ s = pt ∨ ¬ gr = 0 ∧ s = 0) → wx_X5_endOfSpan_J26 K (nI pt) gr (nI s) υ := by
    intro υ s hs kx hg hc
    unfold wx_X5_endOfSpan_J26
    refine x_measure hs hg hoA (fun g hp g0 ga => i_f' (by decide) ⟨fun c => ?_, fun c => ?_⟩) (fun hnp g => i_t' rfl (x_refuse.mpr ?_))
    · rcases hc with ⟨c1, rfl⟩ | ⟨c1, -⟩
      · refine x_wayTo (v := 0) (by omega) (x_answer.mpr (hK _ _ (M _ (fun hp2 r τ kn hr => ⟨?_, rel_keep h (kx.trans ((keepX.arr υ 25 g (by omega)).trans (keepX.st _ 0))) (ini.trans kn.M) kn.st.symm⟩) (fun hnp => absurd ⟨_, hp⟩ hnp))))
        have hv := cls_val ho hs (show 0 < 53 by omega) hp g0 ga
        have lm := dD_lo ho (pot_noneg ho hp) (s := 0) (v := s) (by omega)
        rw [fa_eq, hr, if_pos c, fb_negI (by omega), hv]; omega
      · exact absurd c c1
    · rcases hc with ⟨c1, -⟩ | ⟨c1, rfl⟩
      · exact absurd c1 c
      · refine x_wayTo (v := pt) hpl (x_answer.mpr (hK _ _ (M _ (fun hp2 r τ kn hr => ⟨?_, rel_keep h (kx.trans ((keepX.arr υ 25 g (by omega)).trans (keepX.st _ 0))) (ini.trans kn.M) kn.st.symm⟩) (fun hnp => absurd ⟨_, hp⟩ hnp))))
        have hv := cls_val ho hs hpl hp g0 ga
        rw [fa_eq, hr, if_neg c, hv]
    · exact hK _ _ (M _ (fun hp2 => absurd hp2 hnp) (fun _ τ kn => ⟨rfl, rel_keep h (kx.trans ((keepX.arr υ 25 g (by omega)).trans (keepX.st _ 5))) (ini.trans (kn.M.trans (keepM.int _ 0 5 (by omega)))) rfl⟩))
  refine hx σx (keepX.rf σx) _ day (-1) (fun υ kx hg => ⟨fun c => J υ pt hpl kx hg (Or.inl ⟨c, rfl⟩), fun c => J υ 0 (by omega) kx hg (Or.inr ⟨c, rfl⟩)⟩)
theorem r_span : rT_span Rel := by
  intro σx σm x1 x2 x3 _ h
  obtain ⟨hs, P, Mo, h0⟩ := id h
  have p := h0
  obtain ⟨p1, p2, p3, p4, p5, p6, -⟩ := p
  have eP : (sI (sI σm 1 0) 0 0).1 2 = nI P := p4
  unfold wx_X5_span
  rw [x_isPlate, p3, x_isDay, x_whyNot, why_eq]
  by_cases a : isN x1 (nI P)
  · rw [if_pos a]
    obtain ⟨j, hj, hxj⟩ := isN_of (by omega) a
    by_cases b : isR x3 0 9999
    · rw [if_pos b]
      refine i_t rfl ?_
      rw [x_pp, hxj, pp_nI]
      refine spans h h0 (inE_p (Mo := Mo) hj) b (fun r1 σx1 hsx τ1 e1 τ2 e2 => ?_)
      subst e1; subst e2
      rw [m_isPlate, eP, ← hxj]
      refine q_t a ?_
      rw [m_pp, hxj, pp_nI]
      exact hsx
    · rw [if_neg b]
      refine i_f (by decide) (x_refuse.mpr ?_)
      intro τ1 e1 τ2 e2
      subst e1; subst e2
      rw [m_isPlate, eP]
      refine q_t a ?_
      rw [m_pp]
      unfold wm_X6_spanOf
      rw [m_isDay]
      exact q_f' b (m_refuse.mpr ⟨rfl, rel_no h 2⟩)
  · rw [if_neg a]
    refine i_f (by decide) (x_refuse.mpr ?_)
    intro τ1 e1 τ2 e2
    subst e1; subst e2
    rw [m_isPlate, eP]
    exact q_f a (m_refuse.mpr ⟨rfl, rel_no h 1⟩)
theorem r_times : rT_times Rel := by
  intro σx σm x1 x2 x3 x4 hx2 _ h
  obtain ⟨hs, P, Mo, h0⟩ := id h
  have p := h0
  obtain ⟨p1, p2, p3, p4, p5, p6, -⟩ := p
  have eP : (sI (sI σm 1 0) 0 0).1 3 = nI Mo := p6
  unfold wx_X5_times
  rw [x_isMotif, p5, x_isDay, x_whyNot, why_eq]
  by_cases a : isN x1 (nI Mo)
  · rw [if_pos a]
    obtain ⟨j, hj, hxj⟩ := isN_of (by omega) a
    by_cases b : isR x4 0 9999
    · rw [if_pos b]
      refine i_t rfl ?_
      rcases hx2 with z | z
      · rw [z, x_mp0, hxj, mp_nI]
        refine spans h h0 (inE_b (P := P) hj) b (fun r1 σx1 hsx τ1 e1 τ2 e2 => ?_)
        subst e1; subst e2
        rw [m_isMotif, eP, ← hxj]
        refine q_t a (i_t rfl ?_)
        rw [m_bg, hxj, mp_nI]
        exact hsx
      · rw [z, x_mp1, hxj, mp1_nI]
        refine spans h h0 (inE_e (P := P) hj) b (fun r1 σx1 hsx τ1 e1 τ2 e2 => ?_)
        subst e1; subst e2
        rw [m_isMotif, eP, ← hxj]
        refine q_t a (i_f (by decide) ?_)
        rw [m_en, hxj, m_ea]
        exact hsx
    · rw [if_neg b]
      refine i_f (by decide) (x_refuse.mpr ?_)
      intro τ1 e1 τ2 e2
      subst e1; subst e2
      rw [m_isMotif, eP]
      refine q_t a ⟨fun _ => ?_, fun _ => ?_⟩
      · rw [m_bg]
        unfold wm_X6_spanOf
        rw [m_isDay]
        exact q_f' b (m_refuse.mpr ⟨rfl, rel_no h 2⟩)
      · rw [m_en]
        unfold wm_X6_spanOf
        rw [m_isDay]
        exact q_f' b (m_refuse.mpr ⟨rfl, rel_no h 2⟩)
  · rw [if_neg a]
    refine i_f (by decide) (x_refuse.mpr ?_)
    intro τ1 e1 τ2 e2
    subst e1; subst e2
    rw [m_isMotif, eP]
    exact q_f a (m_refuse.mpr ⟨rfl, rel_no h 1⟩)
