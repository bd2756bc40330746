theorem r_frees : rT_frees Rel := by
  intro σx σm x1 x2 h
  obtain ⟨hs, P, Mo, h0⟩ := id h
  obtain ⟨F, f1, f2, f3, hok, hx, hm, ha⟩ := gOk h0
  obtain ⟨p1, p2, p3, p4, p5, p6, hO, ⟨F', g1, g2, g3, g4, g5⟩, -⟩ := h0
  have hFF : F' = F := (nI_eq (by omega) (by omega)).mp (g3.symm.trans f3)
  subst hFF
  have eF : (sI (sI σm 1 0) 0 0).1 4 = nI F' := f3
  have ini := keepM.ini σm
  unfold wx_X5_frees
  rw [x_has, f2, x_isDay, x_whyNot, why_eq]
  by_cases a : isN x1 (nI F')
  · rw [if_pos a]
    obtain ⟨j, hj, hxj⟩ := isN_of (by omega) a
    by_cases b : isR x2 0 9999
    · rw [if_pos b]
      refine i_t rfl (hx σx (keepX.rf σx) _ x2 (-1) (fun υ kx hg => ?_))
      have M : ∀ (Q : Int32 → wS → Prop), ((∃ f, potL (LF σm x2 (-1) F') f) → ∀ τ : wS, keepN (sI (sI σm 1 0) 0 0) τ → Q (-1) (sI τ 0 6)) → ((¬ ∃ f, potL (LF σm x2 (-1) F') f) → ¬ knows (σm.2.2.1 4 j) (σm.2.2.1 5 j) x2 → ∀ τ : wS, keepN (sI (sI σm 1 0) 0 0) τ → Q (-1) (sI τ 0 8)) → ((¬ ∃ f, potL (LF σm x2 (-1) F') f) → knows (σm.2.2.1 4 j) (σm.2.2.1 5 j) x2 → (∃ f, potL (LF σm x2 x1 F') f) → ∀ τ : wS, keepN (sI (sI σm 1 0) 0 0) τ → Q 1 τ) → ((¬ ∃ f, potL (LF σm x2 (-1) F') f) → knows (σm.2.2.1 4 j) (σm.2.2.1 5 j) x2 → (¬ ∃ f, potL (LF σm x2 x1 F') f) → ∀ τ : wS, keepN (sI (sI σm 1 0) 0 0) τ → Q 0 τ) → wm_X6_frees Q x1 x2 σm := by
        intro Q q1 q2 q3 q4 τ1 e1 τ2 e2
        subst e1; subst e2
        rw [m_isFact, eF]
        refine q_t' a ?_
        rw [m_isDay]
        refine q_t' b (hm _ ini _ x2 (-1) (fun ω kn k6 mh => ?_))
        refine m_goes p1 p2 mh (ha x2 (-1)) (hok x2 (-1)) (inE_0 P Mo) (fun hp e he => i_f (by decide) (m_refuse.mpr (q1 hp _ (kn.trans (keepN.larr _ 1 e))))) (fun hp e => i_t rfl ?_)
        have kn2 : keepN (sI (sI σm 1 0) 0 0) (sBF ω 1 e) := kn.trans (keepN.larr _ 1 e)
        have km2 : keepM σm (sBF ω 1 e) := ini.trans kn2.M
        rw [hxj, m_isKnown (by omega), km2.2 4 (by omega) (by omega) (by omega), km2.2 5 (by omega) (by omega) (by omega), ← hxj]
        by_cases c : knows (σm.2.2.1 4 j) (σm.2.2.1 5 j) x2
        · refine q_t' c (hm _ km2 _ x2 x1 (fun ω2 kn3 k7 mh2 => ?_))
          exact m_goes p1 p2 mh2 (ha x2 x1) (hok x2 x1) (inE_0 P Mo) (fun hp2 e2 he2 => i_f (by decide) (q3 hp c hp2 _ (kn2.trans (kn3.trans (keepN.larr _ 1 e2))))) (fun hp2 e2 => i_t rfl (q4 hp c hp2 _ (kn2.trans (kn3.trans (keepN.larr _ 1 e2)))))
        · exact q_f' c (m_refuse.mpr (q2 hp c _ kn2))
      have oA := okF.A p1 p2 (hok x2 (-1))
      refine x_measure (s := 0) (by omega) hg oA (fun g hp g0 ga => i_f (by decide) (x_refuse.mpr ?_)) (fun hp g => i_t rfl ?_)
      · exact M _ (fun _ τ kn => ⟨rfl, rel_keep h (kx.trans ((keepX.arr υ 25 g (by omega)).trans (keepX.st _ 6))) (ini.trans (kn.M.trans (keepM.int _ 0 6 (by omega)))) rfl⟩) (fun z => absurd ⟨_, hp⟩ z) (fun z => absurd ⟨_, hp⟩ z) (fun z => absurd ⟨_, hp⟩ z)
      have kx2 : keepX σx (sAF υ 25 g) := kx.trans (keepX.arr υ 25 g (by omega))
      have t11 : (sAF υ 25 g).2.2.1 11 j = σm.2.2.1 4 j := (congrFun (kx2.2 11 (by omega) (by omega)) j).trans (g5 j hj).2.1
      have t12 : (sAF υ 25 g).2.2.1 12 j = σm.2.2.1 5 j := (congrFun (kx2.2 12 (by omega) (by omega)) j).trans (g5 j hj).2.2.1
      rw [hxj, x_isKnown (F := F') hj f1 ((kx2.1 4 (by omega) (by omega)).trans f2) (by rw [t12, ← (g5 j hj).2.2.1]; exact (g5 j hj).2.2.2.2.1.1), t11, t12, ← hxj]
      by_cases c : knows (σm.2.2.1 4 j) (σm.2.2.1 5 j) x2
      · refine q_t' c (hx _ kx2 _ x2 x1 (fun υ2 kx3 hg2 => ?_))
        have oA2 := okF.A p1 p2 (hok x2 x1)
        refine x_measure (s := 0) (by omega) hg2 oA2 (fun g' hp2 g0' ga' => i_f (by decide) (x_answer.mpr ?_)) (fun hp2 g' => i_t rfl (x_answer.mpr ?_))
        · exact M _ (fun z => absurd z hp) (fun _ z => absurd c z) (fun _ _ _ τ kn => ⟨rfl, rel_keep h (kx3.trans ((keepX.arr υ2 25 g' (by omega)).trans (keepX.st _ 0))) (ini.trans kn.M) kn.st.symm⟩) (fun _ _ z => absurd ⟨_, hp2⟩ z)
        · exact M _ (fun z => absurd z hp) (fun _ z => absurd c z) (fun _ _ z => absurd z hp2) (fun _ _ _ τ kn => ⟨rfl, rel_keep h (kx3.trans ((keepX.arr υ2 25 g' (by omega)).trans (keepX.st _ 0))) (ini.trans kn.M) kn.st.symm⟩)
      · refine q_f' c (x_refuse.mpr ?_)
        exact M _ (fun z => absurd z hp) (fun _ _ τ kn => ⟨rfl, rel_keep h (kx2.trans (keepX.st _ 8)) (ini.trans (kn.M.trans (keepM.int _ 0 8 (by omega)))) rfl⟩) (fun _ z => absurd z c) (fun _ z => absurd z c)
    · rw [if_neg b]
      refine i_f (by decide) (x_refuse.mpr ?_)
      intro τ1 e1 τ2 e2
      subst e1; subst e2
      rw [m_isFact, eF]
      refine q_t' a ?_
      rw [m_isDay]
      exact q_f' b (m_refuse.mpr ⟨rfl, rel_no h 2⟩)
  · rw [if_neg a]
    refine i_f (by decide) (x_refuse.mpr ?_)
    intro τ1 e1 τ2 e2
    subst e1; subst e2
    rw [m_isFact, eF]
    exact q_f' a (m_refuse.mpr ⟨rfl, rel_no h 1⟩)
theorem r_order : rT_order Rel := by
  intro σx σm x1 x2 x3 h
  obtain ⟨hs, P, Mo, h0⟩ := id h
  obtain ⟨F, f1, f2, f3, hok, hx, hm, ha⟩ := gOk h0
  obtain ⟨p1, p2, p3, p4, p5, p6, -⟩ := h0
  have eP : (sI (sI σm 1 0) 0 0).1 2 = nI P := p4
  have ini := keepM.ini σm
  unfold wx_X5_order
  rw [x_areTwo, p3, x_isDay, x_whyNot, why_eq]
  have no1 : ¬ (isN x1 (nI P) ∧ isN x2 (nI P) ∧ x1 ≠ x2) → wm_X6_order (fun r2 σm1 => (-1 : Int32) = r2 ∧ Rel (sI σx 3 1) σm1) x1 x2 x3 σm := by
    intro hn τ1 e1 τ2 e2
    subst e1; subst e2
    rw [m_isPlate, eP]
    by_cases a1 : isN x1 (nI P)
    · refine q_t a1 ?_
      rw [m_isPlate, eP]
      by_cases a2 : isN x2 (nI P)
      · refine q_t a2 ?_
        by_cases a3 : x1 = x2
        · exact i_t' a3 (m_refuse.mpr ⟨rfl, rel_no h 1⟩)
        · exact absurd ⟨a1, a2, a3⟩ hn
      · exact q_f a2 (m_refuse.mpr ⟨rfl, rel_no h 1⟩)
    · exact q_f a1 (m_refuse.mpr ⟨rfl, rel_no h 1⟩)
  by_cases a : isN x1 (nI P) ∧ isN x2 (nI P) ∧ x1 ≠ x2
  · rw [if_pos a]
    obtain ⟨i, hi, hxi⟩ := isN_of (by omega) a.1
    obtain ⟨j, hj, hxj⟩ := isN_of (by omega) a.2.1
    by_cases b : isR x3 0 9999
    · rw [if_pos b]
      have oA := okF.A p1 p2 (hok x3 (-1))
      have ho := oA.L
      have iE : inE P Mo (1 + i) := inE_p hi
      have jE : inE P Mo (1 + j) := inE_p hj
      have i53 := inE_lt p1 p2 iE
      have j53 := inE_lt p1 p2 jE
      have z0L : (0 : Int64).toInt = 0 := by decide
      have z1L : (1 : Int64).toInt = 1 := by decide
      have z0 : (0 : Int32).toInt = 0 := by decide
      have M : ∀ (Q : Int32 → wS → Prop), ((¬ ∃ f, potL (LF σm x3 (-1) F) f) → ∀ τ : wS, keepN (sI (sI σm 1 0) 0 0) τ → Q (-1) (sI τ 0 5)) → ((∃ f, potL (LF σm x3 (-1) F) f) → ∀ τ : wS, keepN (sI (sI σm 1 0) 0 0) τ → ((1 ≤ dD (LF σm x3 (-1) F) (1 + i) (1 + j) → Q 2 τ) ∧ (¬ 1 ≤ dD (LF σm x3 (-1) F) (1 + i) (1 + j) → 1 ≤ -dD (LF σm x3 (-1) F) (1 + j) (1 + i) → Q 1 τ) ∧ (¬ 1 ≤ dD (LF σm x3 (-1) F) (1 + i) (1 + j) → ¬ 1 ≤ -dD (LF σm x3 (-1) F) (1 + j) (1 + i) → Q 0 τ))) → wm_X6_order Q x1 x2 x3 σm := by
        intro Q q1 q2 τ1 e1 τ2 e2
        subst e1; subst e2
        rw [m_isPlate, eP]
        refine q_t a.1 ?_
        rw [m_isPlate, eP]
        refine q_t a.2.1 (i_f' a.2.2 ?_)
        rw [m_isDay]
        refine q_t' b (hm _ ini _ x3 (-1) (fun ω kn k6 mh => ?_))
        refine m_goes p1 p2 mh (ha x3 (-1)) (hok x3 (-1)) (inE_0 P Mo) (fun hp e he => i_f' (by decide) ?_) (fun hp e => i_t' rfl (m_refuse.mpr (q1 hp _ (kn.trans (keepN.larr _ 1 e)))))
        rw [m_pp, hxi, pp_nI]
        refine m_goes (σ := sBF ω 1 e) p1 p2 mh (ha x3 (-1)) (hok x3 (-1)) iE (fun _ e2 he2 => ?_) (fun z => absurd hp z)
        rw [m_pp, hxj, pp_nI]
        refine ⟨nI_in j53 (by decide), ?_⟩
        rw [aL_sBF_nI _ 1 e2 (by omega)]
        have v1 := (he2 (1 + j) j53).1 jE
        have kn2 : keepN (sI (sI σm 1 0) 0 0) (sBF (sBF ω 1 e) 1 e2) := kn.trans ((keepN.larr _ 1 e).trans (keepN.larr _ 1 e2))
        refine ⟨fun c => ?_, fun c => ?_⟩
        · rw [fa_lt64, z1L, v1] at c
          rw [m_pp, pp_nI]
          refine m_goes (σ := sBF (sBF ω 1 e) 1 e2) p1 p2 mh (ha x3 (-1)) (hok x3 (-1)) jE (fun _ e3 he3 => ?_) (fun z => absurd hp z)
          rw [m_pp, pp_nI]
          refine ⟨nI_in i53 (by decide), ?_⟩
          rw [aL_sBF_nI _ 1 e3 (by omega)]
          have v2 := (he3 (1 + i) i53).1 iE
          have kn3 := kn2.trans (keepN.larr _ 1 e3)
          obtain ⟨f, hf⟩ := id hp
          have lm := dD_lo ho (pot_noneg ho hf) (s := 1 + j) (v := 1 + i) j53
          have ng : (-(e3 (1 + i))).toInt = -(e3 (1 + i)).toInt := negL (by rw [v2]; omega) (by rw [v2]; omega)
          obtain ⟨-, t2, t3⟩ := q2 hp _ kn3
          refine ⟨fun c2 => ?_, fun c2 => ?_⟩
          · rw [fa_lt64, z1L, ng, v2] at c2
            exact t3 (by omega) (by omega)
          · rw [fa_lt64, z1L, ng, v2] at c2
            exact t2 (by omega) (by omega)
        · rw [fa_lt64, z1L, v1] at c
          exact (q2 hp _ kn2).1 (by omega)
      refine i_t rfl (hx σx (keepX.rf σx) _ x3 (-1) (fun υ kx hg => ?_))
      rw [x_pp, hxj, pp_nI]
      refine x_measure j53 hg oA (fun g hp g0 ga => i_f' (by decide) ?_) (fun hp g => i_t' rfl (x_refuse.mpr ?_))
      · rw [x_pp, hxi, pp_nI]
        refine x_wayTo i53 ?_
        have v1 := cls_val ho j53 i53 hp g0 ga
        have kx2 : keepX σx (sAF υ 25 g) := kx.trans (keepX.arr υ 25 g (by omega))
        refine ⟨fun c => ?_, fun c => ?_⟩
        · rw [fa_le, z0, v1] at c
          rw [x_pp, pp_nI]
          have hg2 : gHas (sAF υ 25 g) (LF σm x3 (-1) F) := hg.up g
          refine x_measure i53 hg2 oA (fun g' hp2 g0' ga' => i_f (by decide) ?_) (fun hp2 g' => absurd ⟨_, hp⟩ hp2)
          rw [x_pp, pp_nI]
          refine x_wayTo j53 ?_
          have v2 := cls_val ho i53 j53 hp2 g0' ga'
          have kx3 : keepX σx (sAF (sAF υ 25 g) 25 g') := kx2.trans (keepX.arr _ 25 g' (by omega))
          refine ⟨fun c2 => ?_, fun c2 => ?_⟩
          · rw [fa_le, z0, v2] at c2
            refine i_t rfl (x_answer.mpr ?_)
            rw [← hxi, ← hxj]
            exact M _ (fun z => absurd ⟨_, hp⟩ z) (fun _ τ kn => ⟨fun z => by omega, fun _ z => by omega, fun _ _ => ⟨rfl, rel_keep h (kx3.trans (keepX.st _ 0)) (ini.trans kn.M) kn.st.symm⟩⟩)
          · rw [fa_le, z0, v2] at c2
            refine i_f (by decide) (x_answer.mpr ?_)
            rw [← hxi, ← hxj]
            exact M _ (fun z => absurd ⟨_, hp⟩ z) (fun _ τ kn => ⟨fun z => by omega, fun _ _ => ⟨rfl, rel_keep h (kx3.trans (keepX.st _ 0)) (ini.trans kn.M) kn.st.symm⟩, fun _ z => by omega⟩)
        · rw [fa_le, z0, v1] at c
          refine x_answer.mpr ?_
          rw [← hxi, ← hxj]
          exact M _ (fun z => absurd ⟨_, hp⟩ z) (fun _ τ kn => ⟨fun _ => ⟨rfl, rel_keep h (kx2.trans (keepX.st _ 0)) (ini.trans kn.M) kn.st.symm⟩, fun z => by omega, fun z => by omega⟩)
      · rw [← hxj]
        exact M _ (fun _ τ kn => ⟨rfl, rel_keep h (kx.trans ((keepX.arr υ 25 g (by omega)).trans (keepX.st _ 5))) (ini.trans (kn.M.trans (keepM.int _ 0 5 (by omega)))) rfl⟩) (fun z => absurd z hp)
    · rw [if_neg b]
      refine i_f (by decide) (x_refuse.mpr ?_)
      intro τ1 e1 τ2 e2
      subst e1; subst e2
      rw [m_isPlate, eP]
      refine q_t a.1 ?_
      rw [m_isPlate, eP]
      refine q_t a.2.1 (i_f' a.2.2 ?_)
      rw [m_isDay]
      exact q_f' b (m_refuse.mpr ⟨rfl, rel_no h 2⟩)
  · rw [if_neg a]
    exact i_f (by decide) (x_refuse.mpr (no1 a))
