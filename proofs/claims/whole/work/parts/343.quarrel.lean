theorem dm_nil (s v : Nat) : ∀ n, dm [] s n v = bd s v
  | 0 => rfl
  | n + 1 => dm_nil s v n
theorem pot_nil : ∃ h, potL [] h := ⟨fun _ => 0, fun u v _ _ => by have := bd_nn u v; dsimp only; omega, fun a ha => by cases ha⟩
/-- the bounds alone -/
theorem m_goesB {Q : Int32 → wS → Prop} {τ : wS} {P Mo s : Nat} {L : List gL} (hP : P ≤ 20) (hM : Mo ≤ 16) (hm : mHas τ (bP P ++ bM Mo)) (hs : s < 53) (hq : ∀ (r : Int32) (e : Nat → Int64), (∀ k, k < 53 → (e k).toInt = tv P Mo L 0 s k) → Q r (sBF τ 1 e)) : wm_X6_goes Q (nI s) τ := by
  have hA : arcs P Mo (bP P ++ bM Mo) [] := by
    have := arcs_of (P := P) (Mo := Mo) (L := []) (Lm := []) (fun x hx => by cases hx) (fun x => Iff.rfl)
    rw [List.append_nil] at this
    exact this
  by_cases c : inE P Mo s
  · refine m_goes hP hM hm hA (fun x hx => by cases hx) c (fun _ e he => hq 1 e (fun k hk => ?_)) (fun z => absurd pot_nil z)
    obtain ⟨h1, h2⟩ := he k hk
    by_cases ck : inE P Mo k
    · rw [h1 ck, tv_in c ck]
      unfold dD
      rw [dm_nil]
      rfl
    · rw [h2 ck, tv_out (fun z => ck z.2), if_neg (show ¬ s = k from fun z => ck (z ▸ c))]
  · obtain ⟨m5, ml, ma⟩ := id hm
    have rounds : ∀ e : Nat → Int64, (∀ v, v < 53 → (e v).toInt = if v = s then 0 else noI) → ∃ n, wloop (wm_X6_goes_L36 Q) n (1, 0, sBF τ 1 e) := by
      intro e he
      refine wloop_of (fun w : Int32 × Int32 × wS => ((w.1 = 1 ∧ w.2.1 = 0) ∨ (w.1 = 0 ∧ w.2.1 = 1)) ∧ w.2.2 = sBF τ 1 e) (fun w => if w.1 = 0 then 0 else 1) ?_ _ ⟨Or.inl ⟨rfl, rfl⟩, rfl⟩
      rintro K ⟨x2, x3, υ⟩ ⟨h1, eυ⟩ kk
      dsimp only at h1 eυ kk
      subst eυ
      dsimp only [wm_X6_goes_L36]
      have fin : Q 1 (sBF τ 1 e) := hq 1 e (fun k hk => by
        rw [he k hk, tv_out (fun z => c z.1)]
        by_cases z : k = s
        · rw [if_pos z, if_pos z.symm]
        · rw [if_neg z, if_neg (fun y => z y.symm)])
      rcases h1 with ⟨z1, z2⟩ | ⟨z1, z2⟩
      · subst z1; subst z2
        refine i_f (by decide) (i_f (by decide) ?_)
        refine wloop_of (fun w : Int32 × Int32 × wS => ∃ k : Nat, k ≤ (bP P ++ bM Mo).length ∧ w.1 = 0 ∧ w.2.1 = nI k ∧ w.2.2 = sBF τ 1 e) (fun w => (bP P ++ bM Mo).length - w.2.1.toNatClampNeg) ?_ _ ⟨0, Nat.zero_le _, rfl, rfl, rfl⟩
        rintro K2 ⟨y2, y4, υ⟩ ⟨k, hk, e2, e4, eυ⟩ kk2
        dsimp only at e2 e4 eυ kk2
        subst e2; subst e4; subst eυ
        dsimp only [wm_X6_goes_L51]
        rw [show (sBF τ 1 e).1 5 = nI (bP P ++ bM Mo).length from m5]
        refine ⟨fun d a1 ea1 => ?_, fun d => ?_⟩
        · subst ea1
          exact kk _ ⟨Or.inr ⟨rfl, rfl⟩, rfl⟩ (by dsimp only; rw [if_pos rfl, if_neg (by decide)]; omega)
        have hlt : k < (bP P ++ bM Mo).length := Nat.lt_of_not_le (fun z => d ((nI_leI (by omega) (by omega)).mpr z))
        obtain ⟨a, ha⟩ : ∃ a, (bP P ++ bM Mo)[k]? = some a := ⟨_, List.getElem?_eq_getElem hlt⟩
        have hmem : a ∈ bP P ++ bM Mo := List.mem_of_getElem? ha
        obtain ⟨b1, -, -⟩ := ma k a ha
        have o2 := (hA.1 a hmem).2.1
        have n2 := inE_lt hP hM o2
        have r6 : aI (sBF τ 1 e) 6 (nI k) = nI a.2.1 := (aI_nI _ 6 (by omega)).trans b1
        rw [r6, aL_sBF_nI τ 1 e (by omega)]
        refine ⟨nI_in (by omega) (by decide), nI_in n2 (by decide), i_t ?_ (fun a2 ea2 => ?_)⟩
        · rw [fa_eq64, he _ n2, no_toInt, if_neg (show ¬ a.2.1 = s from fun z => c (z ▸ o2))]
        · subst ea2
          exact kk2 _ ⟨k + 1, by omega, rfl, nI_1 k, rfl⟩ (by dsimp only; rw [nI_1, nI_clamp (by omega), nI_clamp (by omega)]; omega)
      · subst z1; subst z2
        exact i_f (by decide) (i_t rfl (i_t' rfl fin))
    refine wloop_of (fun w : Int32 × wS => ∃ (k : Nat) (e : Nat → Int64), k ≤ 53 ∧ w.1 = nI k ∧ w.2 = sBF τ 1 e ∧ ∀ v, v < k → (e v).toInt = if v = s then 0 else noI) (fun w => 53 - w.1.toNatClampNeg) ?_ _ ⟨0, τ.2.2.2 1, by omega, rfl, (sBF_self τ 1).symm, fun v hv => absurd hv (Nat.not_lt_zero v)⟩
    rintro K ⟨x2, υ⟩ ⟨k, e, hk, e2, eυ, he⟩ kk
    dsimp only at e2 eυ kk
    subst e2; subst eυ
    dsimp only [wm_X6_goes_L2]
    refine ⟨fun c => ?_, fun c => ?_⟩
    · have : 53 ≤ k := (nI_leI (a := 53) (by omega) (by omega)).mp c
      exact rounds e (fun v hv => he v (by omega))
    have hlt : k < 53 := Nat.lt_of_not_le (fun z => c ((nI_leI (a := 53) (by omega) (by omega)).mpr z))
    have st : ∀ x : Int64, x.toInt = (if k = s then 0 else noI) → vp_in (nI k) 53 ∧ ∀ σ1 : wS, σ1 = sB (sBF τ 1 e) 1 (nI k) x → ∀ a2 : Int32, a2 = nI k + 1 → K (a2, σ1) := by
      intro x hx
      refine ⟨nI_in hlt (by decide), fun σ1 e1 a2 e2 => ?_⟩
      subst e1; subst e2
      rw [sB_sBF, nI_clamp (by omega)]
      refine kk _ ⟨k + 1, _, by omega, nI_1 k, rfl, fun v hv => ?_⟩ (by dsimp only; rw [nI_1, nI_clamp (by omega), nI_clamp (by omega)]; omega)
      by_cases ev : v = k
      · rw [ev, pk_uLs]; exact hx
      · rw [pk_uLn ev]; exact he v (by omega)
    refine ⟨fun c1 => st _ ?_, fun c1 => st _ ?_⟩
    · rw [if_neg (fun z => c1 (by rw [z])), no_toInt]
    · rw [if_pos ((nI_eq (by omega) (by omega)).mp c1)]; decide
/-- the rounds -/
theorem m_rounds {Q : Int32 → wS → Prop} {τ : wS} {P Mo n : Nat} {B Lm : List gL} (hP : P ≤ 20) (hM : Mo ≤ 16) (hm : mHas τ (B ++ Lm)) (h6 : τ.1 6 = nI B.length) (hL : ∀ x ∈ Lm, okF P Mo x) (hn : 1 ≤ n) (hqn : isQ Lm n)
    (h2 : ∀ i k, i < 53 → k < 53 → (τ.2.2.2 2 (53 * i + k)).toInt = tv P Mo Lm 0 i k) (h3 : ∀ i k, i < 53 → k < 53 → (τ.2.2.2 3 (53 * i + k)).toInt = tv P Mo Lm 0 i k)
    (hq : ∀ υ : wS, keepN τ υ → Q (nI n) υ) : ∃ n, wloop (wm_X6_quarrel_L138 Q) n (1, τ) := by
  have hA := okF.A hP hM hL
  have hn53 := isQ_le hA.L (fun a ha => (hL a ha).2.2.2.2) hn hqn
  refine wloop_of (fun v : Int32 × wS => ∃ m : Nat, m < n ∧ v.1 = nI (m + 1) ∧ qR τ v.2 ∧ v.2.2.2.2 2 = τ.2.2.2 2 ∧ ∀ i k, i < 53 → k < 53 → (v.2.2.2.2 3 (53 * i + k)).toInt = tv P Mo Lm m i k) (fun v => 60 - v.1.toNatClampNeg) ?_ _ ⟨0, by omega, rfl, qR.rf τ, rfl, h3⟩
  rintro K ⟨x3, υ⟩ ⟨m, hmn, e3, q1, q2, q3⟩ kk
  dsimp only at e3 q1 q2 q3 kk
  subst e3
  dsimp only [wm_X6_quarrel_L138]
  refine i_f (fun z => by have := (nI_ltI (a := 54) (by omega) (by omega)).mp z; omega) ?_
  refine wloop_of (fun v : Int32 × Int32 × wS => ∃ s : Nat, s ≤ 53 ∧ v.2.1 = nI s ∧ (v.1 = 0 ∨ (v.1 = 1 ∧ m + 1 = n)) ∧ qR τ v.2.2 ∧ v.2.2.2.2.2 2 = τ.2.2.2 2 ∧ (∀ i k, i < 53 → k < 53 → s ≤ i → (v.2.2.2.2.2 3 (53 * i + k)).toInt = tv P Mo Lm m i k) ∧ (∀ i k, i < 53 → k < 53 → i < s → (v.2.2.2.2.2 3 (53 * i + k)).toInt = tv P Mo Lm (m + 1) i k) ∧ (v.1 = 0 → ∀ i, i < s → inE P Mo i → 0 ≤ dm Lm i (m + 1) i)) (fun v => 53 - v.2.1.toNatClampNeg) ?_ _ ⟨0, by omega, rfl, Or.inl rfl, q1, q2, fun i k hi hk _ => q3 i k hi hk, fun i k _ _ hi => absurd hi (Nat.not_lt_zero i), fun _ i hi => absurd hi (Nat.not_lt_zero i)⟩
  rintro K2 ⟨x4, x5, ω⟩ ⟨s, hs, e5, h01, w1, w2, w3, w4, w5⟩ kk2
  dsimp only at e5 h01 w1 w2 w3 w4 w5 kk2
  subst e5
  dsimp only [wm_X6_quarrel_L150]
  have yes : ¬ x4 = 0 → Q (nI (m + 1)) ω := by
    intro z
    have e := (h01.resolve_left z).2
    rw [e]
    exact hq ω w1.N
  refine ⟨fun c => ⟨fun z a1 e1 => ?_, yes⟩, fun c => ⟨fun z => i_f z (yes z), fun z => ?_⟩⟩
  · have h53 : 53 ≤ s := (nI_leI (a := 53) (by omega) (by omega)).mp c
    subst e1
    have hm1 : m + 1 < n := by
      apply Classical.byContradiction
      intro hc
      have e : m + 1 = n := by omega
      obtain ⟨a, ha, l, l1, l2, l3⟩ := isQ_tail hn hqn
      have hE := (hL a ha).1
      have := w5 z a.1 (by have := inE_lt hP hM hE; omega) hE
      have := dm_le Lm a.1 (m + 1) l a.1 l1 (by omega)
      omega
    exact kk _ ⟨m + 1, hm1, nI_1 _, w1, w2, fun i k hi hk => w4 i k hi hk (by omega)⟩ (by dsimp only; rw [nI_1, nI_clamp (by omega), nI_clamp (by omega)]; omega)
  have hlt : s < 53 := Nat.lt_of_not_le (fun y => c ((nI_leI (a := 53) (by omega) (by omega)).mpr y))
  refine m_longer (n := m) hP hM (w1.m hm) (by rw [w1.1]; exact h6) hL hlt (by omega) (fun i k hi hk => by rw [w2]; exact h2 i k hi hk) (fun k hk => w3 s k hlt hk (Nat.le_refl _)) (fun ξ v1 v2 v3 v4 => ?_)
  rw [ix53, aL_nI ξ 3 (by omega)]
  have z0 : (0 : Int64).toInt = 0 := by decide
  have vss := v4 s hlt
  have u1 := w1.trans v1
  have u2 : ξ.2.2.2 2 = τ.2.2.2 2 := v2.trans w2
  have u3 : ∀ i k, i < 53 → k < 53 → s + 1 ≤ i → (ξ.2.2.2 3 (53 * i + k)).toInt = tv P Mo Lm m i k := fun i k hi hk h => by rw [v3 i k hi hk (by omega)]; exact w3 i k hi hk (by omega)
  have u4 : ∀ i k, i < 53 → k < 53 → i < s + 1 → (ξ.2.2.2 3 (53 * i + k)).toInt = tv P Mo Lm (m + 1) i k := fun i k hi hk h => by
    by_cases e : i = s
    · subst e; exact v4 k hk
    · rw [v3 i k hi hk e]; exact w4 i k hi hk (by omega)
  refine ⟨nI_in (by omega) (by decide), fun c1 a4 e4 => ?_, fun c1 a5 e5 => ?_⟩
  · subst e4
    refine kk2 _ ⟨s + 1, by omega, nI_1 s, Or.inl rfl, u1, u2, u3, u4, fun _ i hi hE => ?_⟩ (by dsimp only; rw [nI_1, nI_clamp (by omega), nI_clamp (by omega)]; omega)
    by_cases e : i = s
    · subst e
      rw [fa_le64, vss, z0, tv_in hE hE] at c1
      omega
    · exact w5 z i (by omega) hE
  · subst e5
    refine kk2 _ ⟨s + 1, by omega, nI_1 s, Or.inr ⟨rfl, ?_⟩, u1, u2, u3, u4, fun y => absurd (show (1 : Int32) = 0 from y) (by decide)⟩ (by dsimp only; rw [nI_1, nI_clamp (by omega), nI_clamp (by omega)]; omega)
    rw [fa_le64, vss, z0] at c1
    by_cases hE : inE P Mo s
    · rw [tv_in hE hE] at c1
      obtain ⟨l, l1, l2, l3⟩ := dm_at Lm s (m + 1) s
      apply Classical.byContradiction
      intro hc
      have := hqn.2 s l hlt l1 (by omega)
      omega
    · rw [tv_out (fun y => hE y.1), if_pos rfl] at c1
      omega
theorem isQ_mem {L L' : List gL} {n : Nat} (h : ∀ x, x ∈ L ↔ x ∈ L') (hq : isQ L n) : isQ L' n := by
  have hs : ∀ l, subL L l ↔ subL L' l := fun l => ⟨fun z a ha => (h a).mp (z a ha), fun z a ha => (h a).mpr (z a ha)⟩
  obtain ⟨⟨u, l, h1, h2, h3, h4⟩, h5⟩ := hq
  exact ⟨⟨u, l, h1, (hs l).mp h2, h3, h4⟩, fun u l a b c => h5 u l a ((hs l).mpr b) c⟩
theorem r_quarrel : rT_quarrel Rel := by
  intro σx σm x1 h
  obtain ⟨hs, P, Mo, h0⟩ := id h
  obtain ⟨F, f1, f2, f3, hok, hx, hm, ha⟩ := gOk h0
  obtain ⟨p1, p2, p3, p4, p5, p6, -⟩ := h0
  have ini := keepM.ini σm
  unfold wx_X5_quarrel
  rw [x_isDay]
  by_cases b : isR x1 0 9999
  · refine q_t' b (hx σx (keepX.rf σx) _ x1 (-1) (fun υ kx hg => ?_))
    have oA := okF.A p1 p2 (hok x1 (-1))
    have M : ∀ (Q : Int32 → wS → Prop), ((∃ f, potL (LF σm x1 (-1) F) f) → ∀ τ : wS, keepN (sI (sI σm 1 0) 0 0) τ → Q (-1) (sI τ 0 6)) → (∀ n, 1 ≤ n → isQ (LF σm x1 (-1) F) n → (¬ ∃ f, potL (LF σm x1 (-1) F) f) → ∀ τ : wS, keepN (sI (sI σm 1 0) 0 0) τ → Q (nI n) τ) → wm_X6_quarrel Q x1 σm := by
      intro Q q1 q2 τ1 e1 τ2 e2
      subst e1; subst e2
      rw [m_isDay]
      refine q_t' b (hm _ ini _ x1 (-1) (fun ω kn k6 mh => ?_))
      refine m_goes p1 p2 mh (ha x1 (-1)) (hok x1 (-1)) (inE_0 P Mo) (fun hp e he => i_f (by decide) (m_refuse.mpr (q1 hp _ (kn.trans (keepN.larr _ 1 e))))) (fun hp e => i_t rfl (fun a8 e8 σ9 e9 => ?_))
      obtain ⟨n, hn, hqn⟩ := isQ_of oA.L hp
      have hLm : ∀ x ∈ LM σm x1 (-1) F, okF P Mo x := fun x hx => hok x1 (-1) x (LM_mem.mp hx)
      have hqM : isQ (LM σm x1 (-1) F) n := isQ_mem (fun x => LM_mem.symm) hqn
      have mh0 : mHas (sBF ω 1 e) (bP P ++ bM Mo ++ LM σm x1 (-1) F) := mh
      have e8 : a8 = nI (bP P ++ bM Mo ++ LM σm x1 (-1) F).length := e8.trans mh.1
      have e9 : σ9 = sI (sBF ω 1 e) 5 (nI (bP P ++ bM Mo).length) := e9.trans (congrArg (sI (sBF ω 1 e) 5) k6)
      subst e8
      have len2 : (bP P ++ bM Mo).length ≤ (bP P ++ bM Mo ++ LM σm x1 (-1) F).length := by rw [List.length_append (as := bP P ++ bM Mo)]; omega
      have mhB : mHas σ9 (bP P ++ bM Mo) := by
        subst e9
        refine ⟨rfl, Nat.le_trans len2 mh.2.1, fun k a hk => ?_⟩
        have hk2 : (bP P ++ bM Mo ++ LM σm x1 (-1) F)[k]? = some a := by
          rw [List.getElem?_append_left (List.getElem?_eq_some_iff.mp hk).1]; exact hk
        exact mh.2.2 k a hk2
      -- the table of the bounds
      refine wloop_of (fun v : Int32 × wS => ∃ s : Nat, s ≤ 53 ∧ v.1 = nI s ∧ qR σ9 v.2 ∧ ∀ i k, i < s → k < 53 → (v.2.2.2.2 2 (53 * i + k)).toInt = tv P Mo (LM σm x1 (-1) F) 0 i k ∧ (v.2.2.2.2 3 (53 * i + k)).toInt = tv P Mo (LM σm x1 (-1) F) 0 i k) (fun v => 53 - v.1.toNatClampNeg) ?_ _ ⟨0, by omega, rfl, qR.rf σ9, fun i k hi => absurd hi (Nat.not_lt_zero i)⟩
      rintro K ⟨x3, ξ⟩ ⟨s, hs53, e3, w1, w2⟩ kk
      dsimp only at e3 w1 w2 kk
      subst e3
      dsimp only [wm_X6_quarrel_L59]
      refine ⟨fun c σ1 e1 => ?_, fun c => ?_⟩
      · have h53 : 53 ≤ s := (nI_leI (a := 53) (by omega) (by omega)).mp c
        subst e1
        have full : mHas (sI ξ 5 (nI (bP P ++ bM Mo ++ LM σm x1 (-1) F).length)) (bP P ++ bM Mo ++ LM σm x1 (-1) F) := by
          refine ⟨rfl, mh.2.1, fun k a hk => ?_⟩
          show ξ.2.2.1 6 k = _ ∧ ξ.2.2.1 7 k = _ ∧ (ξ.2.2.2 0 k).toInt = _
          rw [w1.2.1, w1.2.2, e9]
          exact mh0.2.2 k a hk
        refine m_rounds p1 p2 full ?_ hLm hn hqM (fun i k hi hk => (w2 i k (by omega) hk).1) (fun i k hi hk => (w2 i k (by omega) hk).2) (fun ζ kz => q2 n hn hqn hp ζ ?_)
        · show ξ.1 6 = _
          rw [w1.1, e9]
          exact k6
        · refine kn.trans ((keepN.larr _ 1 e).trans (keepN.trans (b := σ9) (by rw [e9]; exact keepN.int _ 5 _ (by omega)) (w1.N.trans ((keepN.int ξ 5 _ (by omega)).trans kz))))
      have hlt : s < 53 := Nat.lt_of_not_le (fun z => c ((nI_leI (a := 53) (by omega) (by omega)).mpr z))
      refine m_goesB (L := LM σm x1 (-1) F) p1 p2 (w1.m mhB) hlt (fun r g hg => ?_)
      refine wloop_of (fun v : Int32 × wS => ∃ j : Nat, j ≤ 53 ∧ v.1 = nI j ∧ qR σ9 v.2 ∧ v.2.2.2.2 1 = g ∧ (∀ i k, i < s → k < 53 → (v.2.2.2.2 2 (53 * i + k)).toInt = tv P Mo (LM σm x1 (-1) F) 0 i k ∧ (v.2.2.2.2 3 (53 * i + k)).toInt = tv P Mo (LM σm x1 (-1) F) 0 i k) ∧ (∀ k, k < j → (v.2.2.2.2 2 (53 * s + k)).toInt = tv P Mo (LM σm x1 (-1) F) 0 s k ∧ (v.2.2.2.2 3 (53 * s + k)).toInt = tv P Mo (LM σm x1 (-1) F) 0 s k)) (fun v => 53 - v.1.toNatClampNeg) ?_ _ ⟨0, by omega, rfl, w1.trans (qR.sBF ξ (by omega) g), sBF_at ξ 1 g, fun i k hi hk => by rw [sBF_out ξ (by omega), sBF_out ξ (by omega)]; exact w2 i k hi hk, fun k hk => absurd hk (Nat.not_lt_zero k)⟩
      rintro K2 ⟨x4, ζ⟩ ⟨j, hj, e4, v1, v2, v3, v4⟩ kk2
      dsimp only at e4 v1 v2 v3 v4 kk2
      subst e4
      dsimp only [wm_X6_quarrel_L74]
      rw [ix53]
      refine ⟨fun c2 a1 e1 => ?_, fun c2 => ?_⟩
      · have h53 : 53 ≤ j := (nI_leI (a := 53) (by omega) (by omega)).mp c2
        subst e1
        refine kk _ ⟨s + 1, by omega, nI_1 s, v1, fun i k hi hk => ?_⟩ (by dsimp only; rw [nI_1, nI_clamp (by omega), nI_clamp (by omega)]; omega)
        by_cases ei : i = s
        · subst ei; exact v4 k (by omega)
        · exact v3 i k (by omega) hk
      have hlt2 : j < 53 := Nat.lt_of_not_le (fun z => c2 ((nI_leI (a := 53) (by omega) (by omega)).mpr z))
      have hinj : vp_in (nI j) 53 := nI_in hlt2 (by decide)
      have hini : vp_in (nI (53 * s + j)) 2809 := nI_in (by omega) (by decide)
      refine ⟨hinj, hini, fun σ2 e2 => ⟨hinj, hini, fun σ3 e3 a4 e4 => ?_⟩⟩
      subst e4
      have g1 : aL ζ 1 (nI j) = g j := by rw [aL_nI ζ 1 (by omega), v2]
      rw [g1] at e2
      have t2 : ∀ b i, σ2.2.2.2 b i = if b = 2 ∧ i = 53 * s + j then g j else ζ.2.2.2 b i := fun b i => by rw [e2]; exact b_sB ζ 2 (by omega) _ b i
      have g2 : aL σ2 1 (nI j) = g j := by rw [aL_nI σ2 1 (by omega), t2, if_neg (by omega), v2]
      rw [g2] at e3
      have t3 : ∀ b i, σ3.2.2.2 b i = if b = 3 ∧ i = 53 * s + j then g j else if b = 2 ∧ i = 53 * s + j then g j else ζ.2.2.2 b i := fun b i => by rw [e3, b_sB σ2 3 (by omega), t2]
      refine kk2 _ ⟨j + 1, by omega, nI_1 j, v1.trans (qR.trans (b := σ2) (by rw [e2]; exact qR.sB ζ (by omega) _ _) (by rw [e3]; exact qR.sB σ2 (by omega) _ _)), ?_, fun i k hi hk => ?_, fun k hk => ?_⟩ (by dsimp only; rw [nI_1, nI_clamp (by omega), nI_clamp (by omega)]; omega)
      · dsimp only
        rw [← v2]; funext i; rw [t3, if_neg (by omega), if_neg (by omega)]
      · dsimp only
        rw [t3, t3, if_neg (by omega), if_neg (by omega), if_neg (by omega), if_neg (by omega)]; exact v3 i k hi hk
      · dsimp only
        rw [t3, t3]
        by_cases ek : k = j
        · subst ek
          rw [if_neg (by omega), if_pos ⟨rfl, rfl⟩, if_pos ⟨rfl, rfl⟩]
          exact ⟨hg k hlt2, hg k hlt2⟩
        · rw [if_neg (by omega), if_neg (by omega), if_neg (by omega), if_neg (by omega)]; exact v4 k (by omega)
    refine x_measure (s := 0) (by omega) hg oA (fun g hp g0 ga => i_f (by decide) (x_refuse.mpr ?_)) (fun hp g => i_t rfl ?_)
    · exact M _ (fun _ τ kn => ⟨rfl, rel_keep h (kx.trans ((keepX.arr υ 25 g (by omega)).trans (keepX.st _ 6))) (ini.trans (kn.M.trans (keepM.int _ 0 6 (by omega)))) rfl⟩) (fun n _ _ z => absurd ⟨_, hp⟩ z)
    · obtain ⟨n, hn, hqn⟩ := isQ_of oA.L hp
      have hg2 : gHas (sAF υ 25 g) (LF σm x1 (-1) F) := hg.up g
      refine x_fewest hg2 oA (fun a ha => (hok x1 (-1) a ha).2.2.2.2) hn hqn (fun τ kt => x_answer.mpr ?_)
      refine M _ (fun z => absurd z hp) (fun n' _ hq' _ τm kn => ⟨by rw [isQ_one hqn hq'], rel_keep h (kx.trans ((keepX.arr υ 25 g (by omega)).trans (kt.trans (keepX.st _ 0)))) (ini.trans kn.M) kn.st.symm⟩)
  · refine q_f' b (x_refuse.mpr ?_)
    intro τ1 e1 τ2 e2
    subst e1; subst e2
    rw [m_isDay]
    exact q_f' b (m_refuse.mpr ⟨rfl, rel_no h 2⟩)
