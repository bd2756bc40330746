def keepC (σ τ : wS) : Prop := τ.1 = σ.1 ∧ ∀ a, a ≠ 17 → a ≠ 18 → a ≠ 19 → a ≠ 20 → τ.2.2.1 a = σ.2.2.1 a
theorem keepC.trans {a b c : wS} (h : keepC a b) (h2 : keepC b c) : keepC a c := ⟨h2.1.trans h.1, fun k k1 k2 k3 k4 => (h2.2 k k1 k2 k3 k4).trans (h.2 k k1 k2 k3 k4)⟩
theorem keepD.C {a b : wS} (h : keepD a b) : keepC a b := ⟨h.1, fun k _ _ k3 k4 => h.2 k k3 k4⟩
theorem keepC.s18 (σ : wS) (i v : Int32) : keepC σ (sA σ 18 i v) := ⟨rfl, fun k _ k2 _ _ => va_up_ne _ _ k2⟩
theorem keepC.N {a b : wS} (h : keepC a b) : keepN a b := ⟨fun k _ _ _ _ _ => congrFun h.1 k, fun k k1 k2 k3 => h.2 k (by omega) (by omega) (by omega) (by omega)⟩
theorem cpX.keep {P : Nat} {w h l : Nat → Nat} {σ τ : wS} (hc : cpX P w h l (σ.2.2.1 14) (σ.2.2.1 15) (σ.2.2.1 16)) (hk : keepC σ τ) : cpX P w h l (τ.2.2.1 14) (τ.2.2.1 15) (τ.2.2.1 16) := by
  rw [hk.2 14 (by omega) (by omega) (by omega) (by omega), hk.2 15 (by omega) (by omega) (by omega) (by omega), hk.2 16 (by omega) (by omega) (by omega) (by omega)]
  exact hc
theorem m_chooses {Q : Int32 → wS → Prop} {σ : wS} {P : Nat} {w h l : Nat → Nat} {d : Nat → Bool} (hP : P ≤ 20) (h2 : σ.1 2 = nI P) (hc : cpX P w h l (σ.2.2.1 14) (σ.2.2.1 15) (σ.2.2.1 16)) (hpl : isPl P w h l d)
    (hq : ∀ τ : wS, keepC σ τ → (∀ k, k < P → τ.2.2.1 17 k = nI (oS l P k)) → (∀ q, q < P → τ.2.2.1 18 q = nI (if d q = true then 1 else 2)) → Q (nI (Sw w d P)) τ) : wm_X6_chooses Q σ := by
  have hol : ∀ k, k < P → oS l P k < P := fun k hk => sAll_lt _ hk
  have hwS : Sw w d P ≤ P * 99 := fb_sm_bound (fun k _ => by have := (hc.1 k).1; split <;> omega)
  refine m_sort (l := fun p => (l p : Int)) hP h2 (fun q hq2 => by rw [(hc.2 q hq2).2.2, nI_toInt (by have := (hc.1 q).2.2.2.2; omega)]) (fun τ0 ke0 ho0 => ?_)
  have kc0 : keepC σ τ0 := ⟨ke0.1, fun a h1 _ _ _ => ke0.2 a h1⟩
  -- asking for each plate
  have loop : ∀ τ : wS, keepC σ τ → (∀ k, k < P → τ.2.2.1 17 k = nI (oS l P k)) → (∀ q, q < P → τ.2.2.1 18 q = nI 0) → ∃ n, wloop (wm_X6_chooses_L34 Q (nI (Sw w d P))) n (0, τ) := by
    intro τ kc h17 h18
    refine wloop_of (fun v : Int32 × wS => ∃ p : Nat, p ≤ P ∧ v.1 = nI p ∧ keepC σ v.2 ∧ (∀ k, k < P → v.2.2.2.1 17 k = nI (oS l P k)) ∧ ∀ q, q < P → v.2.2.2.1 18 q = nI (if q < p then (if d q = true then 1 else 2) else 0)) (fun v => P - v.1.toNatClampNeg) ?_ _ ⟨0, Nat.zero_le _, rfl, kc, h17, fun q hq => by rw [if_neg (Nat.not_lt_zero q)]; exact h18 q hq⟩
    rintro K ⟨x2, υ⟩ ⟨p, hp, ex, kc, h17, h18⟩ kk
    dsimp only at ex kc h17 h18 kk
    subst ex
    dsimp only [wm_X6_chooses_L34]
    rw [show υ.1 2 = nI P by rw [kc.1]; exact h2]
    refine ⟨fun c => ?_, fun c => ?_⟩
    · have e : p = P := by have : P ≤ p := (nI_leI (by omega) (by omega)).mp c; omega
      subst e
      exact hq υ kc h17 (fun q hq2 => by rw [h18 q hq2, if_pos hq2])
    have hlt : p < P := Nat.lt_of_not_le (fun z => c ((nI_leI (by omega) (by omega)).mpr z))
    have hin : vp_in (nI p) 20 := nI_in (by omega) (by decide)
    refine ⟨hin, fun σ1 e1 => ?_⟩
    have kc1 : keepC σ σ1 := by subst e1; exact kc.trans (keepC.s18 υ _ _)
    have g17 : ∀ k, k < P → σ1.2.2.1 17 k = nI (oS l P k) := fun k hk => by subst e1; rw [a_sA υ 18 (by omega), if_neg (by omega)]; exact h17 k hk
    have g18 : ∀ q, q < P → σ1.2.2.1 18 q = nI (if q < p then (if d q = true then 1 else 2) else if q = p then 1 else 0) := by
      intro q hq2
      subst e1
      rw [a_sA υ 18 (by omega)]
      by_cases e : q = p
      · rw [if_pos ⟨rfl, e⟩, if_neg (by omega), if_pos e]; rfl
      · rw [if_neg (fun z => e z.2), h18 q hq2, if_neg e]
    refine m_mostOf (w := w) (h := h) (l := l) (o := oS l P) (fx := fun q => if q < p then (if d q = true then 1 else 2) else if q = p then 1 else 0) hP (by rw [kc1.1]; exact h2) (hc.keep kc1) hol g17 (fun q hq2 => ⟨g18 q hq2, by split <;> (try split) <;> omega⟩) (fun r τ2 kd hb => ?_)
    have hask := ask hP hlt hpl (fx := fun q => if q < p then (if d q = true then 1 else 2) else if q = p then 1 else 0) (fun q _ => rfl) hb
    have kc2 := kc1.trans kd.C
    have re : r = nI (Sw w d P) ↔ d p = true := by rw [fa_eq, nI_toInt (by omega)]; exact hask
    have f17 : ∀ k, k < P → τ2.2.2.1 17 k = nI (oS l P k) := fun k hk => by rw [kd.2 17 (by omega) (by omega)]; exact g17 k hk
    refine ⟨fun c1 a4 e4 => ?_, fun c1 => ⟨hin, fun σ5 e5 a6 e6 => ?_⟩⟩
    · subst e4
      refine kk _ ⟨p + 1, by omega, nI_1 p, kc2, f17, fun q hq2 => ?_⟩ (by dsimp only; rw [nI_1, nI_clamp (by omega), nI_clamp (by omega)]; omega)
      dsimp only
      rw [kd.2 18 (by omega) (by omega), g18 q hq2]
      congr 1
      by_cases e : q = p
      · subst e; rw [if_neg (by omega), if_pos rfl, if_pos (by omega), if_pos (re.mp c1)]
      · by_cases e2 : q < p
        · rw [if_pos e2, if_pos (show q < p + 1 by omega)]
        · rw [if_neg e2, if_neg e, if_neg (by omega)]
    · subst e6; subst e5
      refine kk _ ⟨p + 1, by omega, nI_1 p, kc2.trans (keepC.s18 _ _ _), fun k hk => ?_, fun q hq2 => ?_⟩ (by dsimp only; rw [nI_1, nI_clamp (by omega), nI_clamp (by omega)]; omega)
      · dsimp only
        rw [a_sA τ2 18 (by omega), if_neg (by omega)]; exact f17 k hk
      · dsimp only
        rw [a_sA τ2 18 (by omega)]
        by_cases e : q = p
        · subst e; rw [if_pos ⟨rfl, rfl⟩, if_pos (by omega), if_neg (fun z => c1 (re.mpr z))]; rfl
        · rw [if_neg (fun z => e z.2), kd.2 18 (by omega) (by omega), g18 q hq2]
          congr 1
          by_cases e2 : q < p
          · rw [if_pos e2, if_pos (show q < p + 1 by omega)]
          · rw [if_neg e2, if_neg e, if_neg (by omega)]
  refine wloop_of (fun v : Int32 × wS => ∃ p : Nat, p ≤ P ∧ v.1 = nI p ∧ keepC σ v.2 ∧ (∀ k, k < P → v.2.2.2.1 17 k = nI (oS l P k)) ∧ ∀ q, q < p → v.2.2.2.1 18 q = nI 0) (fun v => P - v.1.toNatClampNeg) ?_ _ ⟨0, Nat.zero_le _, rfl, kc0, ho0, fun q hq => absurd hq (Nat.not_lt_zero q)⟩
  rintro K ⟨x1, τ⟩ ⟨p, hp, ex, kc, h17, h18⟩ kk
  dsimp only at ex kc h17 h18 kk
  subst ex
  dsimp only [wm_X6_chooses_L6]
  rw [show τ.1 2 = nI P by rw [kc.1]; exact h2]
  refine ⟨fun c => ?_, fun c => ?_⟩
  · have e : p = P := by have : P ≤ p := (nI_leI (by omega) (by omega)).mp c; omega
    subst e
    refine m_mostOf (w := w) (h := h) (l := l) (o := oS l p) (fx := fun _ => 0) hP (by rw [kc.1]; exact h2) (hc.keep kc) hol h17 (fun q hq2 => ⟨h18 q hq2, by omega⟩) (fun r τ2 kd hb => ?_)
    have hr : r = nI (Sw w d p) := by
      rw [fa_eq, nI_toInt (by omega)]
      exact bst_one (fun k => by omega) hb hpl.2.1
    subst hr
    exact loop τ2 (kc.trans kd.C) (fun k hk => by rw [kd.2 17 (by omega) (by omega)]; exact h17 k hk) (fun q hq2 => by rw [kd.2 18 (by omega) (by omega)]; exact h18 q hq2)
  · have hlt : p < P := Nat.lt_of_not_le (fun z => c ((nI_leI (by omega) (by omega)).mpr z))
    refine ⟨nI_in (by omega) (by decide), fun σ3 e3 a4 e4 => ?_⟩
    subst e4; subst e3
    refine kk _ ⟨p + 1, by omega, nI_1 p, kc.trans (keepC.s18 _ _ _), fun k hk => ?_, fun q hq2 => ?_⟩ (by dsimp only; rw [nI_1, nI_clamp (by omega), nI_clamp (by omega)]; omega)
    · dsimp only
      rw [a_sA τ 18 (by omega), if_neg (by omega)]; exact h17 k hk
    · dsimp only
      rw [a_sA τ 18 (by omega)]
      by_cases e : q = p
      · rw [if_pos ⟨rfl, e⟩]; rfl
      · rw [if_neg (fun z => e z.2)]; exact h18 q (by omega)
theorem to_n {x : Int32} {a b : Int} (ha : 0 ≤ a) (h1 : a ≤ x.toInt) (h2 : x.toInt ≤ b) : ∃ n : Nat, x = nI n ∧ a ≤ n ∧ (n : Int) ≤ b := by
  have hr := fb_rng x
  refine ⟨x.toInt.toNat, ?_, by omega, by omega⟩
  rw [fa_eq, nI_toInt (by omega)]; omega
theorem cp_of {P : Nat} {x1 x2 x3 m14 m15 m16 : Nat → Int32} (h : rC P x1 x2 x3 m14 m15 m16) : ∃ w h l : Nat → Nat, cpX P w h l x1 x2 x3 ∧ cpX P w h l m14 m15 m16 := by
  refine ⟨fun p => if p < P then (x1 p).toInt.toNat else 0, fun p => if p < P then (x2 p).toInt.toNat else 1, fun p => if p < P then (x3 p).toInt.toNat else 500, ⟨fun p => ?_, fun p hp => ?_⟩, ⟨fun p => ?_, fun p hp => ?_⟩⟩
  · dsimp only
    by_cases c : p < P
    · have := h.1 p c
      rw [if_pos c, if_pos c, if_pos c]; omega
    · rw [if_neg c, if_neg c, if_neg c]; omega
  · obtain ⟨a1, a2, a3, a4, a5, a6, a7, a8, a9⟩ := h.1 p hp
    dsimp only
    rw [if_pos hp, if_pos hp, if_pos hp]
    refine ⟨?_, ?_, ?_⟩ <;> (rw [fa_eq, nI_toInt (by omega)]; omega)
  · dsimp only
    by_cases c : p < P
    · have := h.1 p c
      rw [if_pos c, if_pos c, if_pos c]; omega
    · rw [if_neg c, if_neg c, if_neg c]; omega
  · obtain ⟨a1, a2, a3, a4, a5, a6, a7, a8, a9⟩ := h.1 p hp
    dsimp only
    rw [if_pos hp, if_pos hp, if_pos hp, ← a1, ← a2, ← a3]
    refine ⟨?_, ?_, ?_⟩ <;> (rw [fa_eq, nI_toInt (by omega)]; omega)
theorem r_best : rT_best Rel := by
  intro σx σm h
  obtain ⟨hs, P, Mo, h0⟩ := id h
  obtain ⟨p1, p2, p3, p4, p5, p6, hO, hF, hE, hC, hR⟩ := h0
  obtain ⟨w, hh, l, cx, cm⟩ := cp_of hC
  unfold wx_X5_best
  rw [p3]
  refine x_choose p1 cx (fun τ M kx h4 hM Ml hb => ?_)
  obtain ⟨d, hpl, hMd⟩ := isPl_of p1 hb
  unfold wx_X0_wantedTogether
  rw [hM, pf_shr (d := 20) (by decide) (by omega), lN_i]
  refine x_answer.mpr ?_
  have bdl := Sw_lt d p1
  have hdiv : M / 2 ^ 20 = Sw w d P := by omega
  rw [hdiv]
  intro σ1 e1 σ2 e2
  subst e1; subst e2
  exact m_chooses (σ := sI (sI σm 1 0) 0 0) p1 p4 cm hpl (fun τm kc _ _ => ⟨rfl, rel_keep h (kx.trans (keepX.st _ 0)) ((keepM.ini σm).trans kc.N.M) (kc.N.st.symm)⟩)
theorem x_isChosen {Q : Int32 → Prop} {τ : wS} {M p : Nat} (hp : p < 20) (hM : τ.2.1 0 = lN M) : wx_X0_isChosen Q (nI p) τ ↔ Q (b2 (M.testBit (19 - p) = true)) := by
  unfold wx_X0_isChosen wx_X0_bitOf
  have n1 : ¬ nI p < 0 := nI_pos (by omega)
  have n2 : ¬ (20 : Int32) ≤ nI p := fun z => by have := (nI_leI (a := 20) (by omega) (by omega)).mp z; omega
  have n3 : (lN M &&& lN (2 ^ (19 - p))) = 0 ↔ M.testBit (19 - p) = false := fb_bitL (by omega)
  rw [bitOf_eq hp, hM]
  by_cases c : M.testBit (19 - p) = true
  · rw [b2_t c]
    have n4 : ¬ (lN M &&& lN (2 ^ (19 - p))) = 0 := fun z => by rw [n3.mp z] at c; cases c
    exact ⟨fun z => ((z.2 n1).2 n2).2 n4, fun z => i_f n1 (i_f n2 (i_f n4 z))⟩
  · rw [b2_f c]
    have n4 : (lN M &&& lN (2 ^ (19 - p))) = 0 := n3.mpr (by cases hh : M.testBit (19 - p) with | true => exact absurd hh c | false => rfl)
    exact ⟨fun z => ((z.2 n1).2 n2).1 n4, fun z => i_f n1 (i_f n2 (i_t n4 z))⟩
theorem r_hour : rT_hour Rel := by
  intro σx σm x1 h
  obtain ⟨hs, P, Mo, h0⟩ := id h
  obtain ⟨p1, p2, p3, p4, p5, p6, hO, hF, hE, hC, hR⟩ := h0
  obtain ⟨w, hh, l, cx, cm⟩ := cp_of hC
  have eP : (sI (sI σm 1 0) 0 0).1 2 = nI P := p4
  have ini := keepM.ini σm
  unfold wx_X5_hour
  rw [x_isPlate, p3]
  by_cases a : isN x1 (nI P)
  · refine q_t' a ?_
    obtain ⟨p, hp, hxp⟩ := isN_of (by omega) a
    subst hxp
    refine x_choose p1 cx (fun τ M kx h4 hM Ml hb => ?_)
    obtain ⟨d, hpl, hMd⟩ := isPl_of p1 hb
    rw [x_isChosen (by omega) hM]
    have bitd : ∀ q, q < P → M.testBit (19 - q) = d q := fun q hq => by rw [hMd]; exact Sw_bit d p1 hq
    rw [bitd p hp]
    obtain ⟨k0, hk0, hok0⟩ : ∃ k0, k0 < P ∧ oS l P k0 = p := sAll_onto (fun p => (l p : Int)) hp
    have hol : ∀ k, k < P → oS l P k < P := fun k hk => sAll_lt _ hk
    have hne : ∀ k, k < k0 → oS l P k ≠ p := fun k hk e => sAll_inj (fun p => (l p : Int)) hk hk0 (e.trans hok0.symm)
    have hsb : ∀ k, fb_sm (fun i => if d (oS l P i) = true then hh (oS l P i) else 0) k ≤ k * 50 := fun k => fb_sm_bound (fun i _ => by have := (cx.1 (oS l P i)).2.2.1; split <;> omega)
    -- the reference
    have M' : ∀ (Q : Int32 → wS → Prop), (d p = true → ∀ τm : wS, keepC (sI (sI σm 1 0) 0 0) τm → Q (nI (fb_sm (fun i => if d (oS l P i) = true then hh (oS l P i) else 0) k0)) τm) → (¬ d p = true → ∀ τm : wS, keepC (sI (sI σm 1 0) 0 0) τm → Q (-1) (sI τm 0 8)) → wm_X6_hour Q (nI p) σm := by
      intro Q q1 q2 σ1 e1 σ2 e2
      subst e1; subst e2
      rw [m_isPlate, eP]
      refine q_t' a (m_chooses (σ := sI (sI σm 1 0) 0 0) p1 p4 cm hpl (fun τm kc g17 g18 => ⟨nI_in (by omega) (by decide), ?_⟩))
      rw [aI_nI τm 18 (by omega), g18 p hp]
      by_cases c : d p = true
      · rw [if_pos c]
        refine i_t rfl ?_
        refine wloop_of (fun v : Int32 × Int32 => ∃ k : Nat, k ≤ k0 ∧ v.2 = nI k ∧ v.1 = nI (fb_sm (fun i => if d (oS l P i) = true then hh (oS l P i) else 0) k)) (fun v => 20 - v.2.toNatClampNeg) ?_ _ ⟨0, Nat.zero_le _, rfl, rfl⟩
        rintro K ⟨x2, x3⟩ ⟨k, hk, e3, e2⟩ kk
        dsimp only at e3 e2 kk
        subst e3; subst e2
        dsimp only [wm_X6_hour_L50]
        have hin : vp_in (nI k) 20 := nI_in (by omega) (by decide)
        have hok := hol k (by omega)
        rw [aI_nI τm 17 (by omega), g17 k (by omega), aI_nI τm 18 (by omega), g18 _ hok, aI_nI τm 15 (by omega), kc.2 15 (by omega) (by omega) (by omega) (by omega)]
        have h15 : (sI (sI σm 1 0) 0 0).2.2.1 15 (oS l P k) = nI (hh (oS l P k)) := (cm.2 _ hok).2.1
        rw [h15]
        refine ⟨hin, fun c1 => ?_, fun c1 => ⟨hin, nI_in (by omega) (by decide), fun c2 a1 e1 a2 e2 => ?_, fun c2 => ⟨hin, nI_in (by omega) (by decide), fun a3 e3 a4 e4 => ?_⟩⟩⟩
        · have e : oS l P k = p := (nI_eq (by omega) (by omega)).mp c1
          have ek : k = k0 := by
            apply Classical.byContradiction
            intro z
            exact hne k (by omega) e
          subst ek
          exact q1 c τm kc
        · have hkk : k ≠ k0 := fun z => c1 (by rw [z, hok0])
          subst e2
          refine kk _ ⟨k + 1, by omega, nI_1 k, ?_⟩ (by dsimp only; rw [nI_1, nI_clamp (by omega), nI_clamp (by omega)]; omega)
          dsimp only
          rw [e1, fb_sm_succ]
          rw [if_neg (fun z => c2 (by rw [if_pos z]; rfl))]
          exact Int32.add_zero _
        · have hkk : k ≠ k0 := fun z => c1 (by rw [z, hok0])
          subst e4
          refine kk _ ⟨k + 1, by omega, nI_1 k, ?_⟩ (by dsimp only; rw [nI_1, nI_clamp (by omega), nI_clamp (by omega)]; omega)
          dsimp only
          rw [e3, nI_add, fb_sm_succ, if_pos]
          apply Classical.byContradiction
          intro z
          rw [if_neg z] at c2
          exact absurd c2 (by decide)
      · rw [if_neg c]
        exact i_f (by decide) (m_refuse.mpr (q2 c τm kc))
    by_cases c : d p = true
    · refine q_t' c ?_
      have t1 : τ.1 1 = nI P := (kx.1 1 (by omega) (by omega)).trans p3
      rw [t1]
      refine wloop_of (fun v : Int32 × Int32 => ∃ k : Nat, k ≤ k0 ∧ v.2 = nI k ∧ v.1 = nI (fb_sm (fun i => if d (oS l P i) = true then hh (oS l P i) else 0) k)) (fun v => 20 - v.2.toNatClampNeg) ?_ _ ⟨0, Nat.zero_le _, rfl, rfl⟩
      rintro K ⟨x3, x4⟩ ⟨k, hk, e4, e3⟩ kk
      dsimp only at e4 e3 kk
      subst e4; subst e3
      dsimp only [wx_X0_beginningOf_L5]
      have hok := hol k (by omega)
      refine i_f (fun z => by have := (nI_leI (by omega) (by omega)).mp z; omega) (i_f (fun z => by have := (nI_leI (a := 20) (by omega) (by omega)).mp z; omega) ⟨nI_in (by omega) (by decide), fun a1 e1 => ?_⟩)
      rw [aI_nI τ 4 (by omega), h4 k (by omega)] at e1
      subst e1
      refine ⟨fun c1 => ?_, fun c1 => ?_⟩
      · have hkk : k ≠ k0 := fun z => c1 (by rw [z, hok0])
        rw [x_isChosen (by omega) hM, bitd _ hok]
        by_cases c2 : d (oS l P k) = true
        · refine q_t c2 ⟨nI_in (by omega) (by decide), fun a5 e5 a6 e6 => ?_⟩
          have h2 : τ.2.2.1 2 (oS l P k) = nI (hh (oS l P k)) := (congrFun (kx.2 2 (by omega) (by omega)) _).trans (cx.2 _ hok).2.1
          rw [aI_nI τ 2 (by omega), h2, nI_add] at e5
          subst e5; subst e6
          refine kk _ ⟨k + 1, by omega, nI_1 k, ?_⟩ (by dsimp only; rw [nI_1, nI_clamp (by omega), nI_clamp (by omega)]; omega)
          dsimp only
          rw [fb_sm_succ, if_pos c2]
        · refine q_f c2 (fun a4 e4 => ?_)
          subst e4
          refine kk _ ⟨k + 1, by omega, nI_1 k, ?_⟩ (by dsimp only; rw [nI_1, nI_clamp (by omega), nI_clamp (by omega)]; omega)
          dsimp only
          rw [fb_sm_succ, if_neg c2, Nat.add_zero]
      · have e : oS l P k = p := (nI_eq (by omega) (by omega)).mp c1
        have ek : k = k0 := by
          apply Classical.byContradiction
          intro z
          exact hne k (by omega) e
        subst ek
        exact x_answer.mpr (M' _ (fun _ τm kc => ⟨rfl, rel_keep h (kx.trans (keepX.st _ 0)) (ini.trans kc.N.M) (kc.N.st.symm)⟩) (fun z => absurd c z))
    · refine q_f' c (x_refuse.mpr ?_)
      exact M' _ (fun z => absurd z c) (fun _ τm kc => ⟨rfl, rel_keep h (kx.trans (keepX.st _ 8)) (ini.trans (kc.N.M.trans (keepM.int _ 0 8 (by omega)))) rfl⟩)
  · refine q_f' a (x_refuse.mpr ?_)
    intro σ1 e1 σ2 e2
    subst e1; subst e2
    rw [m_isPlate, eP]
    exact q_f' a (m_refuse.mpr ⟨rfl, rel_no h 1⟩)
