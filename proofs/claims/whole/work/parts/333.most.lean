/-! MOST: the reference's table -/
def keepD (σ τ : wS) : Prop := τ.1 = σ.1 ∧ ∀ a, a ≠ 19 → a ≠ 20 → τ.2.2.1 a = σ.2.2.1 a
theorem keepD.trans {a b c : wS} (h : keepD a b) (h2 : keepD b c) : keepD a c := ⟨h2.1.trans h.1, fun k k1 k2 => (h2.2 k k1 k2).trans (h.2 k k1 k2)⟩
theorem keepD.sA (a : Nat) (ha : a = 19 ∨ a = 20) (σ : wS) (i v : Int32) : keepD σ (sA σ a i v) := ⟨rfl, fun _ h1 h2 => va_up_ne _ _ (by omega)⟩
def zF (fx o : Nat → Nat) : Nat → Bool := fun k => decide (fx (o k) ≠ 1)
def yF (fx o : Nat → Nat) : Nat → Bool := fun k => decide (fx (o k) ≠ 2)
theorem m_mostOf {Q : Int32 → wS → Prop} {σ : wS} {P : Nat} {w h l fx o : Nat → Nat} (hP : P ≤ 20) (h2 : σ.1 2 = nI P) (hc : cpX P w h l (σ.2.2.1 14) (σ.2.2.1 15) (σ.2.2.1 16)) (hol : ∀ k, k < P → o k < P) (ho : ∀ k, k < P → σ.2.2.1 17 k = nI (o k)) (hf : ∀ p, p < P → σ.2.2.1 18 p = nI (fx p) ∧ fx p ≤ 2)
    (hq : ∀ (r : Int32) (τ : wS), keepD σ τ → isBst (fun k => h (o k)) (fun k => l (o k)) (fun k => (w (o k) : Int)) (zF fx o) (yF fx o) P r.toInt → Q r τ) : wm_X6_mostOf Q σ := by
  obtain ⟨c0, c1⟩ := hc
  have hV : ∀ k, 0 ≤ (w (o k) : Int) ∧ (w (o k) : Int) ≤ 104857600 := fun k => by have := (c0 (o k)).1; omega
  generalize hdp : dpT (fun k => h (o k)) (fun k => l (o k)) (fun k => (w (o k) : Int)) (zF fx o) (yF fx o) = dp
  have dge : ∀ k t, -1 ≤ dp k t := fun k t => by rw [← hdp]; exact dp_ge k t
  have dub : ∀ k t, dp k t ≤ 104857600 * (k : Int) := fun k t => by rw [← hdp]; exact dp_ub hV k t
  have dst : ∀ k t, dp (k + 1) t = max (if fx (o k) ≠ 1 then dp k t else -1) (if fx (o k) ≠ 2 ∧ t ≤ l (o k) ∧ h (o k) ≤ t ∧ 0 ≤ dp k (t - h (o k)) then dp k (t - h (o k)) + (w (o k) : Int) else -1) := by
    intro k t
    rw [← hdp]
    conv => lhs; unfold dpT
    simp only [zF, yF, decide_eq_true_eq]
  have zm : (-1 : Int32).toInt = -1 := by decide
  have z0 : (0 : Int32).toInt = 0 := by decide
  -- the last loop
  have last : ∀ τ : wS, keepD σ τ → (∀ t, t ≤ 500 → (τ.2.2.1 19 t).toInt = dp P t) → ∃ n, wloop (wm_X6_mostOf_L199 Q τ) n (-1, 0) := by
    intro τ ke ht
    refine wloop_of (fun v : Int32 × Int32 => ∃ j : Nat, j ≤ 501 ∧ v.2 = nI j ∧ (∀ t, t < j → dp P t ≤ v.1.toInt) ∧ (v.1.toInt = -1 ∨ ∃ t, t < j ∧ v.1.toInt = dp P t)) (fun v => 501 - v.2.toNatClampNeg) ?_ _ ⟨0, by omega, rfl, fun t ht => absurd ht (Nat.not_lt_zero t), Or.inl zm⟩
    rintro K ⟨r, x⟩ ⟨j, hj, ex, r1, r2⟩ kk
    dsimp only at ex r1 r2 kk
    subst ex
    dsimp only [wm_X6_mostOf_L199]
    refine ⟨fun c => ?_, fun c => ?_⟩
    · have : 500 < j := (nI_ltI (a := 500) (by omega) (by omega)).mp c
      refine hq r τ ke (bst_of (fun k => (hV k).1) (fun i => (c0 (o i)).2.2.2.2) (fun t ht => by rw [hdp]; exact r1 t (by omega)) ?_)
      rcases r2 with z | ⟨t, ht, z⟩
      · exact Or.inl z
      · exact Or.inr ⟨t, by omega, by rw [hdp]; exact z⟩
    have hj5 : ¬ 500 < j := fun z => c ((nI_ltI (a := 500) (by omega) (by omega)).mpr z)
    refine ⟨nI_in (by omega) (by decide), fun m1 em1 a2 e2 => ?_⟩
    subst e2
    have em : m1.toInt = max r.toInt (dp P j) := by rw [em1, mx_toInt, aI_nI _ 19 (by omega), ht j (by omega)]
    refine kk _ ⟨j + 1, by omega, nI_1 j, fun t ht => ?_, ?_⟩ (by dsimp only; rw [nI_1, nI_clamp (by omega), nI_clamp (by omega)]; omega)
    · dsimp only
      by_cases e : t = j
      · subst e; omega
      · have := r1 t (by omega); omega
    · dsimp only
      by_cases cm : r.toInt ≤ dp P j
      · exact Or.inr ⟨j, by omega, by omega⟩
      · rcases r2 with z | ⟨t, ht, z⟩
        · exact Or.inl (by omega)
        · exact Or.inr ⟨t, by omega, by omega⟩
  -- the plates
  have mid : ∀ τ : wS, keepD σ τ → (∀ t, t ≤ 500 → (τ.2.2.1 19 t).toInt = dp 0 t) → ∃ n, wloop (wm_X6_mostOf_L32 Q) n (0, τ) := by
    intro τ ke ht
    refine wloop_of (fun v : Int32 × wS => ∃ k : Nat, k ≤ P ∧ v.1 = nI k ∧ keepD σ v.2 ∧ ∀ t, t ≤ 500 → (v.2.2.2.1 19 t).toInt = dp k t) (fun v => P - v.1.toNatClampNeg) ?_ _ ⟨0, Nat.zero_le _, rfl, ke, ht⟩
    rintro K ⟨x1, τ⟩ ⟨k, hk, e1, ke, ht⟩ kk
    dsimp only at e1 ke ht kk
    subst e1
    dsimp only [wm_X6_mostOf_L32]
    rw [show τ.1 2 = nI P by rw [ke.1]; exact h2]
    refine ⟨fun c a1 e1 => ?_, fun c => ?_⟩
    · have hkP : k = P := by have : P ≤ k := (nI_leI (by omega) (by omega)).mp c; omega
      subst hkP
      subst e1
      exact last τ ke ht
    have hlt : k < P := Nat.lt_of_not_le (fun z => c ((nI_leI (by omega) (by omega)).mpr z))
    have hok := hol k hlt
    obtain ⟨b1, b2, b3⟩ := c1 (o k) hok
    obtain ⟨d1, d2, d3, d4, d5⟩ := c0 (o k)
    obtain ⟨g1, g2⟩ := hf (o k) hok
    refine ⟨nI_in (by omega) (by decide), fun a2 e2 => ?_⟩
    have e2 : a2 = nI (o k) := by rw [e2, aI_nI _ 17 (by omega), ke.2 17 (by omega) (by omega)]; exact ho k hlt
    subst e2
    have hin : vp_in (nI (o k)) 20 := nI_in (by omega) (by decide)
    -- copying back
    have copy : ∀ υ : wS, keepD σ υ → (∀ t, t ≤ 500 → (υ.2.2.1 20 t).toInt = dp (k + 1) t) → ∃ n, wloop (wm_X6_mostOf_L164 Q K (nI k)) n (0, υ) := by
      intro υ ku hu
      refine wloop_of (fun v : Int32 × wS => ∃ j : Nat, j ≤ 501 ∧ v.1 = nI j ∧ keepD σ v.2 ∧ (∀ t, t ≤ 500 → (v.2.2.2.1 20 t).toInt = dp (k + 1) t) ∧ ∀ t, t < j → (v.2.2.2.1 19 t).toInt = dp (k + 1) t) (fun v => 501 - v.1.toNatClampNeg) ?_ _ ⟨0, by omega, rfl, ku, hu, fun t ht => absurd ht (Nat.not_lt_zero t)⟩
      rintro K3 ⟨x3, υ⟩ ⟨j, hj, e3, ku, hu, hn⟩ kk3
      dsimp only at e3 ku hu hn kk3
      subst e3
      dsimp only [wm_X6_mostOf_L164]
      refine ⟨fun c a1 e1 => ?_, fun c => ?_⟩
      · have : 500 < j := (nI_ltI (a := 500) (by omega) (by omega)).mp c
        subst e1
        exact kk _ ⟨k + 1, by omega, nI_1 k, ku, fun t ht => hn t (by omega)⟩ (by dsimp only; rw [nI_1, nI_clamp (by omega), nI_clamp (by omega)]; omega)
      have hj5 : ¬ 500 < j := fun z => c ((nI_ltI (a := 500) (by omega) (by omega)).mpr z)
      have hinj : vp_in (nI j) 501 := nI_in (by omega) (by decide)
      refine ⟨hinj, hinj, fun σ2 q2 a3 q3 => ?_⟩
      subst q2; subst q3
      refine kk3 _ ⟨j + 1, by omega, nI_1 j, ku.trans (keepD.sA 19 (by omega) _ _ _), fun t ht => ?_, fun t ht => ?_⟩ (by dsimp only; rw [nI_1, nI_clamp (by omega), nI_clamp (by omega)]; omega)
      · dsimp only
        rw [a_sA υ 19 (by omega), if_neg (by omega)]; exact hu t ht
      · dsimp only
        rw [a_sA υ 19 (by omega)]
        by_cases e : t = j
        · rw [if_pos ⟨rfl, e⟩, aI_nI _ 20 (by omega), e]; exact hu j (by omega)
        · rw [if_neg (fun z => e z.2)]; exact hn t (by omega)
    -- one plate
    refine wloop_of (fun v : Int32 × wS => ∃ j : Nat, j ≤ 501 ∧ v.1 = nI j ∧ keepD σ v.2 ∧ (∀ t, t ≤ 500 → (v.2.2.2.1 19 t).toInt = dp k t) ∧ ∀ t, t < j → (v.2.2.2.1 20 t).toInt = dp (k + 1) t) (fun v => 501 - v.1.toNatClampNeg) ?_ _ ⟨0, by omega, rfl, ke, ht, fun t ht => absurd ht (Nat.not_lt_zero t)⟩
    rintro K3 ⟨x3, υ⟩ ⟨j, hj, e3, ku, hu, hn⟩ kk3
    dsimp only at e3 ku hu hn kk3
    subst e3
    dsimp only [wm_X6_mostOf_L49]
    refine ⟨fun c => ?_, fun c => ?_⟩
    · have : 500 < j := (nI_ltI (a := 500) (by omega) (by omega)).mp c
      exact copy υ ku (fun t ht => hn t (by omega))
    have hj5 : ¬ 500 < j := fun z => c ((nI_ltI (a := 500) (by omega) (by omega)).mpr z)
    have hinj : vp_in (nI j) 501 := nI_in (by omega) (by decide)
    have gk := dge k j
    have nx : ∀ (ω : wS), keepD σ ω → (∀ t, t ≤ 500 → (ω.2.2.1 19 t).toInt = dp k t) → (∀ t, t < j → (ω.2.2.1 20 t).toInt = dp (k + 1) t) → (ω.2.2.1 20 j).toInt = dp (k + 1) j → K3 (nI j + 1, ω) := by
      intro ω q1 q2 q3 q4
      refine kk3 _ ⟨j + 1, by omega, nI_1 j, q1, q2, fun t ht => ?_⟩ (by dsimp only; rw [nI_1, nI_clamp (by omega), nI_clamp (by omega)]; omega)
      dsimp only
      by_cases e : t = j
      · subst e; exact q4
      · exact q3 t (by omega)
    have J : ∀ s2 : Int32, s2.toInt = (if fx (o k) ≠ 1 then dp k j else -1) → wm_X6_mostOf_J81 Q K K3 (nI k) (nI (o k)) (nI j) (nI j) s2 υ := by
      intro s2 hs2
      refine ⟨hinj, fun σ1 q1 => ?_⟩
      have kp : keepD σ σ1 := by subst q1; exact ku.trans (keepD.sA 20 (by omega) _ _ _)
      have v19 : ∀ t, t ≤ 500 → (σ1.2.2.1 19 t).toInt = dp k t := fun t ht => by subst q1; rw [a_sA υ 20 (by omega), if_neg (by omega)]; exact hu t ht
      have v20 : ∀ t, t < j → (σ1.2.2.1 20 t).toInt = dp (k + 1) t := fun t ht => by subst q1; rw [a_sA υ 20 (by omega), if_neg (by omega)]; exact hn t ht
      have v20j : σ1.2.2.1 20 j = s2 := by subst q1; rw [a_sA υ 20 (by omega), if_pos ⟨rfl, rfl⟩]
      have r15 : aI σ1 15 (nI (o k)) = nI (h (o k)) := by rw [aI_nI _ 15 (by omega), kp.2 15 (by omega) (by omega)]; exact b2
      have r16 : aI σ1 16 (nI (o k)) = nI (l (o k)) := by rw [aI_nI _ 16 (by omega), kp.2 16 (by omega) (by omega)]; exact b3
      have r14 : aI σ1 14 (nI (o k)) = nI (w (o k)) := by rw [aI_nI _ 14 (by omega), kp.2 14 (by omega) (by omega)]; exact b1
      have r18 : aI σ1 18 (nI (o k)) = nI (fx (o k)) := by rw [aI_nI _ 18 (by omega), kp.2 18 (by omega) (by omega)]; exact g1
      rw [r15, r16, r18]
      have skip : ¬ (fx (o k) ≠ 2 ∧ j ≤ l (o k) ∧ h (o k) ≤ j ∧ 0 ≤ dp k (j - h (o k))) → ∀ a : Int32, a = nI j + 1 → K3 (a, σ1) := by
        intro hno a ea
        subst ea
        refine nx σ1 kp v19 v20 ?_
        rw [v20j, hs2, dst, if_neg hno]
        split <;> omega
      refine ⟨hin, fun a2 e2 => ⟨hin, fun c2 => skip (fun z => z.1 ((nI_eq (b := 2) (by omega) (by omega)).mp c2)), fun c2 => ⟨hin, fun c3 => skip (fun z => ?_), fun c3 => ⟨fun c4 => skip (fun z => ?_), fun c4 => ?_⟩⟩⟩⟩
      · have := (nI_ltI (by omega) (by omega)).mp c3; omega
      · rw [e2, pk_sub z.2.2.1] at c4; exact nI_pos (by omega) c4
      have hle : h (o k) ≤ j := by
        apply Classical.byContradiction
        intro hh
        exact c4 (by rw [e2]; exact pk_sneg (by omega) (by omega))
      rw [pk_sub hle] at e2
      subst e2
      have hle2 : j ≤ l (o k) := Nat.le_of_not_lt (fun z => c3 ((nI_ltI (by omega) (by omega)).mpr z))
      have hne : fx (o k) ≠ 2 := fun z => c2 ((nI_eq (b := 2) (by omega) (by omega)).mpr z)
      have hin2 : vp_in (nI (j - h (o k))) 501 := nI_in (by omega) (by decide)
      have vb := v19 (j - h (o k)) (by omega)
      rw [aI_nI σ1 19 (by omega)]
      refine ⟨hin2, fun c5 => skip (fun z => ?_), fun c5 => ⟨hinj, hin2, hin, fun m7 e7 => ⟨hinj, fun σ8 e8 a9 e9 => ?_⟩⟩⟩
      · rw [fa_lt, vb, z0] at c5; omega
      · have hnn : 0 ≤ dp k (j - h (o k)) := by rw [fa_lt, vb, z0] at c5; omega
        have ub := dub k (j - h (o k))
        have wT : (nI (w (o k))).toInt = (w (o k) : Int) := nI_toInt (by omega)
        have e7T : m7.toInt = dp (k + 1) j := by
          rw [e7, mx_toInt, aI_nI σ1 20 (by omega), v20j, r14, fb_addI (by rw [vb, wT]; omega) (by rw [vb, wT]; omega), vb, wT, hs2, dst, if_pos (show fx (o k) ≠ 2 ∧ j ≤ l (o k) ∧ h (o k) ≤ j ∧ 0 ≤ dp k (j - h (o k)) from ⟨hne, hle2, hle, hnn⟩)]
        subst e9; subst e8
        refine nx _ (kp.trans (keepD.sA 20 (by omega) _ _ _)) (fun t ht => ?_) (fun t ht => ?_) ?_
        · rw [a_sA σ1 20 (by omega), if_neg (by omega)]; exact v19 t ht
        · rw [a_sA σ1 20 (by omega), if_neg (by omega)]; exact v20 t ht
        · rw [a_sA σ1 20 (by omega), if_pos ⟨rfl, rfl⟩]; exact e7T
    have r18 : aI υ 18 (nI (o k)) = nI (fx (o k)) := by rw [aI_nI _ 18 (by omega), ku.2 18 (by omega) (by omega)]; exact g1
    rw [r18]
    refine ⟨hin, fun c1 => ⟨hinj, J _ ?_⟩, fun c1 => J _ ?_⟩
    · rw [aI_nI υ 19 (by omega), hu j (by omega), if_pos (fun z => c1 (by rw [z]; rfl))]
    · rw [zm, if_neg (fun z => z ((nI_eq (b := 1) (by omega) (by omega)).mp c1))]
  refine wloop_of (fun v : Int32 × wS => ∃ j : Nat, j ≤ 501 ∧ v.1 = nI j ∧ keepD σ v.2 ∧ ∀ t, t < j → (v.2.2.2.1 19 t).toInt = dp 0 t) (fun v => 501 - v.1.toNatClampNeg) ?_ _ ⟨0, by omega, rfl, ⟨rfl, fun _ _ _ => rfl⟩, fun t ht => absurd ht (Nat.not_lt_zero t)⟩
  rintro K ⟨x1, τ⟩ ⟨j, hj, e1, ke, ht⟩ kk
  dsimp only at e1 ke ht kk
  subst e1
  dsimp only [wm_X6_mostOf_L2]
  refine ⟨fun c => ?_, fun c => ?_⟩
  · have : 500 < j := (nI_ltI (a := 500) (by omega) (by omega)).mp c
    exact mid τ ke (fun t h => ht t (by omega))
  have hj5 : ¬ 500 < j := fun z => c ((nI_ltI (a := 500) (by omega) (by omega)).mpr z)
  have st : ∀ v : Int32, v.toInt = dp 0 j → vp_in (nI j) 501 ∧ ∀ σ1 : wS, σ1 = sA τ 19 (nI j) v → ∀ a2 : Int32, a2 = nI j + 1 → K (a2, σ1) := by
    intro v hv
    refine ⟨nI_in (by omega) (by decide), fun σ1 q1 a2 q2 => ?_⟩
    subst q1; subst q2
    refine kk _ ⟨j + 1, by omega, nI_1 j, ke.trans (keepD.sA 19 (by omega) _ _ _), fun t h => ?_⟩ (by dsimp only; rw [nI_1, nI_clamp (by omega), nI_clamp (by omega)]; omega)
    dsimp only
    rw [a_sA τ 19 (by omega)]
    by_cases e : t = j
    · rw [if_pos ⟨rfl, e⟩, e]; exact hv
    · rw [if_neg (fun z => e z.2)]; exact ht t (by omega)
  refine ⟨fun c1 => st _ ?_, fun c1 => st _ ?_⟩
  · rw [← hdp]; unfold dpT; rw [if_neg (fun z => c1 (by rw [z]; rfl)), zm]
  · rw [← hdp]; unfold dpT; rw [if_pos ((nI_eq (b := 0) (by omega) (by omega)).mp c1), z0]
