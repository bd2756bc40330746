theorem fb_ct_lt {p q : Nat → Bool} : ∀ {n : Nat}, (∀ k, k < n → p k = true → q k = true) → (∃ k, k < n ∧ p k = false ∧ q k = true) → fb_ct p n < fb_ct q n
  | 0, _, ⟨k, h, _⟩ => absurd h (Nat.not_lt_zero k)
  | n + 1, h, ⟨k, hk, h1, h2⟩ => by
    rw [fb_ct_succ, fb_ct_succ]
    have hs : fb_ct p n ≤ fb_ct q n := fb_ct_sub (fun k hk => h k (by omega))
    by_cases e : k = n
    · subst e
      rw [h1, h2]
      simp; omega
    · have hi := fb_ct_lt (n := n) (fun k hk => h k (by omega)) ⟨k, by omega, h1, h2⟩
      by_cases c : p n = true
      · rw [c, h n (by omega) c]; simp; omega
      · have : p n = false := by cases hp : p n with | true => exact absurd hp c | false => rfl
        rw [this]; simp; split <;> omega
/-- what goes(s) leaves behind, if there is a potential -/
def goesT (P Mo : Nat) (Lm : List gL) (s : Nat) (e : Nat → Int64) : Prop := ∀ v, v < 53 → (inE P Mo v → (e v).toInt = dD Lm s v) ∧ (¬ inE P Mo v → (e v).toInt = noI)
theorem m_goes {Q : Int32 → wS → Prop} {σ : wS} {P Mo : Nat} {A Lm : List gL} {s : Nat} (hP : P ≤ 20) (hM : Mo ≤ 16) (hm : mHas σ A) (hA : arcs P Mo A Lm) (hL : ∀ x ∈ Lm, okF P Mo x) (hs : inE P Mo s)
    (hT : (∃ h, potL Lm h) → ∀ e : Nat → Int64, goesT P Mo Lm s e → Q 1 (sBF σ 1 e)) (hF : (¬ ∃ h, potL Lm h) → ∀ e : Nat → Int64, Q 0 (sBF σ 1 e)) : wm_X6_goes Q (nI s) σ := by
  have hs53 := inE_lt hP hM hs
  have ho : okL Lm := fun a ha => ⟨inE_lt hP hM (hL a ha).1, inE_lt hP hM (hL a ha).2.1⟩
  -- the rounds
  have rounds : ∀ e : Nat → Int64, (∀ v, v < 53 → (e v).toInt = if v = s then 0 else noI) → ∃ n, wloop (wm_X6_goes_L36 Q) n (1, 0, sBF σ 1 e) := by
    intro e0 he0
    refine wloop_of (fun w : Int32 × Int32 × wS => ∃ (t : Nat) (e : Nat → Int64), t ≤ 54 ∧ w.2.1 = nI t ∧ w.2.2 = sBF σ 1 e ∧ (w.1 = 0 ∨ w.1 = 1) ∧ attM P Mo Lm s e ∧ bndM (40000000 * (t : Int)) e ∧ 0 ≤ (e s).toInt ∧ (w.1 = 0 → ∀ a ∈ A, (e a.2.1).toInt ≠ noI → (e a.2.1).toInt - a.2.2 ≤ (e a.1).toInt) ∧ (w.1 = 1 → (∃ h, potL Lm h) → t + 1 ≤ fb_ct (fun v => decide ((e v).toInt = if inEb P Mo v then dD Lm s v else noI)) 53)) (fun w => (54 - w.2.1.toNatClampNeg) * 2 + (if w.1 = 0 then 0 else 1)) ?_ _
      ⟨0, e0, by omega, rfl, rfl, Or.inr rfl, fun v hv => ?_, fun v hv => ?_, ?_, fun z => absurd (show (1 : Int32) = 0 from z) (by decide), fun _ hp => ?_⟩
    · rintro K ⟨x2, x3, τ⟩ ⟨t, e, ht, e3, eτ, h01, ea, eb, es, h0, h1⟩ kk
      dsimp only at e3 eτ h01 h0 h1 kk
      subst e3; subst eτ
      have J0 : x2 = 0 → wm_X6_goes_J164 Q x2 (sBF σ 1 e) := by
        intro z
        refine i_t' z ?_
        have hcl := h0 z
        have sno : (e s).toInt ≠ noI := by unfold noI; omega
        -- every place that there is is reached
        have e0n : (e 0).toInt ≠ noI := by
          by_cases c : s = 0
          · rw [← c]; exact sno
          · have := hcl _ (hA.2.2.1 s hs c).2 sno
            dsimp only at this
            unfold noI at *; omega
        have all : ∀ v, inE P Mo v → (e v).toInt ≠ noI := by
          intro v hv
          by_cases c : v = 0
          · rw [c]; exact e0n
          · have := hcl _ (hA.2.2.1 v hv c).1 e0n
            dsimp only at this
            have b0 := (eb 0 (by omega)).resolve_left e0n
            have : (t : Int) ≤ 54 := by omega
            unfold noI at *; omega
        have hout : ∀ v, v < 53 → ¬ inE P Mo v → (e v).toInt = noI := fun v hv hn => (ea v hv).elim id (fun h => absurd h.1 hn)
        have hpot : potL Lm (fun v => if inEb P Mo v then (e v).toInt else (e 0).toInt) := by
          have lo : ∀ v, inE P Mo v → (e 0).toInt ≤ (e v).toInt := by
            intro v hv
            by_cases c : v = 0
            · rw [c]; exact Int.le_refl _
            · have := hcl _ (hA.2.2.1 v hv c).1 e0n; dsimp only at this; omega
          have hi : ∀ v, inE P Mo v → (e v).toInt ≤ (e 0).toInt + 100000 := by
            intro v hv
            by_cases c : v = 0
            · rw [c]; omega
            · have := hcl _ (hA.2.2.1 v hv c).2 (all v hv); dsimp only at this; omega
          refine ⟨fun u v hu hv => ?_, fun a ha => ?_⟩
          · dsimp only
            by_cases cu : inE P Mo u
            · by_cases cv : inE P Mo v
              · rw [if_pos (inEb_iff.mpr cu), if_pos (inEb_iff.mpr cv)]
                unfold bd
                by_cases c1 : u = v
                · subst c1; rw [if_pos (Or.inl rfl)]; omega
                by_cases c2 : v = 0
                · subst c2; rw [if_pos (Or.inr (Or.inl rfl))]; have := lo u cu; omega
                by_cases c3 : u = v + 1 ∧ 21 ≤ v ∧ v % 2 = 1
                · rw [if_pos (Or.inr (Or.inr c3))]
                  obtain ⟨rfl, c4, c5⟩ := c3
                  obtain ⟨q, rfl⟩ : ∃ q, v = 21 + 2 * q := ⟨(v - 21) / 2, by omega⟩
                  have hq : q < Mo := by unfold inE at cv; omega
                  have h2 := hcl _ (hA.2.2.2 q hq) (all _ cv)
                  dsimp only at h2
                  rw [show 22 + 2 * q = 21 + 2 * q + 1 by omega] at h2
                  omega
                · rw [if_neg (by omega)]
                  have := lo u cu; have := hi v cv; omega
              · rw [if_pos (inEb_iff.mpr cu), if_neg (fun z => cv (inEb_iff.mp z))]
                have := lo u cu; have := bd_nn u v; omega
            · rw [if_neg (fun z => cu (inEb_iff.mp z))]
              by_cases cv : inE P Mo v
              · rw [if_pos (inEb_iff.mpr cv)]
                by_cases c0 : v = 0
                · subst c0; rw [bd_to0]; omega
                · have hb : bd u v = 100000 := by
                    unfold bd
                    rw [if_neg]
                    rintro (h | h | ⟨h1, h2, h3⟩)
                    · exact cu (h ▸ cv)
                    · exact c0 h
                    · apply cu
                      unfold inE at cv ⊢
                      omega
                  rw [hb]; exact hi v cv
              · rw [if_neg (fun z => cv (inEb_iff.mp z))]
                have := bd_nn u v; omega
          · dsimp only
            obtain ⟨o1, o2, -⟩ := hL a ha
            rw [if_pos (inEb_iff.mpr o1), if_pos (inEb_iff.mpr o2)]
            have := hcl a (hA.2.1 a ha) (all _ o2)
            omega
        have hn := pot_noneg ho hpot
        refine hT ⟨_, hpot⟩ e (fun v hv => ⟨fun hvE => ?_, hout v hv⟩)
        have up : ∀ u, inE P Mo u → (e u).toInt ≤ dD Lm s u := by
          intro u hu
          obtain ⟨-, l, l1, l2⟩ := (ea u (inE_lt hP hM hu)).resolve_left (all u hu)
          have := dD_le ho hn (s := s) (v := u) l1
          omega
        have fin := spread hP hA hL ho hn hs53 hs (F := fun u => dD Lm s u ≤ (e u).toInt) (by rw [dD_s ho hn hs53]; exact es) (fun a ha hf he => by
          have := hcl a ha (all _ (hA.1 a ha).2.1)
          have := hf
          omega) v hvE
        have := up v hvE
        omega
      have J1 : x2 = 1 → (¬ ∃ h, potL Lm h) → wm_X6_goes_J164 Q x2 (sBF σ 1 e) := fun z hp => i_f' (by rw [z]; decide) (hF hp e)
      dsimp only [wm_X6_goes_L36]
      refine ⟨fun c => ?_, fun c => ⟨J0, fun c2 => ?_⟩⟩
      · rcases h01 with z | z
        · exact J0 z
        · refine J1 z (fun hp => ?_)
          have h2 := h1 z hp
          have h3 : 53 < t := (nI_ltI (a := 53) (by omega) (by omega)).mp c
          have := fb_ct_le (fun v => decide ((e v).toInt = if inEb P Mo v then dD Lm s v else noI)) 53
          omega
      have hz : x2 = 1 := h01.resolve_left c2
      have ht53 : t ≤ 53 := Nat.le_of_not_lt (fun z => c ((nI_ltI (a := 53) (by omega) (by omega)).mpr z))
      refine m_round (s := s) (e := e) (B := 40000000 * (t : Int)) hP hM hm hA ⟨by omega, by omega⟩ ea eb (fun c3 g g01 g0 g1 ga gb gm gr => ?_)
      refine kk _ ⟨t + 1, g, by omega, nI_1 t, rfl, g01, ga, ?_, ?_, fun z a ha hno => ?_, fun z hp => ?_⟩ ?_
      · have e1 : 40000000 * ((t + 1 : Nat) : Int) = 40000000 * (t : Int) + 40000000 := by omega
        rw [e1]; exact gb
      · have := gm s hs53; omega
      · obtain ⟨q1, q2⟩ := g0 z
        obtain ⟨o1, o2, -⟩ := hA.1 a ha
        rw [q1 _ (inE_lt hP hM o1), q1 _ (inE_lt hP hM o2)] at *
        exact q2 a ha hno
      · obtain ⟨f, hf⟩ := hp
        have hn := pot_noneg ho hf
        have hcnt := h1 hz ⟨f, hf⟩
        have up : ∀ (q : Nat → Int64), attM P Mo Lm s q → ∀ u, inE P Mo u → (q u).toInt = noI ∨ (q u).toInt ≤ dD Lm s u := by
          intro q hq u hu
          rcases hq u (inE_lt hP hM hu) with h | ⟨-, l, l1, l2⟩
          · exact Or.inl h
          · have := dD_le ho hn (s := s) (v := u) l1
            exact Or.inr (by omega)
        have dlo : ∀ u, inE P Mo u → noI < dD Lm s u := by
          intro u hu
          have h2 := dD_le ho hn (s := s) (v := u) (l := []) (subL_nil Lm)
          have := bd_le u s
          simp only [wt] at h2
          unfold noI; omega
        have lt := fb_ct_lt (p := fun v => decide ((e v).toInt = if inEb P Mo v then dD Lm s v else noI)) (q := fun v => decide ((g v).toInt = if inEb P Mo v then dD Lm s v else noI)) (n := 53) (fun v hv hpv => ?_) ?_
        · omega
        · have hpv := of_decide_eq_true hpv
          apply decide_eq_true
          by_cases cv : inE P Mo v
          · rw [if_pos (inEb_iff.mpr cv)] at hpv ⊢
            have h2 := gm v hv
            have h3 := dlo v cv
            rcases up g ga v cv with h4 | h4
            · omega
            · omega
          · rw [if_neg (fun z => cv (inEb_iff.mp z))]
            exact (ga v hv).elim id (fun h => absurd h.1 cv)
        · obtain ⟨a0, ha0, hno0, hv0⟩ := g1 z
          obtain ⟨q1, q2, -⟩ := hA.1 a0 ha0
          apply Classical.byContradiction
          intro hcon
          have fin := spread hP hA hL ho hn hs53 hs (F := fun u => dD Lm s u ≤ (e u).toInt) (by rw [dD_s ho hn hs53]; exact es) (fun a ha hf he => by
            apply Classical.byContradiction
            intro hlt
            obtain ⟨o1, o2, -⟩ := hA.1 a ha
            have n1 := inE_lt hP hM o1
            have hne : (e a.2.1).toInt ≠ noI := by have := dlo a.2.1 o2; omega
            have hr := gr a ha hne
            have hu1 := up g ga a.1 o1
            have hd := dlo a.1 o1
            refine hcon ⟨a.1, n1, decide_eq_false ?_, decide_eq_true ?_⟩
            · rw [if_pos (inEb_iff.mpr o1)]; omega
            · rw [if_pos (inEb_iff.mpr o1)]
              have hu2 := up e ea a.2.1 o2
              rcases hu1 with h4 | h4 <;> omega) a0.1 q1
          have hu0 := up e ea a0.2.1 q2
          have harc := dD_arc hA ho hn s ha0
          rcases hu0 with h4 | h4
          · exact hno0 h4
          · omega
      · dsimp only
        rw [nI_1, nI_clamp (by omega), nI_clamp (by omega), hz]
        split <;> split <;> omega
    · rw [he0 v hv]
      by_cases c : v = s
      · rw [if_pos c]; exact Or.inr ⟨c ▸ hs, [], subL_nil Lm, by rw [c]; simp [wt, bd_self]⟩
      · rw [if_neg c]; exact Or.inl rfl
    · rw [he0 v hv]
      by_cases c : v = s
      · rw [if_pos c]; exact Or.inr (by omega)
      · rw [if_neg c]; exact Or.inl rfl
    · rw [he0 s hs53, if_pos rfl]; omega
    · obtain ⟨f, hf⟩ := hp
      have hn := pot_noneg ho hf
      refine fb_ct_pos.mpr ⟨s, hs53, decide_eq_true ?_⟩
      rw [he0 s hs53, if_pos rfl, if_pos (inEb_iff.mpr hs), dD_s ho hn hs53]
  refine wloop_of (fun w : Int32 × wS => ∃ (k : Nat) (e : Nat → Int64), k ≤ 53 ∧ w.1 = nI k ∧ w.2 = sBF σ 1 e ∧ ∀ v, v < k → (e v).toInt = if v = s then 0 else noI) (fun w => 53 - w.1.toNatClampNeg) ?_ _ ⟨0, σ.2.2.2 1, by omega, rfl, (sBF_self σ 1).symm, fun v hv => absurd hv (Nat.not_lt_zero v)⟩
  rintro K ⟨x2, τ⟩ ⟨k, e, hk, e2, eτ, he⟩ kk
  dsimp only at e2 eτ kk
  subst e2; subst eτ
  dsimp only [wm_X6_goes_L2]
  refine ⟨fun c => ?_, fun c => ?_⟩
  · have : 53 ≤ k := (nI_leI (a := 53) (by omega) (by omega)).mp c
    exact rounds e (fun v hv => he v (by omega))
  have hlt : k < 53 := Nat.lt_of_not_le (fun z => c ((nI_leI (a := 53) (by omega) (by omega)).mpr z))
  have st : ∀ x : Int64, x.toInt = (if k = s then 0 else noI) → vp_in (nI k) 53 ∧ ∀ σ1 : wS, σ1 = sB (sBF σ 1 e) 1 (nI k) x → ∀ a2 : Int32, a2 = nI k + 1 → K (a2, σ1) := by
    intro x hx
    refine ⟨nI_in hlt (by decide), fun σ1 e1 a2 e2 => ?_⟩
    subst e1; subst e2
    rw [sB_sBF, nI_clamp (by omega)]
    refine kk _ ⟨k + 1, _, by omega, nI_1 k, rfl, fun v hv => ?_⟩ ?_
    · by_cases ev : v = k
      · rw [ev, pk_uLs]; exact hx
      · rw [pk_uLn ev]; exact he v (by omega)
    · dsimp only
      rw [nI_1, nI_clamp (by omega), nI_clamp (by omega)]; omega
  refine ⟨fun c1 => st _ ?_, fun c1 => st _ ?_⟩
  · rw [if_neg (fun z => c1 (by rw [z])), no_toInt]
  · rw [if_pos ((nI_eq (by omega) (by omega)).mp c1)]; decide
