/-! MFINDS: the reference's row -/
section MFINDS
variable {L R : Nat → Nat} {P : Nat}
/-- what hasRow asks -/
def hr (L R : Nat → Nat) (S : Nat → Prop) (e : Nat) : Prop := (∀ p, ¬ S p) ∨ (conR L R S ∧ st L R S ≤ 1 ∧ (e = 0 ∨ ((st L R S = 1 → 0 < ps L R S e) ∧ (¬ st L R S = 1 → ∃ q, S q ∧ L q = e))))
theorem hr_0 {S : Nat → Prop} (hS : okS L R S) {p : Nat} (hp : S p) : hr L R S 0 ↔ con L R S ∧ st L R S ≤ 1 := by
  constructor
  · rintro (h | ⟨h1, h2, _⟩)
    · exact absurd hp (h p)
    · exact ⟨h1.X hS h2, h2⟩
  · rintro ⟨h1, h2⟩
    exact Or.inr ⟨h1.toR, h2, Or.inl rfl⟩
theorem hr_rf {S : Nat → Prop} {e : Nat} (hS : okS L R S) (he : e ≠ 0) : hr L R S e ↔ rf L R S e := by
  constructor
  · rintro (h | ⟨h1, h2, h3⟩)
    · exact Or.inl h
    · obtain ⟨h3, h4⟩ := h3.elim (fun z => absurd z he) id
      right
      by_cases d : st L R S = 1
      · have hp := h3 d
        have hp2 : 0 < od L S e := by unfold ps at hp; omega
        obtain ⟨q, _, hq, e1⟩ := od_pos hp2
        exact ⟨h1.X hS h2, st_ex hS h2 hp, q, hq, e1⟩
      · exact ⟨h1.X hS h2, st0_ex hS (by omega) e, h4 d⟩
  · rintro (h | ⟨h1, h2, h3⟩)
    · exact Or.inl h
    · refine Or.inr ⟨h1.toR, h2.sle, Or.inr ⟨fun d => ?_, fun _ => h3⟩⟩
      obtain ⟨v, _, hv⟩ := sm_pos (show 0 < fb_sm (ps L R S) 300 from by have : fb_sm (ps L R S) 300 = 1 := d; omega)
      have ev : v = e := Classical.byContradiction fun z => by
        have := h2 v
        rw [c1_f z] at this
        unfold ps at hv
        omega
      rw [← ev]; exact hv
theorem st_500 {S : Nat → Prop} (hS : okS L R S) : fb_sm (ps L R S) 500 = st L R S := by
  rw [show (500 : Nat) = 300 + 200 from rfl, fb_sm_split, sm_0 (f := fun k => ps L R S (300 + k)) (fun k _ => ps_big hS (by omega)), Nat.add_zero]
  rfl
theorem m_hasRow {Q : Int32 → wS → Prop} {x : Int32} {e : Nat} {σ : wS} (hM : edM P L R σ) (hP : P ≤ 20) (hS : okP P L R (bS x)) (he : e < 500)
    (h1 : hr L R (bS x) e → ∀ τ, keepH σ τ → Q 1 τ) (h0 : ¬ hr L R (bS x) e → ∀ τ, keepH σ τ → Q 0 τ) : wm_X6_hasRow Q x (nI e) σ := by
  refine ⟨fun cx => ?_, fun cx => h1 (Or.inl (b_no.mp cx)) σ (keepH.rf σ)⟩
  have hSS := hS.S hP
  have hne : ¬ ∀ p, ¬ bS x p := fun z => cx (b_no.mpr z)
  refine m_marks hM hP hS (fun τ1 mk k1 hmk hms => m_counts (hM.keep k1) hP hS (fun τ k2 e13 hcn a3 ea3 => ?_))
  have kt := k1.trans k2
  have hMt := hM.keep kt
  have hms2 : mkS L R (bS x) τ mk := fun v hv => by rw [e13]; exact hms v hv
  have mlt : ∀ p, bS x p → mk (L p) < 300 := fun p hp => (mkOk.lt hSS hmk.1 ⟨p, hp, Or.inl rfl⟩).1
  subst ea3
  refine wloop_of (fun w : Int32 × Int32 × Int32 => ∃ k : Nat, k ≤ P ∧ w.2.2 = nI k ∧ (w.2.1 = 0 ∨ w.2.1 = 1) ∧ (¬ w.2.1 = 0 ↔ ∃ q, q < k ∧ bS x q ∧ L q = e) ∧ ((w.1 = -1 ∧ ∀ q, q < k → ¬ bS x q) ∨ ∃ m : Nat, m < 300 ∧ w.1 = nI m ∧ (∃ q, q < k ∧ bS x q) ∧ ∀ q, q < k → bS x q → mk (L q) = m)) (fun w => P - w.2.2.toNatClampNeg) ?_ _ ⟨0, by omega, rfl, Or.inl rfl, ⟨fun z => absurd rfl z, fun ⟨q, hq, _⟩ => absurd hq (Nat.not_lt_zero q)⟩, Or.inl ⟨rfl, fun q hq => absurd hq (Nat.not_lt_zero q)⟩⟩
  rintro K ⟨x5, x6, x7⟩ ⟨k, hk, ek, h01, htc, htg⟩ kk
  try dsimp only at ek h01 htc htg kk
  subst ek
  dsimp only [wm_X6_hasRow_L30]
  rw [hMt.1]
  refine ⟨fun c => ?_, fun c => ?_⟩
  · have hkP := (geP hP (by omega)).mp c
    have hcon : conR L R (bS x) := by
      refine (mk_con hmk).mp (fun p q hp hq => ?_)
      have hpk : p < k := by have := (hS p hp).1; omega
      have hqk : q < k := by have := (hS q hq).1; omega
      rcases htg with ⟨_, z⟩ | ⟨m, _, _, _, z⟩
      · exact absurd hp (z p hpk)
      · rw [z p hpk hp, z q hqk hq]
    have htc2 : ¬ x6 = 0 ↔ ∃ q, bS x q ∧ L q = e := htc.trans ⟨fun ⟨q, _, z⟩ => ⟨q, z⟩, fun ⟨q, z⟩ => ⟨q, by have := (hS q z.1).1; omega, z⟩⟩
    refine wloop_of (fun w : Int32 × Int32 × Int32 => ∃ j : Nat, j ≤ 500 ∧ w.2.2 = nI j ∧ w.2.1 = nI (fb_sm (ps L R (bS x)) j) ∧ ((w.1 = 0 ∧ ∀ v, v < j → ps L R (bS x) v = 0) ∨ ∃ b : Nat, b < j ∧ w.1 = nI b ∧ 0 < ps L R (bS x) b)) (fun w => 500 - w.2.2.toNatClampNeg) ?_ _ ⟨0, by omega, rfl, rfl, Or.inl ⟨rfl, fun v hv => absurd hv (Nat.not_lt_zero v)⟩⟩
    clear kk K
    rintro K ⟨x3, x4, x7⟩ ⟨j, hj, ej, e4, hb⟩ kk
    try dsimp only at ej e4 hb kk
    subst ej; subst e4
    dsimp only [wm_X6_hasRow_L118]
    refine ⟨fun c2 => ?_, fun c2 => ?_⟩
    · have ej5 : j = 500 := by have : 500 ≤ j := (nI_leI (a := 500) (by omega) (by omega)).mp c2; omega
      subst ej5
      rw [st_500 hSS]
      have hs20 := st_20 hSS
      have nst : ¬ hr L R (bS x) e → Q 0 τ := fun z => h0 z τ kt
      have yst : hr L R (bS x) e → Q 1 τ := fun z => h1 z τ kt
      refine ⟨fun c3 => ?_, fun c3 => nst (fun z => z.elim hne (fun w => c3 ((nI_leI (b := 1) (by omega) (by omega)).mpr w.2.1)))⟩
      have hs1 : st L R (bS x) ≤ 1 := (nI_leI (b := 1) (by omega) (by omega)).mp c3
      have mkhr : (e = 0 ∨ ((st L R (bS x) = 1 → 0 < ps L R (bS x) e) ∧ (¬ st L R (bS x) = 1 → ∃ q, bS x q ∧ L q = e))) ↔ hr L R (bS x) e := ⟨fun z => Or.inr ⟨hcon, hs1, z⟩, fun z => z.elim (fun w => absurd w hne) (fun w => w.2.2)⟩
      refine ⟨fun c4 => yst (mkhr.mp (Or.inl ((nI_eq (b := 0) (by omega) (by omega)).mp c4))), fun c4 => ?_⟩
      have he0 : ¬ e = 0 := fun z => c4 (by rw [z]; rfl)
      have e1 : nI (st L R (bS x)) = 1 ↔ st L R (bS x) = 1 := nI_eq (b := 1) (by omega) (by omega)
      rw [e1]
      refine ⟨fun c5 => ⟨fun c6 => ?_, fun c6 => ?_⟩, fun c5 => ?_⟩
      · refine nst (fun z => ?_)
        have := (mkhr.mpr z).elim (fun w => absurd w he0) id
        exact (htc2.mpr (this.2 c5)) c6
      · exact yst (mkhr.mp (Or.inr ⟨fun z => absurd z c5, fun _ => htc2.mp c6⟩))
      · rcases hb with ⟨_, hz⟩ | ⟨b, hb5, e3, hpb⟩
        · have : fb_sm (ps L R (bS x)) 500 = 0 := sm_0 hz
          rw [st_500 hSS] at this
          omega
        · subst e3
          have eb : nI b = nI e ↔ b = e := nI_eq (by omega) (by omega)
          rw [eb]
          refine ⟨fun c6 => nst (fun z => ?_), fun c6 => yst (mkhr.mp (Or.inr ⟨fun _ => c6 ▸ hpb, fun z => absurd c5 z⟩))⟩
          have h7 := ((mkhr.mpr z).elim (fun w => absurd w he0) id).1 c5
          have h8 := st_ex hSS hs1 hpb e
          rw [c1_f (fun y => c6 y.symm)] at h8
          unfold ps at h7
          omega
    have hjl : j < 500 := Nat.lt_of_not_le (fun z => c2 ((nI_leI (a := 500) (by omega) (by omega)).mpr z))
    have hmu : 500 - (nI j + 1).toNatClampNeg < 500 - (nI j).toNatClampNeg := by rw [nI_1, nI_clamp (by omega), nI_clamp (by omega)]; omega
    obtain ⟨cm1, cm2⟩ := cn_mx hcn hjl
    refine ⟨nI_in hjl (by decide), fun m1 em a2 ea2 => ⟨nI_in hjl (by decide), ?_⟩⟩
    rw [cm1] at em
    subst em; subst ea2
    rw [nI_add, cm2]
    refine ⟨fun c3 a e => ?_, fun c3 a e => ?_⟩
    · subst e
      refine kk _ ⟨j + 1, by omega, nI_1 j, by try dsimp only; rw [fb_sm_succ], ?_⟩ hmu
      rcases hb with ⟨hb1, hb2⟩ | ⟨b, hb1, hb2, hb3⟩
      · refine Or.inl ⟨hb1, fun v hv => ?_⟩
        by_cases d : v = j
        · rw [d]; exact c3
        · exact hb2 v (by omega)
      · exact Or.inr ⟨b, by omega, hb2, hb3⟩
    · subst e
      exact kk _ ⟨j + 1, by omega, nI_1 j, by try dsimp only; rw [fb_sm_succ], Or.inr ⟨j, by omega, rfl, Nat.pos_of_ne_zero c3⟩⟩ hmu
  have hkl : k < P := Nat.lt_of_not_le (fun z => c ((geP hP (by omega)).mpr z))
  have hmu : P - (nI k + 1).toNatClampNeg < P - (nI k).toNatClampNeg := by rw [nI_1, nI_clamp (by omega), nI_clamp (by omega)]; omega
  rw [m_bit (by omega)]
  refine ⟨fun c3 => ?_, fun c3 a ea => ?_⟩
  · have hSk : bS x k := Classical.byContradiction c3
    obtain ⟨_, l1, l2, r1, r2⟩ := hS k hSk
    have iL : vp_in (nI (L k)) 500 := nI_in (by omega) (by decide)
    have hmk13 : aI τ 13 (nI (L k)) = nI (mk (L k)) := by rw [aI_nI τ 13 (by omega)]; exact hms2 _ ⟨k, hSk, Or.inl rfl⟩
    have hml := mlt k hSk
    have J : (∀ q, q < k → bS x q → mk (L q) = mk (L k)) → wm_X6_hasRow_J74 Q K x (nI e) 0 0 x6 (nI k) τ := by
      intro hsm
      have tg : ∀ v6 : Int32, (v6 = 0 ∨ v6 = 1) → (¬ v6 = 0 ↔ ∃ q, q < k + 1 ∧ bS x q ∧ L q = e) → K (nI (mk (L k)), v6, nI k + 1) := by
        intro v6 a b
        refine kk _ ⟨k + 1, by omega, nI_1 k, a, b, Or.inr ⟨mk (L k), hml, rfl, ⟨k, by omega, hSk⟩, fun q hq hq2 => ?_⟩⟩ hmu
        by_cases d : q = k
        · rw [d]
        · exact hsm q (by omega) hq2
      unfold wm_X6_hasRow_J74
      rw [m_leftOf hMt hP hkl]
      refine ⟨iL, fun a3 e3 => ?_⟩
      rw [hmk13] at e3
      subst e3
      refine ⟨fun c4 a4 e4 => ?_, fun c4 => ?_⟩
      · subst e4
        refine tg 1 (Or.inr rfl) ⟨fun _ => ?_, fun _ => by decide⟩
        obtain ⟨q, h1, h2⟩ := htc.mp c4
        exact ⟨q, by omega, h2⟩
      · rw [m_leftOf hMt hP hkl]
        have el : nI (L k) = nI e ↔ L k = e := nI_eq (by omega) (by omega)
        rw [el]
        refine ⟨fun c5 a4 e4 => ?_, fun c5 a4 e4 => ?_⟩
        · subst e4
          refine tg 0 (Or.inl rfl) ⟨fun z => absurd rfl z, fun ⟨q, h1, h2, h3⟩ => ?_⟩
          refine absurd c4 (htc.mpr ⟨q, ?_, h2, h3⟩)
          have : q ≠ k := fun z => c5 (z ▸ h3)
          omega
        · subst e4
          exact tg 1 (Or.inr rfl) ⟨fun _ => ⟨k, by omega, hSk, c5⟩, fun _ => by decide⟩
    rcases htg with ⟨t1, t2⟩ | ⟨m, t1, t2, ⟨q, t3, t4⟩, t5⟩
    · subst t1
      exact i_t (by decide) (J (fun q hq hq2 => absurd hq2 (t2 q hq)))
    · subst t2
      refine i_f (nI_pos (by omega)) ?_
      rw [m_leftOf hMt hP hkl, hmk13]
      have el : nI (mk (L k)) = nI m ↔ mk (L k) = m := nI_eq (by omega) (by omega)
      rw [el]
      refine ⟨iL, fun c4 => J (fun q hq hq2 => by rw [t5 q hq hq2, c4]), fun c4 => h0 (fun z => ?_) τ kt⟩
      refine z.elim hne (fun w => c4 ?_)
      rw [← t5 q t3 t4]
      exact (mk_con hmk).mpr w.1 k q hSk t4
  · subst ea
    refine kk _ ⟨k + 1, by omega, nI_1 k, h01, htc.trans ⟨fun ⟨q, h1, h2⟩ => ⟨q, by omega, h2⟩, fun ⟨q, h1, h2⟩ => ⟨q, ?_, h2⟩⟩, ?_⟩ hmu
    · have : q ≠ k := fun z => c3 (z ▸ h2.1)
      omega
    · rcases htg with ⟨t1, t2⟩ | ⟨m, t1, t2, ⟨q, t3, t4⟩, t5⟩
      · refine Or.inl ⟨t1, fun q hq => ?_⟩
        by_cases d : q = k
        · rw [d]; exact c3
        · exact t2 q (by omega)
      · refine Or.inr ⟨m, t1, t2, ⟨q, by omega, t4⟩, fun q hq hq2 => ?_⟩
        exact t5 q (by have : q ≠ k := fun z => c3 (z ▸ hq2); omega) hq2
theorem m_isNext {Q : Int32 → wS → Prop} {x : Int32} {e p : Nat} {σ : wS} (hM : edM P L R σ) (hP : P ≤ 20) (hS : okP P L R (bS x)) (he : e < 500) (hp : p < P)
    (h1 : nxR L R (bS x) e p → ∀ τ, keepH σ τ → Q 1 τ) (h0 : ¬ nxR L R (bS x) e p → ∀ τ, keepH σ τ → Q 0 τ) : wm_X6_isNext Q x (nI e) (nI p) σ := by
  unfold wm_X6_isNext
  rw [m_bit (by omega)]
  refine ⟨fun c => h0 (fun z => c z.1) σ (keepH.rf σ), fun c => ?_⟩
  have hSp : bS x p := Classical.byContradiction c
  obtain ⟨_, l1, l2, r1, r2⟩ := hS p hSp
  have J : (e = 0 ∨ L p = e) → wm_X6_isNext_J23 Q x (nI p) σ := by
    intro hd
    unfold wm_X6_isNext_J23
    rw [m_rightOf hM hP hp]
    have e1 := bS_rm x (p := p) (by omega)
    have hS2 : okP P L R (bS (x &&& (((1 : Int32) <<< (nI p &&& 31)) ^^^ (-1)))) := by rw [e1]; exact hS.sub (fun q z => z.1)
    refine m_hasRow hM hP hS2 (by omega) (fun z τ kt => ⟨isB1, h1 ⟨hSp, hd, ?_⟩ τ kt⟩) (fun z τ kt => ⟨isB0, h0 (fun w => z ?_) τ kt⟩)
    · have := (hr_rf (hS2.S hP) (by omega)).mp z
      rw [e1] at this
      exact this
    · refine (hr_rf (hS2.S hP) (by omega)).mpr ?_
      rw [e1]
      exact w.2.2
  have e0 : nI e ≤ 0 ↔ e ≤ 0 := nI_leI (b := 0) (by omega) (by omega)
  rw [e0]
  refine ⟨fun c2 => J (Or.inl (by omega)), fun c2 => ?_⟩
  rw [m_leftOf hM hP hp]
  have el : nI (L p) = nI e ↔ L p = e := nI_eq (by omega) (by omega)
  rw [el]
  exact ⟨fun c3 => J (Or.inr c3), fun c3 => h0 (fun z => z.2.1.elim (fun w => by omega) c3) σ (keepH.rf σ)⟩
def keepF (σ τ : wS) : Prop := (∀ k, k ≠ 8 → τ.1 k = σ.1 k) ∧ ∀ b, b ≠ 11 → b ≠ 12 → b ≠ 13 → τ.2.2.1 b = σ.2.2.1 b
theorem keepF.rf (σ : wS) : keepF σ σ := ⟨fun _ _ => rfl, fun _ _ _ _ => rfl⟩
theorem keepF.trans {a b c : wS} (h : keepF a b) (h2 : keepF b c) : keepF a c := ⟨fun k k1 => (h2.1 k k1).trans (h.1 k k1), fun k k1 k2 k3 => (h2.2 k k1 k2 k3).trans (h.2 k k1 k2 k3)⟩
theorem keepH.F {a b : wS} (h : keepH a b) : keepF a b := ⟨fun k _ => congrFun h.1 k, fun k _ k2 k3 => h.2 k k2 k3⟩
theorem edM.keepF {σ τ : wS} (h : edM P L R σ) (hk : keepF σ τ) : edM P L R τ := by
  unfold edM
  rw [hk.1 2 (by omega), hk.2 8 (by omega) (by omega) (by omega), hk.2 9 (by omega) (by omega) (by omega)]
  exact h
theorem m_finds {Q : Int32 → wS → Prop} {x : Int32} {σ : wS} (hM : edM P L R σ) (hP : P ≤ 20) (hS : okP P L R (bS x)) (hx0 : ¬ x = 0)
    (h0 : ¬ (con L R (bS x) ∧ st L R (bS x) ≤ 1) → ∀ τ, keepF σ τ → Q 0 τ)
    (h1 : con L R (bS x) → st L R (bS x) ≤ 1 → ∀ (n : Nat) (a : Nat → Nat) (τ : wS), n ≤ 20 → sq L R (bS x) n a → (∀ p, ¬ rs (bS x) a n p) → keepF σ τ → τ.1 8 = nI n → (∀ j, j < n → τ.2.2.1 11 j = nI (a j)) → Q 1 τ) : wm_X6_finds Q x σ := by
  have hSS := hS.S hP
  have hx : ∀ q, bS x q → q < 20 := fun q h => (hSS q h).1
  obtain ⟨p0, hp0, _⟩ := lst_bit hx hx0
  refine m_hasRow (e := 0) hM hP hS (by omega) (fun z τ kt => ⟨fun _ σ3 e3 => ?_, fun z => absurd z (by decide)⟩) (fun z τ kt => ⟨fun z => absurd rfl z, fun _ => h0 (fun w => z ((hr_0 hSS hp0).mpr w)) τ kt.F⟩)
  obtain ⟨hc, hs⟩ := (hr_0 hSS hp0).mp z
  have k3 : keepF σ σ3 := by rw [e3]; exact kt.F.trans ⟨fun k hk => va_up_ne _ _ hk, fun _ _ _ _ => rfl⟩
  refine wloop_of (fun w : Int32 × Int32 × wS => ∃ (k : Nat) (a : Nat → Nat), k + fb_ct (bt w.1) 20 ≤ 20 ∧ w.2.1 = nI (eg R a k) ∧ eg R a k < 300 ∧ sq L R (bS x) k a ∧ bS w.1 = rs (bS x) a k ∧ can L R (rs (bS x) a k) (eg R a k) ∧ keepF σ w.2.2 ∧ w.2.2.1 8 = nI k ∧ ∀ j, j < k → w.2.2.2.2.1 11 j = nI (a j)) (fun w => fb_ct (bt w.1) 20) ?_ _ ⟨0, fun _ => 0, by have := fb_ct_le (bt x) 20; try dsimp only; omega, rfl, by show 0 < 300; omega, fun i hi => absurd hi (Nat.not_lt_zero i), (rs_0 _ _).symm, Or.inl ⟨rfl, by rw [rs_0]; exact hc, by rw [rs_0]; exact hs⟩, k3, by dsimp only; rw [e3]; rfl, fun j hj => absurd hj (Nat.not_lt_zero j)⟩
  rintro K ⟨y, x3, υ⟩ ⟨k, a, hk, e3', heg, hsq, ey, hcan, ku, h8, h11⟩ kk
  dsimp only at hk e3' hsq ey hcan ku h8 h11 kk
  subst e3'
  have hyS : ∀ q, bS y q → bS x q := fun q h => by rw [ey] at h; exact h.1
  have hyP : okP P L R (bS y) := hS.sub hyS
  have hy : ∀ q, bS y q → q < 20 := fun q h => hx q (hyS q h)
  dsimp only [wm_X6_finds_L20]
  refine ⟨fun c => h1 hc hs k a υ (by omega) hsq (fun p hp => ?_) ku h8 h11, fun c => ?_⟩
  · rw [← ey] at hp
    exact b_no.mp c p hp
  obtain ⟨q0, hq0, _⟩ := lst_bit hy c
  have hct : 0 < fb_ct (bt y) 20 := fb_ct_pos.mpr ⟨q0, hy q0 hq0, hq0⟩
  obtain ⟨p1, hp1⟩ := nx_some (hyP.S hP) (by rw [ey]; exact hcan) hq0
  have hp1P := (hyP p1 hp1.1).1
  refine wloop_of (fun w : Int32 × wS => ∃ j : Nat, j ≤ p1 ∧ w.1 = nI j ∧ keepH υ w.2 ∧ ∀ q, q < j → ¬ nxR L R (bS y) (eg R a k) q) (fun w => 20 - w.1.toNatClampNeg) ?_ _ ⟨0, by omega, rfl, keepH.rf υ, fun q h => absurd h (Nat.not_lt_zero q)⟩
  rintro K2 ⟨x4, ω⟩ ⟨j, hj, ej, kw, hno⟩ kk2
  try dsimp only at ej kw hno kk2
  subst ej
  dsimp only [wm_X6_finds_L27]
  refine m_isNext ((hM.keepF ku).keep kw) hP hyP (by omega) (by omega) (fun hnx ρ kr => ⟨fun _ => ?_, fun z => absurd z (by decide)⟩) (fun hnx ρ kr => ⟨fun z => absurd rfl z, fun _ a8 e8 => ?_⟩)
  · have kur : keepF σ ρ := ku.trans (kw.trans kr).F
    have r8 : ρ.1 8 = nI k := by rw [(kw.trans kr).1]; exact h8
    have hSj := hyP j hnx.1
    rw [r8]
    refine ⟨nI_in (by omega) (by decide), fun σ3 e3 σ4 e4 a5 e5 => ?_⟩
    have k4 : keepF σ σ4 := by
      rw [e4, e3]
      exact kur.trans ⟨fun k hk => va_up_ne _ _ hk, fun b hb _ _ => va_up_ne _ _ hb⟩
    rw [m_rightOf (hM.keepF k4) hP (by omega)]
    rw [ey] at hnx hno
    obtain ⟨s1, s2⟩ := sq_s hsq hnx hno
    have hb : ∀ q, bt a5 q = true ↔ bt y q = true ∧ q ≠ j := fun q => by rw [e5, b_rm y (by omega)]
    have hyj : bS y j := by rw [ey]; exact hnx.1
    have hdec := ct_lt (p := bt a5) (q := bt y) (hy j hyj) (fun q _ h => ((hb q).mp h).1) (ts_nt (fun z => ((hb j).mp z).2 rfl)) hyj
    refine kk _ ⟨k + 1, _, by try dsimp only; omega, by rw [eg_s], by rw [eg_s]; omega, s1, ?_, ?_, k4, ?_, fun i hi => ?_⟩ hdec
    · try dsimp only
      rw [e5, bS_rm y (by omega), ey, s2]
    · rw [s2, eg_s]
      exact nx_can (by omega) hnx
    · try dsimp only
      rw [e4]
      show va_up σ3.1 8 (σ3.1 8 + 1) 8 = _
      rw [va_up_self, e3]
      show ρ.1 8 + 1 = _
      rw [r8, nI_1]
    · try dsimp only
      rw [e4]
      show σ3.2.2.1 11 i = _
      rw [e3, a_sA ρ 11 (by omega)]
      by_cases d : i = k
      · rw [if_pos ⟨rfl, d⟩, if_pos d]
      · rw [if_neg (fun z => d z.2), if_neg d, (kw.trans kr).2 11 (by omega) (by omega)]
        exact h11 i (by omega)
  · subst e8
    have hjp : j ≠ p1 := fun z => hnx (z ▸ hp1)
    refine kk2 _ ⟨j + 1, by omega, nI_1 j, kw.trans kr, fun q hq => ?_⟩ ?_
    · by_cases d : q = j
      · rw [d]; exact hnx
      · exact hno q (by omega)
    · try dsimp only
      rw [nI_1, nI_clamp (by omega), nI_clamp (by omega)]; omega
theorem m_isEdge {Q : Int32 → Prop} {x : Int32} {v : Nat} {σ : wS} (hM : edM P L R σ) (hP : P ≤ 20) (hS : okP P L R (bS x)) (hv : v < 500) (h1 : tch L R (bS x) v → Q 1) (h0 : ¬ tch L R (bS x) v → Q 0) : wm_X6_isEdge Q x (nI v) σ := by
  refine wloop_of (fun w : Int32 => ∃ k : Nat, k ≤ P ∧ w = nI k ∧ ∀ p, p < k → bS x p → L p ≠ v ∧ R p ≠ v) (fun w => P - w.toNatClampNeg) ?_ _ ⟨0, by omega, rfl, fun q h => absurd h (Nat.not_lt_zero q)⟩
  rintro K x3 ⟨k, hk, ex, hb⟩ kk
  try dsimp only at kk
  subst ex
  unfold wm_X6_isEdge_L2
  rw [hM.1]
  refine ⟨fun c => h0 (fun ⟨p, hp, e⟩ => ?_), fun c => ?_⟩
  · have hkP := (geP hP (by omega)).mp c
    have := hb p (by have := (hS p hp).1; omega) hp
    omega
  have hkl : k < P := Nat.lt_of_not_le (fun z => c ((geP hP (by omega)).mpr z))
  have hmu : P - (nI k + 1).toNatClampNeg < P - (nI k).toNatClampNeg := by rw [nI_1, nI_clamp (by omega), nI_clamp (by omega)]; omega
  have go : (bS x k → L k ≠ v ∧ R k ≠ v) → K (nI k + 1) := by
    intro h
    refine kk _ ⟨k + 1, by omega, nI_1 k, fun p hp hp2 => ?_⟩ hmu
    by_cases d : p = k
    · subst d; exact h hp2
    · exact hb p (by omega) hp2
  rw [m_bit1 (by omega)]
  refine ⟨fun c2 a e => ?_, fun c2 => ?_⟩
  · subst e; exact go (fun z => absurd z c2)
  obtain ⟨_, l1, l2, r1, r2⟩ := hS k c2
  rw [m_leftOf hM hP hkl]
  have el : nI (L k) = nI v ↔ L k = v := nI_eq (by omega) (by omega)
  have er : nI (R k) = nI v ↔ R k = v := nI_eq (by omega) (by omega)
  rw [el]
  refine ⟨fun c3 => h1 ⟨k, c2, Or.inl c3⟩, fun c3 => ?_⟩
  rw [m_rightOf hM hP hkl, er]
  refine ⟨fun c4 a e => ?_, fun c4 => h1 ⟨k, c2, Or.inr c4⟩⟩
  subst e
  exact go (fun _ => ⟨c3, c4⟩)
theorem m_rowsL {Q : Int32 → wS → Prop} {x : Int32} {σ τ : wS} {mk : Nat → Nat} (hM : edM P L R τ) (hP : P ≤ 20) (hS : okP P L R (bS x)) (hmk : mkOk L R (bS x) mk) (hms : mkS L R (bS x) τ mk) (hcn : cnS L R (bS x) τ) (hq : Q (nI (rwN L R (bS x) mk)) τ) : ∃ n, wloop (wm_X6_rows_L38 Q x τ) n (0, 0) := by
  have hSS := hS.S hP
  have hs20 := st_20 hSS
  refine wloop_of (fun w : Int32 × Int32 => ∃ m : Nat, m ≤ 300 ∧ w.2 = nI m ∧ w.1 = nI (fb_sm (fun m => ci (∃ p, p < 20 ∧ bS x p ∧ mk (L p) = m) (max 1 (nm L R (bS x) mk m))) m)) (fun w => 300 - w.2.toNatClampNeg) ?_ _ ⟨0, by omega, rfl, rfl⟩
  rintro K ⟨x2, x3⟩ ⟨m, hm, em, e2⟩ kk
  try dsimp only at em e2 kk
  subst em; subst e2
  dsimp only [wm_X6_rows_L38]
  refine ⟨fun c => ?_, fun c => ?_⟩
  · have e3 : m = 300 := by have : 300 ≤ m := (nI_leI (a := 300) (by omega) (by omega)).mp c; omega
    rw [e3, rwM hSS hmk]
    exact hq
  have hml : m < 300 := Nat.lt_of_not_le (fun z => c ((nI_leI (a := 300) (by omega) (by omega)).mpr z))
  have hmu : 300 - (nI m + 1).toNatClampNeg < 300 - (nI m).toNatClampNeg := by rw [nI_1, nI_clamp (by omega), nI_clamp (by omega)]; omega
  refine wloop_of (fun w : Int32 × Int32 => ∃ k : Nat, k ≤ P ∧ w.2 = nI k ∧ (w.1 = 0 ∨ w.1 = 1) ∧ (¬ w.1 = 0 ↔ ∃ p, p < k ∧ bS x p ∧ mk (L p) = m)) (fun w => P - w.2.toNatClampNeg) ?_ _ ⟨0, by omega, rfl, Or.inl rfl, ⟨fun z => absurd rfl z, fun ⟨q, hq, _⟩ => absurd hq (Nat.not_lt_zero q)⟩⟩
  rintro K2 ⟨x5, x6⟩ ⟨k, hk, ek, h01, hb⟩ kk2
  try dsimp only at ek h01 hb kk2
  subst ek
  dsimp only [wm_X6_rows_L54]
  rw [hM.1]
  refine ⟨fun c2 => ?_, fun c2 => ?_⟩
  · have hkP := (geP hP (by omega)).mp c2
    have hb2 : ¬ x5 = 0 ↔ ∃ p, p < 20 ∧ bS x p ∧ mk (L p) = m := hb.trans ⟨fun ⟨p, h1, h2⟩ => ⟨p, by omega, h2⟩, fun ⟨p, h1, h2⟩ => ⟨p, by have := (hS p h2.1).1; omega, h2⟩⟩
    refine ⟨fun c3 => ?_, fun c3 a e => ?_⟩
    · refine wloop_of (fun w : Int32 × Int32 => ∃ j : Nat, j ≤ 300 ∧ w.2 = nI j ∧ w.1 = nI (fb_sm (fun k => ci (tch L R (bS x) k ∧ mk k = m) (ps L R (bS x) k)) j)) (fun w => 300 - w.2.toNatClampNeg) ?_ _ ⟨0, by omega, rfl, rfl⟩
      rintro K3 ⟨x4, x7⟩ ⟨j, hj, ej, e4⟩ kk3
      try dsimp only at ej e4 kk3
      subst ej; subst e4
      dsimp only [wm_X6_rows_L117]
      refine ⟨fun c4 m1 em1 a2 ea2 a3 ea3 => ?_, fun c4 => ?_⟩
      · have e3 : j = 300 := by have : 300 ≤ j := (nI_leI (a := 300) (by omega) (by omega)).mp c4; omega
        subst e3
        have hle : nm L R (bS x) mk m ≤ 20 := Nat.le_trans (fb_sm_le (fun k _ => by
          by_cases d : tch L R (bS x) k ∧ mk k = m
          · rw [ci_t d]; exact Nat.le_refl _
          · rw [ci_f d]; exact Nat.zero_le _)) hs20
        have e5 : m1 = nI (max 1 (nm L R (bS x) mk m)) := by
          rw [em1]
          exact mx_nI (a := 1) (by omega) (Nat.lt_of_le_of_lt hle (by omega))
        subst ea3
        rw [ea2, e5, nI_add]
        refine kk _ ⟨m + 1, by omega, nI_1 m, ?_⟩ hmu
        try dsimp only
        rw [fb_sm_succ, ci_t (hb2.mp c3)]
      have hjl : j < 300 := Nat.lt_of_not_le (fun z => c4 ((nI_leI (a := 300) (by omega) (by omega)).mpr z))
      have hmu3 : 300 - (nI j + 1).toNatClampNeg < 300 - (nI j).toNatClampNeg := by rw [nI_1, nI_clamp (by omega), nI_clamp (by omega)]; omega
      have no : ¬ (tch L R (bS x) j ∧ mk j = m) → K3 (nI (fb_sm (fun k => ci (tch L R (bS x) k ∧ mk k = m) (ps L R (bS x) k)) j) + 0, nI j + 1) := by
        intro hn
        refine kk3 _ ⟨j + 1, by omega, nI_1 j, ?_⟩ hmu3
        try dsimp only
        rw [fb_sm_succ, ci_f hn]
        exact nI_add _ 0
      refine m_isEdge hM hP hS (by omega) (fun ht => ⟨fun z => absurd z (by decide), fun _ => ⟨nI_in (by omega) (by decide), ?_⟩⟩) (fun ht => ⟨fun _ a6 e6 a7 e7 => ?_, fun z => absurd rfl z⟩)
      · have hl := (mkOk.lt hSS hmk.1 ht).1
        rw [aI_nI τ 13 (by omega), hms j ht]
        have el : nI (mk j) = nI m ↔ mk j = m := nI_eq (by omega) (by omega)
        rw [el]
        refine ⟨fun c5 a8 e8 a9 e9 => ?_, fun c5 => ⟨nI_in (by omega) (by decide), fun m10 e10 a11 e11 a12 e12 => ?_⟩⟩
        · subst e8; subst e9
          exact no (fun z => c5 z.2)
        · rw [(cn_mx hcn (show j < 500 by omega)).1] at e10
          subst e12
          rw [e11, e10, nI_add]
          refine kk3 _ ⟨j + 1, by omega, nI_1 j, ?_⟩ hmu3
          try dsimp only
          rw [fb_sm_succ, ci_t ⟨ht, c5⟩]
      · subst e6; subst e7
        exact no (fun z => ht z.1)
    · subst e
      refine kk _ ⟨m + 1, by omega, nI_1 m, ?_⟩ hmu
      try dsimp only
      rw [fb_sm_succ, ci_f (fun z => hb2.mpr z c3), Nat.add_zero]
  have hkl : k < P := Nat.lt_of_not_le (fun z => c2 ((geP hP (by omega)).mpr z))
  have hmu2 : P - (nI k + 1).toNatClampNeg < P - (nI k).toNatClampNeg := by rw [nI_1, nI_clamp (by omega), nI_clamp (by omega)]; omega
  refine ⟨fun c3 a e => ?_, fun c3 => ?_⟩
  · subst e
    refine kk2 _ ⟨k + 1, by omega, nI_1 k, Or.inr rfl, ⟨fun _ => ?_, fun _ => (show ¬ (1 : Int32) = 0 by decide)⟩⟩ hmu2
    obtain ⟨p, h1, h2⟩ := hb.mp c3
    exact ⟨p, by omega, h2⟩
  have no : ¬ (bS x k ∧ mk (L k) = m) → K2 (0, nI k + 1) := by
    intro hn
    refine kk2 _ ⟨k + 1, by omega, nI_1 k, Or.inl rfl, ⟨fun z => absurd rfl z, fun ⟨p, h1, h2⟩ => ?_⟩⟩ hmu2
    refine absurd c3 (hb.mpr ⟨p, ?_, h2⟩)
    have : p ≠ k := fun z => hn (z ▸ h2)
    omega
  rw [m_bit1 (by omega)]
  refine ⟨fun c4 a e => ?_, fun c4 => ?_⟩
  · subst e; exact no (fun z => c4 z.1)
  obtain ⟨_, l1, l2, r1, r2⟩ := hS k c4
  have ht : tch L R (bS x) (L k) := ⟨k, c4, Or.inl rfl⟩
  have hl := (mkOk.lt hSS hmk.1 ht).1
  rw [m_leftOf hM hP hkl, aI_nI τ 13 (by omega), hms _ ht]
  have el : nI (mk (L k)) = nI m ↔ mk (L k) = m := nI_eq (by omega) (by omega)
  rw [el]
  refine ⟨nI_in (by omega) (by decide), fun c5 a e => ?_, fun c5 a e => ?_⟩
  · subst e; exact no (fun z => c5 z.2)
  · subst e
    exact kk2 _ ⟨k + 1, by omega, nI_1 k, Or.inr rfl, ⟨fun _ => ⟨k, by omega, c4, c5⟩, fun _ => (show ¬ (1 : Int32) = 0 by decide)⟩⟩ hmu2
end MFINDS
