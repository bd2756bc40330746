/-! XPARTS: the class's parts, starts, rows -/
section XPARTS
variable {L R : Nat → Nat}
def edX (L R : Nat → Nat) (σ : wS) : Prop := ∀ p, p < 20 → ∀ q, (bt (σ.2.2.1 7 p) q = true ↔ q < 20 ∧ L q = L p) ∧ (bt (σ.2.2.1 8 p) q = true ↔ q < 20 ∧ R q = L p) ∧ (bt (σ.2.2.1 9 p) q = true ↔ q < 20 ∧ L q = R p)
def ptM (L R : Nat → Nat) (x : Int32) (p0 : Nat) (y : Int32) : Prop := (∀ q, bS y q → bS x q) ∧ bS y p0 ∧ ∀ T : Nat → Prop, (∀ p, T p → bS x p) → clX L R (bS x) T → T p0 → ∀ p, bS y p → T p
theorem lt20 {k : Nat} (hk : k < 2 ^ 31) (c : ¬ 20 ≤ nI k) : k < 20 := Nat.lt_of_not_le (fun z => c ((nI_leI (a := 20) (by omega) hk).mpr z))
theorem ge20 {k : Nat} (hk : k < 2 ^ 31) (c : 20 ≤ nI k) : 20 ≤ k := (nI_leI (a := 20) (by omega) hk).mp c
theorem x_partOf {Q : Int32 → Prop} {x : Int32} {σ : wS} (hE : edX L R σ) (hx : ∀ q, bS x q → q < 20) {p0 : Nat} (h0 : bS x p0) (hm : ∀ q, q < p0 → ¬ bS x q) (hq : ∀ y : Int32, prt L R (bS x) (bS y) p0 → Q y) : wx_X1_partOf Q x σ := by
  intro a1 e1
  have ha : ∀ q, bt a1 q = true ↔ q = p0 := by
    intro q
    rw [e1, b_low]
    constructor
    · rintro ⟨h1, h2⟩
      rcases Nat.lt_trichotomy q p0 with h | h | h
      · exact absurd h1 (hm q h)
      · exact h
      · exact absurd h0 (h2 p0 h)
    · intro e; rw [e]; exact ⟨h0, hm⟩
  refine wloop_of (fun w : Int32 × Int32 => ∃ k : Nat, k ≤ 20 ∧ w.2 = nI k ∧ ptM L R x p0 w.1 ∧ k + 1 ≤ fb_ct (bt w.1) 20) (fun w => 20 - w.2.toNatClampNeg) ?_ _ ⟨0, by omega, rfl, ⟨fun q h => ?_, (ha p0).mpr rfl, fun T _ _ ht p h => ?_⟩, fb_ct_pos.mpr ⟨p0, hx p0 h0, (ha p0).mpr rfl⟩⟩
  · rintro K ⟨x2, x3⟩ ⟨k, hk, ex, hM, hc⟩ kk
    try dsimp only at ex hM hc kk
    subst ex
    dsimp only [wx_X1_partOf_L7]
    refine ⟨fun c => ?_, fun c => ?_⟩
    · have h20 := ge20 (by omega) c
      have := fb_ct_le (bt x2) 20
      exfalso
      omega
    have hlt := lt20 (by omega) c
    refine wloop_of (fun w : Int32 × Int32 => ∃ j : Nat, j ≤ 20 ∧ w.2 = nI j ∧ ptM L R x p0 w.1 ∧ (∀ q, bS x2 q → bS w.1 q) ∧ ∀ p, p < j → bS x2 p → ∀ q, bS x q → (R p = L q ∨ L p = R q) → bS w.1 q) (fun w => 20 - w.2.toNatClampNeg) ?_ _ ⟨0, by omega, rfl, hM, fun _ h => h, fun p hp => absurd hp (Nat.not_lt_zero p)⟩
    rintro K2 ⟨x4, x5⟩ ⟨j, hj, ej, hM4, hsub, hcl⟩ kk2
    try dsimp only at ej hM4 hsub hcl kk2
    subst ej
    dsimp only [wx_X1_partOf_L19]
    refine ⟨fun c2 => ?_, fun c2 => ?_⟩
    · have h20 := ge20 (by omega) c2
      refine ⟨fun ne a e => ?_, fun eq => ?_⟩
      · subst e
        refine kk _ ⟨k + 1, by omega, nI_1 k, hM4, ?_⟩ ?_
        · try dsimp only
          obtain ⟨i, hi⟩ : ∃ i, bS x4 i ∧ ¬ bS x2 i := Classical.byContradiction fun z => ne (b_ext (fun i _ => Bool.eq_iff_iff.mpr ⟨fun h => Classical.byContradiction fun y => z ⟨i, h, y⟩, hsub i⟩))
          have := ct_lt (hx i (hM4.1 i hi.1)) (fun q _ h => hsub q h) (ts_nt hi.2) hi.1
          omega
        · try dsimp only
          rw [nI_1, nI_clamp (by omega), nI_clamp (by omega)]; omega
      · refine hq x2 ⟨hM.1, fun p q hp hqx e => ?_, hM.2.1, hM.2.2⟩
        have := hcl p (by have := hx p (hM.1 p hp); omega) hp q hqx e
        rw [eq] at this
        exact this
    have hjl := lt20 (by omega) c2
    rw [x_holds (by omega)]
    by_cases d : bt x4 j = true
    · refine q_t d ⟨nI_in hjl (by decide), nI_in hjl (by decide), fun a5 e5 a6 e6 => ?_⟩
      subst e6
      have hb : ∀ q, bt a5 q = true ↔ bt x4 q = true ∨ ((q < 20 ∧ R q = L j ∨ q < 20 ∧ L q = R j) ∧ bt x q = true) := by
        intro q
        rw [e5, b_orT, b_andT, b_orT, aI_nI σ 8 (by omega), aI_nI σ 9 (by omega), (hE j hjl q).2.1, (hE j hjl q).2.2]
      refine kk2 _ ⟨j + 1, by omega, nI_1 j, ⟨fun q h => ?_, ?_, fun T h1 h2 h3 p h => ?_⟩, fun q h => (hb q).mpr (Or.inl (hsub q h)), fun p hp hp2 q hqx e => ?_⟩ ?_
      · exact ((hb q).mp h).elim (hM4.1 q) (fun z => z.2)
      · exact (hb p0).mpr (Or.inl hM4.2.1)
      · rcases (hb p).mp h with h | ⟨h, h4⟩
        · exact hM4.2.2 T h1 h2 h3 p h
        · exact h2 j p (hM4.2.2 T h1 h2 h3 j d) h4 (by omega)
      · by_cases z : p = j
        · subst z
          exact (hb q).mpr (Or.inr ⟨by have := hx q hqx; omega, hqx⟩)
        · exact (hb q).mpr (Or.inl (hcl p (by omega) hp2 q hqx e))
      · try dsimp only
        rw [nI_1, nI_clamp (by omega), nI_clamp (by omega)]; omega
    · refine q_f d (fun a4 e4 => ?_)
      subst e4
      refine kk2 _ ⟨j + 1, by omega, nI_1 j, hM4, hsub, fun p hp hp2 q hqx e => ?_⟩ ?_
      · by_cases z : p = j
        · subst z; exact absurd (hsub p hp2) d
        · exact hcl p (by omega) hp2 q hqx e
      · try dsimp only
        rw [nI_1, nI_clamp (by omega), nI_clamp (by omega)]; omega
  · rw [(ha q).mp h]; exact h0
  · rw [(ha p).mp h]; exact ht
theorem mx0 {a b : Nat} (ha : a < 2 ^ 30) (hb : b < 2 ^ 30) : mx 0 (nI a - nI b) = nI (a - b) := by
  unfold mx
  by_cases h : a < b
  · have := pk_sneg hb h
    rw [if_neg (fun z => by rw [fa_lt] at z this; omega), Nat.sub_eq_zero_of_le (by omega)]
    rfl
  · rw [pk_sub (by omega)]
    by_cases z : a - b = 0
    · rw [z]; exact if_neg (by decide)
    · exact if_pos ((nI_ltI (a := 0) (b := a - b) (by omega) (by omega)).mpr (by omega))
theorem mx_nI {a b : Nat} (ha : a < 2 ^ 31) (hb : b < 2 ^ 31) : mx (nI a) (nI b) = nI (max a b) := by
  unfold mx
  by_cases h : a < b
  · rw [if_pos ((nI_ltI ha hb).mpr h), Nat.max_eq_right (by omega)]
  · rw [if_neg (fun z => h ((nI_ltI ha hb).mp z)), Nat.max_eq_left (by omega)]
theorem od_20 (F : Nat → Nat) (S : Nat → Prop) (v : Nat) : od F S v ≤ 20 := fb_sm_bound (c := 1) (fun k _ => c1_1 _)
theorem x_missing {Q : Int32 → Prop} {x : Int32} {σ : wS} {p : Nat} (hE : edX L R σ) (hx : ∀ q, bS x q → q < 20) (hp : p < 20) (hq : Q (nI (ps L R (bS x) (L p)))) : wx_X1_missingLeftOf Q (nI p) x σ := by
  have hin : vp_in (nI p) 20 := nI_in hp (by decide)
  refine ⟨hin, x_bitCount (fun q h => hx q ((b_andT _ _ _).mp h).2) ⟨hin, x_bitCount (fun q h => hx q ((b_andT _ _ _).mp h).2) (fun m e => ?_)⟩⟩
  rw [ct_od (S := bS x) (F := L) (v := L p) (fun q h20 => by rw [b_andT, aI_nI σ 7 (by omega), (hE p hp q).1]; exact ⟨fun z => ⟨z.2, z.1.2⟩, fun z => ⟨⟨h20, z.2⟩, z.1⟩⟩), ct_od (S := bS x) (F := R) (v := L p) (fun q h20 => by rw [b_andT, aI_nI σ 8 (by omega), (hE p hp q).2.1]; exact ⟨fun z => ⟨z.2, z.1.2⟩, fun z => ⟨⟨h20, z.2⟩, z.1⟩⟩)] at e
  have h1 := od_20 L (bS x) (L p)
  have h2 := od_20 R (bS x) (L p)
  rw [mx0 (by omega) (by omega)] at e
  rw [e]
  exact hq
theorem st_sum {S : Nat → Prop} (hS : okS L R S) : fb_sm (fun p => ci (S p ∧ ∀ q, q < p → S q → L q ≠ L p) (ps L R S (L p))) 20 = st L R S := by
  rw [← sm_rep (S := S) (f := L) (g := ps L R S) (N := 300) (fun p hp => (hS p hp).2.1) 20]
  refine fb_sm_cong (fun v _ => ?_)
  by_cases d : ∃ p, p < 20 ∧ S p ∧ L p = v
  · exact ci_t d
  · rw [ci_f d]
    unfold ps
    rw [od_0 (F := L) (fun p hp e => d ⟨p, (hS p hp).1, hp, e⟩), Nat.zero_sub]
theorem x_starts {Q : Int32 → Prop} {x : Int32} {σ : wS} (hE : edX L R σ) (hS : okS L R (bS x)) (hq : Q (nI (st L R (bS x)))) : wx_X1_startsIn Q x σ := by
  have hx : ∀ q, bS x q → q < 20 := fun q h => (hS q h).1
  refine wloop_of (fun w : Int32 × Int32 => ∃ k : Nat, k ≤ 20 ∧ w.2 = nI k ∧ w.1 = nI (fb_sm (fun p => ci (bS x p ∧ ∀ q, q < p → bS x q → L q ≠ L p) (ps L R (bS x) (L p))) k)) (fun w => 20 - w.2.toNatClampNeg) ?_ _ ⟨0, by omega, rfl, rfl⟩
  rintro K ⟨x2, x3⟩ ⟨k, hk, ex, e2⟩ kk
  try dsimp only at ex e2 kk
  subst ex; subst e2
  dsimp only [wx_X1_startsIn_L4]
  refine ⟨fun c => ?_, fun c a1 ea1 => ?_⟩
  · have h20 : k = 20 := by have := ge20 (by omega) c; omega
    rw [h20, st_sum hS]
    exact hq
  have hlt := lt20 (by omega) c
  have go : ∀ v : Nat, v = ci (bS x k ∧ ∀ q, q < k → bS x q → L q ≠ L k) (ps L R (bS x) (L k)) → K (nI (fb_sm (fun p => ci (bS x p ∧ ∀ q, q < p → bS x q → L q ≠ L p) (ps L R (bS x) (L p))) k + v), nI k + 1) := by
    intro v ev
    refine kk _ ⟨k + 1, by omega, nI_1 k, ?_⟩ ?_
    · try dsimp only
      rw [fb_sm_succ, ev]
    · try dsimp only
      rw [nI_1, nI_clamp (by omega), nI_clamp (by omega)]; omega
  rw [x_holds (by omega)]
  have hz : (((aI σ 7 (nI k)) &&& x) &&& a1) = 0 ↔ ∀ q, q < k → bS x q → L q ≠ L k := by
    rw [b_no]
    constructor
    · intro h q h1 h2 h3
      refine h q ((b_andT _ _ _).mpr ⟨(b_andT _ _ _).mpr ⟨?_, h2⟩, ?_⟩)
      · rw [aI_nI σ 7 (by omega)]; exact ((hE k hlt q).1).mpr ⟨by omega, h3⟩
      · rw [ea1]; exact (b_less (by omega) q).mpr h1
    · intro h q z
      obtain ⟨z1, z2⟩ := (b_andT _ _ _).mp z
      obtain ⟨z3, z4⟩ := (b_andT _ _ _).mp z1
      rw [aI_nI σ 7 (by omega)] at z3
      rw [ea1] at z2
      exact h q ((b_less (by omega) q).mp z2) z4 (((hE k hlt q).1).mp z3).2
  by_cases d : bt x k = true
  · refine q_t d ⟨nI_in hlt (by decide), fun c1 a5 e5 => ?_, fun c1 => ?_⟩
    · subst e5
      have := go 0 (by rw [ci_f (fun z => c1 (hz.mpr z.2))])
      rw [Nat.add_zero] at this
      exact this
    · refine x_missing hE hx hlt (fun a8 e8 a9 e9 => ?_)
      subst e9
      rw [e8, nI_add]
      exact go _ (by rw [ci_t ⟨d, hz.mp c1⟩])
  · refine q_f d (fun a4 e4 => ?_)
    subst e4
    have := go 0 (by rw [ci_f (fun z => d z.1)])
    rw [Nat.add_zero] at this
    exact this
theorem st_20 {S : Nat → Prop} (hS : okS L R S) : st L R S ≤ 20 := by
  have h1 : st L R S ≤ fb_sm (od L S) 300 := fb_sm_le (fun v _ => Nat.sub_le _ _)
  rw [od_tot (fun p hp => (hS p hp).2.1)] at h1
  have h2 := fb_sm_bound (f := fun p => c1 (S p)) (c := 1) (n := 20) (fun k _ => c1_1 _)
  omega
theorem ct_none {y : Int32} (hy : ∀ q, bS y q → q < 20) (h : fb_ct (bt y) 20 = 0) : ∀ q, ¬ bS y q := fun q z => by
  have := fb_ct_zero.mp h q (hy q z)
  rw [z] at this
  exact absurd this (by decide)
theorem lst_bit {y : Int32} (hy : ∀ q, bS y q → q < 20) (h : ¬ y = 0) : ∃ p0, bS y p0 ∧ ∀ q, q < p0 → ¬ bS y q := by
  have hex : ∃ q, bS y q := Classical.byContradiction fun z => h (b_no.mpr (fun q hq => z ⟨q, hq⟩))
  obtain ⟨q, hq⟩ := hex
  obtain ⟨i, _, h2, h3⟩ := fb_first (p := fun i => bt y i = true) ⟨q, hy q hq, hq⟩
  exact ⟨i, h2, h3⟩
theorem x_fewestR {Q : Int32 → Prop} {x : Int32} {σ : wS} (hE : edX L R σ) (hS : okS L R (bS x))
    (hq : ∀ r : Nat, r ≤ 400 → (∀ mk, mkOk L R (bS x) mk → r = rwN L R (bS x) mk) → (¬ x = 0 → (r = 1 ↔ con L R (bS x) ∧ st L R (bS x) ≤ 1)) → Q (nI r)) : wx_X1_fewestRows Q x σ := by
  have hx : ∀ q, bS x q → q < 20 := fun q h => (hS q h).1
  refine wloop_of (fun w : Int32 × Int32 × Int32 => ∃ k n : Nat, k ≤ 20 ∧ n ≤ 20 * k ∧ w.2.2 = nI k ∧ w.2.1 = nI n ∧ (∀ q, bS w.1 q → bS x q) ∧ clX L R (bS x) (bS w.1) ∧ fb_ct (bt w.1) 20 + k ≤ 20 ∧
    (∀ mk, mkOk L R (bS x) mk → n = st L R (fun p => bS x p ∧ ¬ bS w.1 p) + fb_sm (fun p => c1 ((bS x p ∧ ¬ bS w.1 p) ∧ lstB L R (bS x) mk p)) 20) ∧
    ((k = 0 ∧ w.1 = x ∧ n = 0) ∨ (1 ≤ k ∧ ∃ (P : Nat → Prop) (p0 : Nat), prt L R (bS x) P p0 ∧ ((n = max 1 (st L R P) ∧ ∀ p, bS w.1 p ↔ bS x p ∧ ¬ P p) ∨ (2 ≤ n ∧ ∃ p, bS x p ∧ ¬ P p))))) (fun w => 20 - w.2.2.toNatClampNeg) ?_ _ ⟨0, 0, by omega, by omega, rfl, rfl, fun _ h => h, fun _ _ _ h _ => h, by have := fb_ct_le (bt x) 20; try dsimp only; omega, fun mk _ => ?_, Or.inl ⟨rfl, rfl, rfl⟩⟩
  · rintro K ⟨y, x3, x4⟩ ⟨k, n, hk, hn, ek, en, hD, hDc, hct, hf, hJ⟩ kk
    try dsimp only at ek en hD hDc hct hf hJ kk
    subst ek; subst en
    have hy : ∀ q, bS y q → q < 20 := fun q h => hx q (hD q h)
    have fin : (∀ q, ¬ bS y q) → Q (nI n) := by
      intro h0
      refine hq n (by omega) (fun mk hmk => ?_) (fun hx0 => ?_)
      · rw [hf mk hmk]
        unfold rwN
        rw [st_c (T := bS x) (fun p => ⟨fun z => z.1, fun z => ⟨z, h0 p⟩⟩)]
        congr 1
        exact fb_sm_cong (fun p _ => c1_c ⟨fun z => z.2, fun z => ⟨⟨z.1, h0 p⟩, z⟩⟩)
      · rcases hJ with ⟨_, e, _⟩ | ⟨_, P, p0, hP, ⟨e1, e2⟩ | ⟨e1, p, e2, e3⟩⟩
        · exact absurd (b_no.mpr (e ▸ h0)) hx0
        · have hall : ∀ p, bS x p → P p := fun p hp => Classical.byContradiction fun z => h0 p ((e2 p).mpr ⟨hp, z⟩)
          have es : st L R P = st L R (bS x) := st_c (fun p => ⟨hP.1 p, hall p⟩)
          rw [es] at e1
          exact ⟨fun z => ⟨(prt_con hP).mpr hall, by omega⟩, fun z => by have := z.2; omega⟩
        · exact ⟨fun z => by omega, fun z => absurd ((prt_con hP).mp z.1 p e2) e3⟩
    dsimp only [wx_X1_fewestRows_L7]
    refine ⟨fun c => ?_, fun c => ⟨fun c2 => fin (b_no.mp c2), fun c2 => ?_⟩⟩
    · have h20 := ge20 (by omega) c
      exact fin (ct_none hy (by omega))
    have hlt := lt20 (by omega) c
    obtain ⟨p0, h0, hm⟩ := lst_bit hy c2
    refine x_partOf hE hy h0 hm (fun y1 hP => ?_)
    have hPS : okS L R (bS y1) := hS.sub (fun p z => hD p (hP.1 p z))
    refine x_starts hE hPS (fun m5 e5 a6 e6 a7 e7 a8 e8 => ?_)
    have hs20 := st_20 hPS
    rw [show (1 : Int32) = nI 1 from rfl, mx_nI (by omega) (by omega)] at e5
    subst e5; subst e6; subst e8
    rw [nI_add]
    have eD : bS a7 = fun p => bS y p ∧ ¬ bS y1 p := by rw [e7]; exact bS_dif y y1
    have hle : ∀ q, bS y q → p0 ≤ q := fun q h => Nat.le_of_not_lt (fun z => hm q z h)
    refine kk _ ⟨k + 1, n + max 1 (st L R (bS y1)), by omega, by omega, nI_1 k, rfl, ?_, ?_, ?_, fun mk hmk => ?_, Or.inr ⟨by omega, ?_⟩⟩ ?_
    · try dsimp only; rw [eD]; exact fun q h => hD q h.1
    · try dsimp only; rw [eD]
      intro a b ha hb e
      exact ⟨hDc a b ha.1 hb e, fun z => ha.2 (hP.2.1 b a z ha.1 (by omega))⟩
    · try dsimp only
      have hb : ∀ q, bt a7 q = true ↔ bt y q = true ∧ ¬ bt y1 q = true := fun q => by rw [e7, b_dif]
      have := ct_lt (p := bt a7) (q := bt y) (hy p0 h0) (fun q _ h => ((hb q).mp h).1) (ts_nt (fun z => ((hb p0).mp z).2 hP.2.2.1)) h0
      omega
    · try dsimp only
      rw [eD]
      exact rwN_step hS hmk hD hDc hP hle (hf mk hmk)
    · rcases hJ with ⟨e0, e1, e2⟩ | ⟨_, P, q0, hP2, ⟨e1, e2⟩ | ⟨e1, e2⟩⟩
      · subst e1; subst e2
        refine ⟨bS y1, p0, hP, Or.inl ⟨Nat.zero_add _, fun p => ?_⟩⟩
        try dsimp only
        rw [eD]
      · exact ⟨P, q0, hP2, Or.inr ⟨by omega, p0, (e2 p0).mp h0⟩⟩
      · exact ⟨P, q0, hP2, Or.inr ⟨by omega, e2⟩⟩
    · try dsimp only
      rw [nI_1, nI_clamp (by omega), nI_clamp (by omega)]; omega
  · try dsimp only
    have e0 : st L R (fun p => bS x p ∧ ¬ bS x p) = 0 := st_0 (fun v => by rw [od_0 (F := L) (fun p hp => absurd hp.1 hp.2), od_0 (F := R) (fun p hp => absurd hp.1 hp.2)])
    rw [e0, sm_0 (fun p _ => c1_f (fun z => z.1.2 z.1.1))]
end XPARTS
