/-! RROW: row, ring, rows of class and reference -/
def Lf (l : Nat → Int32) (p : Nat) : Nat := if l p = 0 then 100 + p else (l p).toInt.toNat
def Rf (r : Nat → Int32) (p : Nat) : Nat := if r p = 0 then 200 + p else (r p).toInt.toNat
theorem z0I : (0 : Int32).toInt = 0 := by decide
theorem lf_or {l : Nat → Int32} {p : Nat} (h : 0 ≤ (l p).toInt) : ((l p).toInt = 0 ∧ Lf l p = 100 + p) ∨ (1 ≤ (l p).toInt ∧ (Lf l p : Int) = (l p).toInt) := by
  unfold Lf
  by_cases e : l p = 0
  · rw [if_pos e, e]; exact Or.inl ⟨z0I, rfl⟩
  · rw [if_neg e]
    rw [fa_eq, z0I] at e
    exact Or.inr ⟨by omega, Int.toNat_of_nonneg h⟩
theorem rf_or {l : Nat → Int32} {p : Nat} (h : 0 ≤ (l p).toInt) : ((l p).toInt = 0 ∧ Rf l p = 200 + p) ∨ (1 ≤ (l p).toInt ∧ (Rf l p : Int) = (l p).toInt) := by
  unfold Rf
  by_cases e : l p = 0
  · rw [if_pos e, e]; exact Or.inl ⟨z0I, rfl⟩
  · rw [if_neg e]
    rw [fa_eq, z0I] at e
    exact Or.inr ⟨by omega, Int.toNat_of_nonneg h⟩
theorem edX_of {P : Nat} {σ : wS} {m8 m9 : Nat → Int32} (h : rE P (σ.2.2.1 5) (σ.2.2.1 6) (σ.2.2.1 7) (σ.2.2.1 8) (σ.2.2.1 9) m8 m9) : edX (Lf (σ.2.2.1 5)) (Rf (σ.2.2.1 6)) σ := by
  obtain ⟨-, e2, -, e4⟩ := h
  intro p hp q
  obtain ⟨b1, b2, b3⟩ := e4 p hp q
  have lp := lf_or (e2 p hp).1
  have rp := rf_or (e2 p hp).2.2.1
  have ep := e2 p hp
  rw [b_dec.mp b1, b_dec.mp b2, b_dec.mp b3]
  by_cases h20 : q < 20
  · have lq := lf_or (e2 q h20).1
    have rq := rf_or (e2 q h20).2.2.1
    have eq := e2 q h20
    refine ⟨?_, ?_, ?_⟩
    · by_cases e : q = p
      · subst e; exact ⟨fun z => ⟨z.1, rfl⟩, fun z => ⟨z.1, Or.inl rfl⟩⟩
      · rw [fa_eq (σ.2.2.1 5 q), Ne, fa_eq (σ.2.2.1 5 p) 0, z0I]
        omega
    · rw [fa_eq (σ.2.2.1 6 q), Ne, fa_eq (σ.2.2.1 5 p) 0, z0I]
      omega
    · rw [fa_eq (σ.2.2.1 5 q), Ne, fa_eq (σ.2.2.1 6 p) 0, z0I]
      omega
  · exact ⟨⟨fun z => absurd z.1 h20, fun z => absurd z.1 h20⟩, ⟨fun z => absurd z.1 h20, fun z => absurd z.1 h20⟩, ⟨fun z => absurd z.1 h20, fun z => absurd z.1 h20⟩⟩
theorem edM_of {P : Nat} {σ τ : wS} (hP : P ≤ 20) (hτ : τ.1 2 = nI P) (h : rE P (σ.2.2.1 5) (σ.2.2.1 6) (σ.2.2.1 7) (σ.2.2.1 8) (σ.2.2.1 9) (τ.2.2.1 8) (τ.2.2.1 9)) : edM P (Lf (σ.2.2.1 5)) (Rf (σ.2.2.1 6)) τ := by
  obtain ⟨e1, e2, -, -⟩ := h
  refine ⟨hτ, fun p hp => ?_⟩
  have lp := lf_or (e2 p (by omega)).1
  have rp := rf_or (e2 p (by omega)).2.2.1
  have ep := e2 p (by omega)
  rw [← (e1 p hp).1, ← (e1 p hp).2, fa_le, fa_le, z0I, fa_eq (σ.2.2.1 5 p), fa_eq (σ.2.2.1 6 p), nI_toInt (by omega), nI_toInt (by omega)]
  omega
theorem okP_of {P : Nat} {x : Int32} {l r : Nat → Int32} (hP : P ≤ 20) (h : ∀ p, p < 20 → 0 ≤ (l p).toInt ∧ (l p).toInt ≤ 99 ∧ 0 ≤ (r p).toInt ∧ (r p).toInt ≤ 99) (hi : ∀ q, bS x q → q < P) : okP P (Lf l) (Rf r) (bS x) := by
  intro p hp
  have h1 := hi p hp
  have h2 := h p (by omega)
  have lp := lf_or h2.1
  have rp := rf_or h2.2.2.1
  omega
theorem x_isSet {Q : Int32 → Prop} {x : Int32} {σ : wS} {P : Nat} (hP : P ≤ 20) (h1 : σ.1 1 = nI P) (hy : (∀ q, bS x q → q < P) → Q 1) (hn : ¬ (∀ q, bS x q → q < P) → Q 0) : wx_X5_isSet Q x σ := by
  intro a1 e1
  have hz : (x &&& (a1 ^^^ (-1))) = 0 ↔ ∀ q, bS x q → q < P := by
    rw [b_no]
    constructor
    · intro h q hq
      refine Classical.byContradiction fun z => h q ((b_dif _ _ _).mpr ⟨hq, fun w => z ?_⟩)
      rw [e1, h1] at w
      exact (b_less (by omega) q).mp w
    · intro h q hq
      obtain ⟨h2, h3⟩ := (b_dif _ _ _).mp hq
      refine h3 ?_
      rw [e1, h1]
      exact (b_less (by omega) q).mpr (h q h2)
  exact ⟨fun c => hn (fun z => c (hz.mpr z)), fun c => hy (hz.mp c)⟩
theorem one_shl : ∀ P, P < 31 → (1 : Int32) <<< (nI P &&& 31) = nI (2 ^ P) := by decide +kernel
theorem m_isSet {Q : Int32 → Prop} {x : Int32} {σ : wS} {P : Nat} (hP : P ≤ 20) (h1 : σ.1 2 = nI P) (hy : (∀ q, bS x q → q < P) → Q 1) (hn : ¬ (∀ q, bS x q → q < P) → Q 0) : wm_X6_isSet Q x σ := by
  have h2 : 2 ^ P ≤ 2 ^ 20 := Nat.pow_le_pow_right (by omega) hP
  unfold wm_X6_isSet
  rw [h1, one_shl P (by omega)]
  have hbt : ∀ (n i : Nat), i < 32 → bt (nI n) i = n.testBit i := by
    intro n i hi
    show (BitVec.ofNat 32 n).getLsbD i = _
    rw [BitVec.getLsbD_ofNat, decide_eq_true hi, Bool.true_and]
  have fw : (∀ q, bS x q → q < P) → ¬ x < 0 ∧ ¬ nI (2 ^ P) ≤ x := by
    intro h
    obtain ⟨n, hn32, rfl⟩ := wb_of32 x
    have hnP : n < 2 ^ P := by
      refine Nat.lt_pow_two_of_testBit n (fun i hi => ?_)
      by_cases d : i < 32
      · rw [← hbt n i d]; exact ts_nt (fun z => by have := h i z; omega)
      · exact Nat.testBit_lt_two_pow (Nat.lt_of_lt_of_le hn32 (Nat.pow_le_pow_right (by omega) (by omega)))
    exact ⟨nI_pos (by omega), fun z => by rw [nI_leI (by omega) (by omega)] at z; omega⟩
  refine ⟨fun c => hn (fun z => (fw z).1 c), fun c => ⟨fun c2 => hn (fun z => (fw z).2 c2), fun c2 => hy (fun q hq => ?_)⟩⟩
  obtain ⟨j, hj, rfl⟩ := nI_of c
  rw [nI_leI (by omega) (by omega)] at c2
  have hq : bt (nI j) q = true := hq
  refine Classical.byContradiction fun z => ?_
  have hq32 : q < 32 := Nat.lt_of_not_le fun w => by
    have : bt (nI j) q = false := b_big w
    rw [this] at hq
    exact absurd hq (by decide)
  have : j.testBit q = false := Nat.testBit_lt_two_pow (Nat.lt_of_lt_of_le (show j < 2 ^ P by omega) (Nat.pow_le_pow_right (by omega) (by omega)))
  rw [← hbt j q hq32] at this
  rw [this] at hq
  exact absurd hq (by decide)
theorem keepH.M {a b : wS} (h : keepH a b) : keepM a b := ⟨fun k _ _ _ _ _ => congrFun h.1 k, fun k _ k2 _ => h.2 k (by omega) (by omega)⟩
theorem keepF.M {a b : wS} (h : keepF a b) : keepM a b := ⟨fun k _ _ _ _ k5 => h.1 k k5, fun k _ k2 _ => h.2 k (by omega) (by omega) (by omega)⟩
theorem r_rows : rT_rows Rel := by
  intro σx σm x h
  obtain ⟨hs, P, Mo, h0⟩ := id h
  obtain ⟨hP, p2, p3, p4, p5, p6, hO, hF, hE, hC, hR⟩ := h0
  have hX := edX_of hE
  have hM : edM P (Lf (σx.2.2.1 5)) (Rf (σx.2.2.1 6)) (sI (sI σm 1 0) 0 0) := edM_of hP p4 hE
  refine x_isSet hP p3 (fun hi => ⟨fun _ => ?_, fun z => absurd z (by decide)⟩) (fun hi => ⟨fun z => absurd rfl z, fun _ => ?_⟩)
  · have hS := okP_of hP hE.2.1 hi
    refine x_fewestR hX (hS.S hP) (fun r _ hrw _ => ?_)
    rw [x_answer]
    intro σ1 e1 σ2 e2
    subst e1; subst e2
    refine m_isSet hP p4 (fun _ => ⟨fun _ => ?_, fun z => absurd z (by decide)⟩) (fun z => absurd hi z)
    refine m_marks hM hP hS (fun τ1 mk k1 hmk hms => m_counts (hM.keep k1) hP hS (fun τ k2 e13 hcn => ?_))
    refine m_rowsL (σ := τ) (hM.keep (k1.trans k2)) hP hS hmk (fun v hv => by rw [e13]; exact hms v hv) hcn ⟨by rw [hrw mk hmk], ?_⟩
    refine rel_keep h (keepX.st σx 0) ((keepM.ini σm).trans (k1.trans k2).M) ?_
    rw [(k1.trans k2).1]
    rfl
  · rw [x_refuse]
    intro σ1 e1 σ2 e2
    subst e1; subst e2
    refine m_isSet hP p4 (fun z => absurd z hi) (fun _ => ⟨fun z => absurd rfl z, fun _ => ?_⟩)
    rw [m_refuse]
    exact ⟨rfl, rel_no h 2⟩
theorem x_why {Q : Int32 → Prop} {x : Int32} {σ : wS} {P : Nat} {L R : Nat → Nat} (hP : P ≤ 20) (h1 : σ.1 1 = nI P) (hE : edX L R σ) (hS : (∀ q, bS x q → q < P) → okP P L R (bS x))
    (q2 : (x = 0 ∨ ¬ ∀ q, bS x q → q < P) → Q 2) (q0 : ¬ x = 0 → (∀ q, bS x q → q < P) → con L R (bS x) → st L R (bS x) ≤ 1 → Q 0) (q7 : ¬ x = 0 → (∀ q, bS x q → q < P) → ¬ (con L R (bS x) ∧ st L R (bS x) ≤ 1) → Q 7) : wx_X5_whyNoRow Q x σ := by
  refine ⟨fun c => q2 (Or.inl c), fun c => x_isSet hP h1 (fun hi => ⟨fun _ => ?_, fun z => absurd z (by decide)⟩) (fun hi => ⟨fun z => absurd rfl z, fun _ => q2 (Or.inr hi)⟩)⟩
  refine x_fewestR hE ((hS hi).S hP) (fun r hr _ hcon => ?_)
  have e : nI r = 1 ↔ r = 1 := nI_eq (b := 1) (by omega) (by omega)
  rw [e]
  exact ⟨fun z => q7 c hi (fun w => z ((hcon c).mpr w)), fun z => q0 c hi ((hcon c).mp z).1 ((hcon c).mp z).2⟩
theorem r_ring : rT_ring Rel := by
  intro σx σm x h
  obtain ⟨hs, P, Mo, h0⟩ := id h
  obtain ⟨hP, p2, p3, p4, p5, p6, hO, hF, hE, hC, hR⟩ := h0
  have hX := edX_of hE
  have hM : edM P (Lf (σx.2.2.1 5)) (Rf (σx.2.2.1 6)) (sI (sI σm 1 0) 0 0) := edM_of hP p4 hE
  have hS := fun hi => okP_of (x := x) hP hE.2.1 hi
  refine x_why hP p3 hX hS (fun h2 => ⟨fun z => absurd z (by decide), fun _ => ?_⟩) (fun hx0 hi hc h1 => ⟨fun _ => ?_, fun z => absurd rfl z⟩) (fun hx0 hi hn => ⟨fun z => absurd z (by decide), fun _ => ?_⟩)
  · rw [x_refuse]
    intro σ1 e1 σ2 e2
    subst e1; subst e2
    refine m_isSet hP p4 (fun hi => ⟨fun z => absurd z (by decide), fun _ => ⟨fun z => ?_, fun _ => ?_⟩⟩) (fun _ => ⟨fun _ => ?_, fun z => absurd rfl z⟩)
    · exact h2.elim (fun w => absurd w z) (fun w => absurd hi w)
    · rw [m_refuse]; exact ⟨rfl, rel_no h 2⟩
    · rw [m_refuse]; exact ⟨rfl, rel_no h 2⟩
  · have hs20 := st_20 ((hS hi).S hP)
    have main : ∀ v : Int32, (v = if st (Lf (σx.2.2.1 5)) (Rf (σx.2.2.1 6)) (bS x) = 0 then 1 else 0) → wx_X5_answer (fun r5 σ6 => wm_X6_ring (fun r2 σm1 => r5 = r2 ∧ Rel σ6 σm1) x σm) v σx := by
      intro v ev
      rw [x_answer]
      intro σ1 e1 σ2 e2
      subst e1; subst e2
      refine m_isSet hP p4 (fun _ => ⟨fun z => absurd z (by decide), fun _ => ⟨fun _ => ?_, fun z => absurd z hx0⟩⟩) (fun z => absurd hi z)
      refine m_finds hM hP (hS hi) hx0 (fun hn => absurd ⟨hc, h1⟩ hn) (fun _ _ n a τ hn20 hsq hnone kt h8 h11 => ⟨fun _ => ?_, fun z => absurd z (by decide)⟩)
      have hx20 : ∀ q, bS x q → q < 20 := fun q hq => by have := hi q hq; omega
      obtain ⟨n, rfl⟩ : ∃ k, n = k + 1 := ⟨n - 1, by
        have : n ≠ 0 := fun z => by
          subst z
          obtain ⟨q, hq, _⟩ := lst_bit hx20 hx0
          rw [rs_0] at hnone
          exact hnone q hq
        omega⟩
      have hrel : Rel (sI σx 3 0) τ := by
        refine rel_keep h (keepX.st σx 0) ((keepM.ini σm).trans kt.M) ?_
        rw [kt.1 0 (by omega)]
        rfl
      have hMt := hM.keepF kt
      have ha := (hsq n (by omega)).1.1.1
      have hb := (hsq 0 (by omega)).1.1.1
      have ha2 := hS hi _ ha
      have hb2 := hS hi _ hb
      rw [h8, nI_pred, aI_nI τ 11 (by omega), h11 n (by omega), m_rightOf hMt hP ha2.1]
      refine ⟨nI_in (by omega) (by decide), (nI_in (c := 0) (N := 20) (by omega) (by decide) : vp_in (nI 0) 20), ?_⟩
      rw [show (0 : Int32) = nI 0 from rfl, aI_nI τ 11 (by omega), h11 0 (by omega), m_leftOf hMt hP hb2.1]
      have er := sq_ring ((hS hi).S hP) (fun p hp => by have := hS hi p hp; omega) hsq hnone
      have el : nI (Rf (σx.2.2.1 6) (a n)) = nI (Lf (σx.2.2.1 5) (a 0)) ↔ Rf (σx.2.2.1 6) (a n) = Lf (σx.2.2.1 5) (a 0) := nI_eq (by omega) (by omega)
      rw [el]
      refine ⟨fun c => ⟨?_, hrel⟩, fun c => ⟨?_, hrel⟩⟩
      · rw [ev, if_neg (fun z => c (er.mp z))]; rfl
      · rw [ev, if_pos (er.mpr c)]
    refine x_starts hX ((hS hi).S hP) ⟨fun c => main 0 ?_, fun c => main 1 ?_⟩
    · rw [if_neg (fun z => c (by rw [z]; rfl))]
    · rw [if_pos (Classical.byContradiction fun z => nI_ne0 (Nat.pos_of_ne_zero z) (by omega) c)]
  · rw [x_refuse]
    intro σ1 e1 σ2 e2
    subst e1; subst e2
    refine m_isSet hP p4 (fun _ => ⟨fun z => absurd z (by decide), fun _ => ⟨fun _ => ?_, fun z => absurd z hx0⟩⟩) (fun z => absurd hi z)
    refine m_finds hM hP (hS hi) hx0 (fun _ τ kt => ⟨fun z => absurd rfl z, fun _ => ?_⟩) (fun hc h1 => absurd ⟨hc, h1⟩ hn)
    rw [m_refuse]
    refine ⟨rfl, rel_keep h (keepX.st σx 7) ((keepM.ini σm).trans (kt.M.trans (keepM.int _ 0 7 (by omega)))) rfl⟩
theorem r_row : rT_row Rel := by
  intro σx σm x h
  obtain ⟨hs, P, Mo, h0⟩ := id h
  obtain ⟨hP, p2, p3, p4, p5, p6, hO, hF, hE, hC, hR⟩ := h0
  have hX := edX_of hE
  have hM : edM P (Lf (σx.2.2.1 5)) (Rf (σx.2.2.1 6)) (sI (sI σm 1 0) 0 0) := edM_of hP p4 hE
  have hS := fun hi => okP_of (x := x) hP hE.2.1 hi
  refine x_why hP p3 hX hS (fun h2 => ⟨fun z => absurd z (by decide), fun _ => ?_⟩) (fun hx0 hi hc h1 => ⟨fun _ => ?_, fun z => absurd rfl z⟩) (fun hx0 hi hn => ⟨fun z => absurd z (by decide), fun _ => ?_⟩)
  · rw [x_refuse]
    intro σ1 e1 σ2 e2
    subst e1; subst e2
    refine m_isSet hP p4 (fun hi => ⟨fun z => absurd z (by decide), fun _ => ⟨fun z => ?_, fun _ => ?_⟩⟩) (fun _ => ⟨fun _ => ?_, fun z => absurd rfl z⟩)
    · exact h2.elim (fun w => absurd w z) (fun w => absurd hi w)
    · rw [m_refuse]; exact ⟨rfl, rel_no h 2⟩
    · rw [m_refuse]; exact ⟨rfl, rel_no h 2⟩
  · have hSi := hS hi
    refine x_write hX (hSi.S hP) (fun p hp => by have := hSi p hp; omega) hc h1 (fun n a τx hn20 hsq hnone kx hx0v σ5 e5 => ?_)
    subst e5
    rw [x_answer]
    intro σ1 e1 σ2 e2
    subst e1; subst e2
    refine m_isSet hP p4 (fun _ => ⟨fun z => absurd z (by decide), fun _ => ⟨fun _ => ?_, fun z => absurd z hx0⟩⟩) (fun z => absurd hi z)
    refine m_finds hM hP hSi hx0 (fun hn => absurd ⟨hc, h1⟩ hn) (fun _ _ n' a' τ hn20' hsq' hnone' kt h8 h11 => ⟨fun _ σ9 e9 => ?_, fun z => absurd z (by decide)⟩)
    obtain ⟨en, ea⟩ := sq_one hsq hsq' hnone hnone'
    subst en
    have i9 : ∀ k, σ9.1 k = if k = 7 then nI n else τ.1 k := by
      intro k
      rw [e9]
      show va_up τ.1 7 (τ.1 8) k = _
      by_cases d : k = 7
      · rw [if_pos d, d, va_up_self, h8]
      · rw [if_neg d, va_up_ne _ _ d]
    have a9 : σ9.2.2.1 = τ.2.2.1 := by rw [e9]; rfl
    refine wloop_of (fun w : Int32 × wS => ∃ k : Nat, k ≤ n ∧ w.1 = nI k ∧ w.2.1 = σ9.1 ∧ (∀ b, b ≠ 10 → w.2.2.2.1 b = τ.2.2.1 b) ∧ ∀ j, j < k → w.2.2.2.1 10 j = nI (a j)) (fun w => n - w.1.toNatClampNeg) ?_ _ ⟨0, by omega, rfl, rfl, fun b _ => congrFun a9 b, fun j hj => absurd hj (Nat.not_lt_zero j)⟩
    rintro K ⟨x2, υ⟩ ⟨k, hk, ek, hi9, ha9, h10⟩ kk
    try dsimp only at ek hi9 ha9 h10 kk
    subst ek
    dsimp only [wm_X6_row_L53]
    have u8 : υ.1 8 = nI n := by rw [hi9, i9, if_neg (by omega)]; exact h8
    rw [u8]
    refine ⟨fun c => ?_, fun c => ?_⟩
    · have hkn : n ≤ k := (nI_leI (by omega) (by omega)).mp c
      have u7 : υ.1 7 = nI n := by rw [hi9, i9, if_pos rfl]
      have im : ∀ j, j ≠ 0 → j ≠ 1 → j ≠ 7 → j ≠ 8 → υ.1 j = σm.1 j := by
        intro j j0 j1 j7 j8
        rw [hi9, i9, if_neg j7, kt.1 j j8]
        show va_up (va_up σm.1 1 0) 0 0 j = _
        rw [va_up_ne _ _ j0, va_up_ne _ _ j1]
      have am : ∀ b, b ≠ 10 → b ≠ 11 → b ≠ 12 → b ≠ 13 → υ.2.2.1 b = σm.2.2.1 b := by
        intro b b0 b1 b2 b3
        rw [ha9 b b0, kt.2 b b1 b2 b3]
        rfl
      have ix : ∀ j, j ≠ 0 → j ≠ 3 → (sI (sI τx 0 (nI n)) 3 0).1 j = σx.1 j := by
        intro j j0 j3
        show va_up (va_up τx.1 0 (nI n)) 3 0 j = _
        rw [va_up_ne _ _ j3, va_up_ne _ _ j0, kx.1]
      have ax : ∀ b, b ≠ 0 → (sI (sI τx 0 (nI n)) 3 0).2.2.1 b = σx.2.2.1 b := fun b hb => kx.2 b hb
      refine ⟨by rw [u7]; rfl, ?_, P, Mo, hP, p2, ?_, ?_, ?_, ?_, ?_, ?_, ?_, ?_, ?_⟩
      · show (0 : Int32) = υ.1 0
        rw [hi9, i9, if_neg (by omega), kt.1 0 (by omega)]
        rfl
      · rw [ix 1 (by omega) (by omega)]; exact p3
      · rw [im 2 (by omega) (by omega) (by omega) (by omega)]; exact p4
      · rw [ix 2 (by omega) (by omega)]; exact p5
      · rw [im 3 (by omega) (by omega) (by omega) (by omega)]; exact p6
      · exact ⟨n, hn20, rfl, u7, fun j hj => (hx0v j hj).trans (h10 j (by omega)).symm⟩
      · rw [ix 4 (by omega) (by omega), ax 10 (by omega), ax 11 (by omega), ax 12 (by omega), ax 13 (by omega), ax 14 (by omega), ax 15 (by omega), ax 16 (by omega), im 4 (by omega) (by omega) (by omega) (by omega), am 0 (by omega) (by omega) (by omega) (by omega), am 1 (by omega) (by omega) (by omega) (by omega), am 2 (by omega) (by omega) (by omega) (by omega), am 3 (by omega) (by omega) (by omega) (by omega), am 4 (by omega) (by omega) (by omega) (by omega), am 5 (by omega) (by omega) (by omega) (by omega)]
        exact hF
      · rw [ax 5 (by omega), ax 6 (by omega), ax 7 (by omega), ax 8 (by omega), ax 9 (by omega), am 8 (by omega) (by omega) (by omega) (by omega), am 9 (by omega) (by omega) (by omega) (by omega)]
        exact hE
      · rw [ax 1 (by omega), ax 2 (by omega), ax 3 (by omega), am 14 (by omega) (by omega) (by omega) (by omega), am 15 (by omega) (by omega) (by omega) (by omega), am 16 (by omega) (by omega) (by omega) (by omega)]
        exact hC
      · rw [ix 5 (by omega) (by omega), ix 6 (by omega) (by omega), ax 17 (by omega), ax 18 (by omega), ax 19 (by omega), ax 20 (by omega), ax 21 (by omega), im 9 (by omega) (by omega) (by omega) (by omega), im 10 (by omega) (by omega) (by omega) (by omega), am 21 (by omega) (by omega) (by omega) (by omega), am 22 (by omega) (by omega) (by omega) (by omega), am 23 (by omega) (by omega) (by omega) (by omega), am 24 (by omega) (by omega) (by omega) (by omega), am 25 (by omega) (by omega) (by omega) (by omega)]
        exact hR
    have hkl : k < n := Nat.lt_of_not_le (fun z => c ((nI_leI (by omega) (by omega)).mpr z))
    refine ⟨nI_in (by omega) (by decide), nI_in (by omega) (by decide), fun σ1 e1 a2 e2 => ?_⟩
    subst e2
    refine kk _ ⟨k + 1, by omega, nI_1 k, by try dsimp only; rw [e1]; exact hi9, fun b hb => ?_, fun j hj => ?_⟩ ?_
    · try dsimp only
      rw [e1, ← ha9 b hb]
      exact va_up_ne _ _ hb
    · try dsimp only
      rw [e1, a_sA υ 10 (by omega)]
      by_cases d : j = k
      · rw [if_pos ⟨rfl, d⟩, aI_nI υ 11 (by omega), ha9 11 (by omega), h11 k hkl, d, ea k hkl]
      · rw [if_neg (fun z => d z.2)]; exact h10 j (by omega)
    · try dsimp only
      rw [nI_1, nI_clamp (by omega), nI_clamp (by omega)]; omega
  · rw [x_refuse]
    intro σ1 e1 σ2 e2
    subst e1; subst e2
    refine m_isSet hP p4 (fun _ => ⟨fun z => absurd z (by decide), fun _ => ⟨fun _ => ?_, fun z => absurd z hx0⟩⟩) (fun z => absurd hi z)
    refine m_finds hM hP (hS hi) hx0 (fun _ τ kt => ⟨fun z => absurd rfl z, fun _ => ?_⟩) (fun hc h1 => absurd ⟨hc, h1⟩ hn)
    rw [m_refuse]
    refine ⟨rfl, rel_keep h (keepX.st σx 7) ((keepM.ini σm).trans (kt.M.trans (keepM.int _ 0 7 (by omega)))) rfl⟩
