/-! EDGES: the class's sets of plates -/
theorem b_one {k : Nat} (hk : k < 32) (q : Nat) : bt ((1 : Int32) <<< (nI k &&& 31)) q = true ↔ q = k := by
  unfold bt
  rw [nf_sh k hk, BitVec.getLsbD_twoPow]
  simp only [hk, decide_true, Bool.true_and, decide_eq_true_eq]
  exact eq_comm
theorem b_orT (x y : Int32) (q : Nat) : bt (x ||| y) q = true ↔ bt x q = true ∨ bt y q = true := by rw [b_or, Bool.or_eq_true]
theorem b_andT (x y : Int32) (q : Nat) : bt (x &&& y) q = true ↔ bt x q = true ∧ bt y q = true := by rw [b_and, Bool.and_eq_true]
theorem b_dec {b : Bool} {P : Prop} [Decidable P] : b = decide P ↔ (b = true ↔ P) := by
  rw [Bool.eq_iff_iff, decide_eq_true_iff]
theorem x_fits {Q : Int32 → Prop} {x y : Int32} : wx_X1_fits Q x y ↔ Q (b2 (x ≠ 0 ∧ x = y)) := by
  unfold wx_X1_fits
  by_cases a : x = 0
  · rw [b2_f (fun z => z.1 a)]; exact ⟨fun h => h.1 a, fun h => i_t a h⟩
  · by_cases b : x = y
    · rw [b2_t ⟨a, b⟩]; exact ⟨fun h => (h.2 a).2 b, fun h => i_f a (i_t' b h)⟩
    · rw [b2_f (fun z => b z.2)]; exact ⟨fun h => (h.2 a).1 b, fun h => i_f a (i_f' b h)⟩
def keepE (σ τ : wS) : Prop := τ.1 = σ.1 ∧ ∀ a, a ≠ 7 → a ≠ 8 → a ≠ 9 → τ.2.2.1 a = σ.2.2.1 a
theorem keepE.rf (σ : wS) : keepE σ σ := ⟨rfl, fun _ _ _ _ => rfl⟩
theorem keepE.trans {a b c : wS} (h : keepE a b) (h2 : keepE b c) : keepE a c := ⟨h2.1.trans h.1, fun k k1 k2 k3 => (h2.2 k k1 k2 k3).trans (h.2 k k1 k2 k3)⟩
theorem keepE.arr (σ : wS) (a : Nat) (f : Nat → Int32) (h : a = 7 ∨ a = 8 ∨ a = 9) : keepE σ (sAF σ a f) := ⟨rfl, fun k h1 h2 h3 => va_up_ne _ _ (by omega)⟩
theorem a_sA (σ : wS) (a : Nat) {k : Nat} (hk : k < 2 ^ 31) (v : Int32) (b j : Nat) : (sA σ a (nI k) v).2.2.1 b j = if b = a ∧ j = k then v else σ.2.2.1 b j := by
  show va_up σ.2.2.1 a (upd (σ.2.2.1 a) (nI k).toNatClampNeg v) b j = _
  rw [nI_clamp hk]
  by_cases e : b = a
  · subst e
    rw [va_up_self]
    by_cases e2 : j = k
    · subst e2; rw [pk_us, if_pos ⟨rfl, rfl⟩]
    · rw [pk_un e2, if_neg (fun z => e2 z.2)]
  · rw [va_up_ne _ _ e, if_neg (fun z => e z.1)]
/-- arrays 7, 8, 9 have not changed beside plate p -/
def besE (p : Nat) (σ τ : wS) : Prop := ∀ a q, (a = 7 ∨ a = 8 ∨ a = 9) → q ≠ p → τ.2.2.1 a q = σ.2.2.1 a q
def cI (l r : Nat → Int32) (p k7 k8 k9 : Nat) (a b c : Int32) : Prop := ∀ q, (bt a q = true ↔ q = p ∨ (q < k7 ∧ l p ≠ 0 ∧ l p = l q)) ∧ (bt b q = true ↔ q < k8 ∧ l p ≠ 0 ∧ l p = r q) ∧ (bt c q = true ↔ q < k9 ∧ r p ≠ 0 ∧ r p = l q)
theorem x_compare {Q : wS → Prop} {σ : wS} {p : Nat} (hp : p < 20) (hq : ∀ τ : wS, keepE σ τ → besE p σ τ → rSet (σ.2.2.1 5) (σ.2.2.1 6) p (τ.2.2.1 7 p) (τ.2.2.1 8 p) (τ.2.2.1 9 p) → Q τ) : wx_X1_compare Q (nI p) σ := by
  have hin : vp_in (nI p) 20 := nI_in hp (by decide)
  have hcl : (nI p).toNatClampNeg = p := nI_clamp (by omega)
  refine ⟨hin, fun σ1 e1 => ⟨hin, fun σ2 e2 => ⟨hin, fun σ3 e3 => ?_⟩⟩⟩
  refine wloop_of (fun w : Int32 × wS => ∃ k : Nat, k ≤ 20 ∧ w.1 = nI k ∧ keepE σ w.2 ∧ besE p σ w.2 ∧ cI (σ.2.2.1 5) (σ.2.2.1 6) p k k k (w.2.2.2.1 7 p) (w.2.2.2.1 8 p) (w.2.2.2.1 9 p)) (fun w => 20 - w.1.toNatClampNeg) ?_ _ ⟨0, by omega, rfl, ?_, ?_, ?_⟩
  · rintro K ⟨x2, τ⟩ ⟨k, hk, ex, ke, be, ci⟩ kk
    dsimp only at ex ke be ci kk
    subst ex
    dsimp only [wx_X1_compare_L25]
    refine ⟨fun c => ?_, fun c a1 ea1 => ⟨hin, ?_⟩⟩
    · have hk20 : 20 ≤ k := (nI_leI (a := 20) (by omega) (by omega)).mp c
      refine hq τ ke be (fun q => ?_)
      obtain ⟨c1, c2, c3⟩ := ci q
      refine ⟨b_dec.mpr (c1.trans ⟨fun h => ?_, fun h => ?_⟩), b_dec.mpr (c2.trans ⟨fun h => ⟨by omega, h.2.1, h.2.2.symm⟩, fun h => ⟨by omega, h.2.1, h.2.2.symm⟩⟩), b_dec.mpr (c3.trans ⟨fun h => ⟨by omega, h.2.1, h.2.2.symm⟩, fun h => ⟨by omega, h.2.1, h.2.2.symm⟩⟩)⟩
      · rcases h with h | h
        · exact ⟨by omega, Or.inl h⟩
        · exact ⟨by omega, Or.inr ⟨h.2.1, h.2.2.symm⟩⟩
      · rcases h with ⟨h0, h | h⟩
        · exact Or.inl h
        · exact Or.inr ⟨by omega, h.1, h.2.symm⟩
    have hlt : k < 20 := Nat.lt_of_not_le (fun z => c ((nI_leI (a := 20) (by omega) (by omega)).mpr z))
    have hink : vp_in (nI k) 20 := nI_in hlt (by decide)
    have hck : (nI k).toNatClampNeg = k := nI_clamp (by omega)
    have bk : ∀ q, bt a1 q = true ↔ q = k := fun q => by rw [ea1]; exact b_one (by omega) q
    have rd : ∀ (υ : wS) (a : Nat), keepE σ υ → a = 5 ∨ a = 6 → aI υ a (nI p) = σ.2.2.1 a p ∧ aI υ a (nI k) = σ.2.2.1 a k := by
      intro υ a hu ha
      constructor
      · show υ.2.2.1 a (nI p).toNatClampNeg = _
        rw [hcl, hu.2 a (by omega) (by omega) (by omega)]
      · show υ.2.2.1 a (nI k).toNatClampNeg = _
        rw [hck, hu.2 a (by omega) (by omega) (by omega)]
    -- the three questions, the last first
    have J9 : ∀ υ : wS, keepE σ υ → besE p σ υ → cI (σ.2.2.1 5) (σ.2.2.1 6) p (k + 1) (k + 1) k (υ.2.2.1 7 p) (υ.2.2.1 8 p) (υ.2.2.1 9 p) → wx_X1_compare_J91 Q K (nI p) (nI k) a1 υ := by
      intro υ hu hb hc
      refine ⟨hin, hink, ?_⟩
      rw [x_fits, (rd υ 6 hu (Or.inr rfl)).1, (rd υ 5 hu (Or.inl rfl)).2]
      have fin : ∀ ω : wS, keepE σ ω → besE p σ ω → cI (σ.2.2.1 5) (σ.2.2.1 6) p (k + 1) (k + 1) (k + 1) (ω.2.2.1 7 p) (ω.2.2.1 8 p) (ω.2.2.1 9 p) → K (nI k + 1, ω) := fun ω w1 w2 w3 => kk _ ⟨k + 1, by omega, nI_1 k, w1, w2, w3⟩ (by dsimp only; rw [nI_1, nI_clamp (by omega), hck]; omega)
      by_cases d : σ.2.2.1 6 p ≠ 0 ∧ σ.2.2.1 6 p = σ.2.2.1 5 k
      · refine q_t d ⟨hin, hin, fun σ4 e4 a5 e5 => ?_⟩
        subst e5; subst e4
        refine fin _ (hu.trans (keepE.arr _ 9 _ (by omega))) (fun a q ha hqp => ?_) (fun q => ?_)
        · rw [a_sA υ 9 (by omega), if_neg (fun z => hqp z.2)]; exact hb a q ha hqp
        · rw [a_sA υ 9 (by omega), a_sA υ 9 (by omega), a_sA υ 9 (by omega), if_neg (by omega), if_neg (by omega), if_pos ⟨rfl, rfl⟩]
          obtain ⟨c1, c2, c3⟩ := hc q
          refine ⟨c1, c2, ?_⟩
          rw [b_orT, bk]
          show (bt (υ.2.2.1 9 (nI p).toNatClampNeg) q = true ∨ _) ↔ _
          rw [hcl, c3]
          refine ⟨fun h => ?_, fun h => ?_⟩
          · rcases h with h | h
            · exact ⟨by omega, h.2⟩
            · subst h; exact ⟨by omega, d⟩
          · by_cases e : q = k
            · exact Or.inr e
            · exact Or.inl ⟨by omega, h.2⟩
      · refine q_f d (fun a3 e3 => ?_)
        subst e3
        refine fin υ hu hb (fun q => ?_)
        obtain ⟨c1, c2, c3⟩ := hc q
        refine ⟨c1, c2, c3.trans ⟨fun h => ⟨by omega, h.2⟩, fun h => ⟨?_, h.2⟩⟩⟩
        by_cases e : q = k
        · subst e; exact absurd h.2 d
        · omega
    have J8 : ∀ υ : wS, keepE σ υ → besE p σ υ → cI (σ.2.2.1 5) (σ.2.2.1 6) p (k + 1) k k (υ.2.2.1 7 p) (υ.2.2.1 8 p) (υ.2.2.1 9 p) → wx_X1_compare_J63 Q K (nI p) (nI k) a1 υ := by
      intro υ hu hb hc
      refine ⟨hin, hink, ?_⟩
      rw [x_fits, (rd υ 5 hu (Or.inl rfl)).1, (rd υ 6 hu (Or.inr rfl)).2]
      by_cases d : σ.2.2.1 5 p ≠ 0 ∧ σ.2.2.1 5 p = σ.2.2.1 6 k
      · refine q_t d ⟨hin, hin, fun σ4 e4 => ?_⟩
        subst e4
        refine J9 _ (hu.trans (keepE.arr _ 8 _ (by omega))) (fun a q ha hqp => ?_) (fun q => ?_)
        · rw [a_sA υ 8 (by omega), if_neg (fun z => hqp z.2)]; exact hb a q ha hqp
        · rw [a_sA υ 8 (by omega), a_sA υ 8 (by omega), a_sA υ 8 (by omega), if_neg (by omega), if_pos ⟨rfl, rfl⟩, if_neg (by omega)]
          obtain ⟨c1, c2, c3⟩ := hc q
          refine ⟨c1, ?_, c3⟩
          rw [b_orT, bk]
          show (bt (υ.2.2.1 8 (nI p).toNatClampNeg) q = true ∨ _) ↔ _
          rw [hcl, c2]
          refine ⟨fun h => ?_, fun h => ?_⟩
          · rcases h with h | h
            · exact ⟨by omega, h.2⟩
            · subst h; exact ⟨by omega, d⟩
          · by_cases e : q = k
            · exact Or.inr e
            · exact Or.inl ⟨by omega, h.2⟩
      · refine q_f d (J9 υ hu hb (fun q => ?_))
        obtain ⟨c1, c2, c3⟩ := hc q
        refine ⟨c1, c2.trans ⟨fun h => ⟨by omega, h.2⟩, fun h => ⟨?_, h.2⟩⟩, c3⟩
        by_cases e : q = k
        · subst e; exact absurd h.2 d
        · omega
    refine ⟨hink, ?_⟩
    rw [x_fits, (rd τ 5 ke (Or.inl rfl)).1, (rd τ 5 ke (Or.inl rfl)).2]
    by_cases d : σ.2.2.1 5 p ≠ 0 ∧ σ.2.2.1 5 p = σ.2.2.1 5 k
    · refine q_t d ⟨hin, hin, fun σ4 e4 => ?_⟩
      subst e4
      refine J8 _ (ke.trans (keepE.arr _ 7 _ (by omega))) (fun a q ha hqp => ?_) (fun q => ?_)
      · rw [a_sA τ 7 (by omega), if_neg (fun z => hqp z.2)]; exact be a q ha hqp
      · rw [a_sA τ 7 (by omega), a_sA τ 7 (by omega), a_sA τ 7 (by omega), if_pos ⟨rfl, rfl⟩, if_neg (by omega), if_neg (by omega)]
        obtain ⟨c1, c2, c3⟩ := ci q
        refine ⟨?_, c2, c3⟩
        rw [b_orT, bk]
        show (bt (τ.2.2.1 7 (nI p).toNatClampNeg) q = true ∨ _) ↔ _
        rw [hcl, c1]
        refine ⟨fun h => ?_, fun h => ?_⟩
        · rcases h with (h | h) | h
          · exact Or.inl h
          · exact Or.inr ⟨by omega, h.2⟩
          · subst h; exact Or.inr ⟨by omega, d⟩
        · by_cases e : q = k
          · exact Or.inr e
          · rcases h with h | h
            · exact Or.inl (Or.inl h)
            · exact Or.inl (Or.inr ⟨by omega, h.2⟩)
    · refine q_f d (J8 τ ke be (fun q => ?_))
      obtain ⟨c1, c2, c3⟩ := ci q
      refine ⟨c1.trans ⟨fun h => ?_, fun h => ?_⟩, c2, c3⟩
      · rcases h with h | h
        · exact Or.inl h
        · exact Or.inr ⟨by omega, h.2⟩
      · rcases h with h | h
        · exact Or.inl h
        · refine Or.inr ⟨?_, h.2⟩
          by_cases e : q = k
          · subst e; exact absurd h.2 d
          · omega
  · subst e3; subst e2; subst e1
    exact (keepE.arr _ 7 _ (by omega)).trans ((keepE.arr _ 8 _ (by omega)).trans (keepE.arr _ 9 _ (by omega)))
  · subst e3; subst e2; subst e1
    intro a q ha hqp
    dsimp only
    rw [a_sA _ 9 (by omega), if_neg (fun z => hqp z.2), a_sA _ 8 (by omega), if_neg (fun z => hqp z.2), a_sA _ 7 (by omega), if_neg (fun z => hqp z.2)]
  · subst e3; subst e2; subst e1
    intro q
    dsimp only
    rw [a_sA _ 9 (by omega), if_neg (by omega), a_sA _ 8 (by omega), if_neg (by omega), a_sA _ 7 (by omega), if_pos ⟨rfl, rfl⟩]
    rw [a_sA _ 9 (by omega), if_neg (by omega), a_sA _ 8 (by omega), if_pos ⟨rfl, rfl⟩]
    rw [a_sA _ 9 (by omega), if_pos ⟨rfl, rfl⟩]
    rw [b_one (by omega), b_0]
    refine ⟨⟨fun h => Or.inl h, fun h => h.elim id (fun z => absurd z.1 (Nat.not_lt_zero q))⟩, ⟨fun h => absurd h (by decide), fun h => absurd h.1 (Nat.not_lt_zero q)⟩, ⟨fun h => absurd h (by decide), fun h => absurd h.1 (Nat.not_lt_zero q)⟩⟩
/-- all twenty plates compared: the loops of setEdges and of the constructor -/
theorem x_all {σ : wS} {body : ((Int32 × wS) → Prop) → (Int32 × wS) → Prop} {Q : wS → Prop} (hb : ∀ K x τ, body K (x, τ) ↔ ((20 ≤ x → Q τ) ∧ (¬ 20 ≤ x → wx_X1_compare (fun σ1 => ∀ a2 : Int32, a2 = x + 1 → K (a2, σ1)) x τ)))
    (hq : ∀ τ : wS, keepE σ τ → (∀ p, p < 20 → rSet (σ.2.2.1 5) (σ.2.2.1 6) p (τ.2.2.1 7 p) (τ.2.2.1 8 p) (τ.2.2.1 9 p)) → Q τ) : ∃ n, wloop body n (0, σ) := by
  refine wloop_of (fun w : Int32 × wS => ∃ k : Nat, k ≤ 20 ∧ w.1 = nI k ∧ keepE σ w.2 ∧ ∀ p, p < k → rSet (σ.2.2.1 5) (σ.2.2.1 6) p (w.2.2.2.1 7 p) (w.2.2.2.1 8 p) (w.2.2.2.1 9 p)) (fun w => 20 - w.1.toNatClampNeg) ?_ _ ⟨0, by omega, rfl, keepE.rf σ, fun p hp => absurd hp (Nat.not_lt_zero p)⟩
  rintro K ⟨x, τ⟩ ⟨k, hk, ex, ke, hs⟩ kk
  dsimp only at ex ke hs kk
  subst ex
  rw [hb]
  refine ⟨fun c => ?_, fun c => ?_⟩
  · have : 20 ≤ k := (nI_leI (a := 20) (by omega) (by omega)).mp c
    exact hq τ ke (fun p hp => hs p (by omega))
  have hlt : k < 20 := Nat.lt_of_not_le (fun z => c ((nI_leI (a := 20) (by omega) (by omega)).mpr z))
  refine x_compare hlt (fun υ ku bu su a e => ?_)
  subst e
  refine kk _ ⟨k + 1, by omega, nI_1 k, ke.trans ku, fun p hp => ?_⟩ ?_
  · dsimp only
    by_cases e : p = k
    · subst e
      rw [ke.2 5 (by omega) (by omega) (by omega), ke.2 6 (by omega) (by omega) (by omega)] at su
      exact su
    · rw [bu 7 p (by omega) e, bu 8 p (by omega) e, bu 9 p (by omega) e]
      exact hs p (by omega)
  · dsimp only
    rw [nI_1, nI_clamp (by omega), nI_clamp (by omega)]; omega
theorem r_edges : rT_edges Rel := by
  intro σx σm x1 x2 x3 h
  obtain ⟨hs, P, Mo, h0⟩ := id h
  obtain ⟨p1, p2, p3, p4, p5, p6, hO, hF, ⟨e1, e2, e3, e4⟩, hC, hR⟩ := h0
  have eP : (sI (sI σm 1 0) 0 0).1 2 = nI P := p4
  obtain ⟨ok, hok⟩ : ∃ c : Prop, c ↔ (isR x2 0 99 ∧ isR x3 0 99) := ⟨_, Iff.rfl⟩
  have M : ∀ (Q : Int32 → wS → Prop), (¬ isN x1 (nI P) → Q 0 (sI (sI (sI σm 1 0) 0 0) 0 1)) → (isN x1 (nI P) → ¬ ok → Q 0 (sI (sI (sI σm 1 0) 0 0) 0 2)) → (isN x1 (nI P) → ok → Q 1 (sA (sA (sI (sI σm 1 0) 0 0) 8 x1 x2) 9 x1 x3)) → wm_X6_edges Q x1 x2 x3 σm := by
    intro Q k0 k1 k2 τ1 t1 τ2 t2
    subst t1; subst t2
    rw [m_isPlate, eP]
    by_cases a : isN x1 (nI P)
    · refine q_t' a ?_
      have no2 : ¬ ok → wm_X6_no (fun r5 σ6 => isB r5 ∧ Q r5 σ6) 2 (sI (sI σm 1 0) 0 0) := fun hn => m_no.mpr ⟨rfl, k1 a hn⟩
      obtain ⟨j, hj, hxj⟩ := isN_of (by omega) a
      have hin : vp_in x1 20 := by rw [hxj]; exact nI_in (by omega) (by decide)
      by_cases c1 : x2 < 0
      · exact i_t c1 (no2 (fun z => (hok.mp z).1.1 c1))
      refine i_f c1 ?_
      by_cases c2 : 99 < x2
      · exact i_t c2 (no2 (fun z => (hok.mp z).1.2 c2))
      refine i_f c2 ?_
      by_cases c3 : x3 < 0
      · exact i_t c3 (no2 (fun z => (hok.mp z).2.1 c3))
      refine i_f c3 ?_
      by_cases c4 : x3 ≤ 99
      · refine i_t c4 ⟨hin, fun σ3 q3 => ⟨hin, fun σ4 q4 => ?_⟩⟩
        subst q4; subst q3
        exact k2 a (hok.mpr ⟨⟨c1, c2⟩, c3, fun z => by rw [fa_lt] at z; rw [fa_le] at c4; omega⟩)
      · exact i_f c4 (no2 (fun z => c4 (by have := (hok.mp z).2.2; rw [fa_lt] at this; rw [fa_le]; omega)))
    · exact q_f' a (m_no.mpr ⟨rfl, k0 a⟩)
  have X : ∀ s0 : Int32, (s0 = 0 ↔ ¬ ok) → wx_X5_edges_J25 (fun r1 σx1 => wm_X6_edges (fun r2 σm1 => r1 = r2 ∧ Rel σx1 σm1) x1 x2 x3 σm) x1 x2 x3 s0 σx := by
    intro s0 hs0
    unfold wx_X5_edges_J25
    rw [x_isPlate, p3, x_whyNot]
    by_cases a : isN x1 (nI P)
    · rw [b2_t a, if_neg (by decide)]
      by_cases b : s0 = 0
      · rw [if_pos b]
        intro σ5 q5
        subst q5
        exact i_f (show ¬ (2 : Int32) = 0 by decide) (M _ (fun z => absurd a z) (fun _ _ => ⟨rfl, rel_no h 2⟩) (fun _ z => absurd z (hs0.mp b)))
      · rw [if_neg b]
        have hk : ok := Classical.byContradiction fun z => b (hs0.mpr z)
        intro σ5 q5
        subst q5
        refine i_t (show (0 : Int32) = 0 from rfl) ?_
        obtain ⟨j, hj, hxj⟩ := isN_of (by omega) a
        subst hxj
        have hin : vp_in (nI j) 20 := nI_in (by omega) (by decide)
        refine i_f (nI_pos (by omega)) (i_t ((nI_ltI (b := 20) (by omega) (by omega)).mpr (by omega)) ⟨hin, fun σ1 q1 => ⟨hin, fun σ2 q2 => ?_⟩⟩)
        refine x_all (fun K x τ => Iff.rfl) (fun τ ke hset => M _ (fun z => absurd a z) (fun _ z => absurd hk z) (fun _ _ => ⟨rfl, ?_⟩))
        have hv : ∀ a q, σ2.2.2.1 a q = if a = 6 ∧ q = j then x3 else if a = 5 ∧ q = j then x2 else σx.2.2.1 a q := by
          intro a q
          subst q2; subst q1
          rw [a_sA _ 6 (by omega)]
          split
          · rfl
          · rw [a_sA _ 5 (by omega)]; rfl
        have hi : τ.1 = va_up σx.1 3 0 := by rw [ke.1]; subst q2; subst q1; rfl
        have kp : ∀ a, a ≠ 5 → a ≠ 6 → a ≠ 7 → a ≠ 8 → a ≠ 9 → τ.2.2.1 a = σx.2.2.1 a := by
          intro a b1 b2 b3 b4 b5
          rw [ke.2 a b3 b4 b5]
          funext q
          rw [hv, if_neg (by omega), if_neg (by omega)]
        have km : ∀ a, a ≠ 8 → a ≠ 9 → (sA (sA (sI (sI σm 1 0) 0 0) 8 (nI j) x2) 9 (nI j) x3).2.2.1 a = σm.2.2.1 a := by
          intro a b1 b2
          funext q
          rw [a_sA _ 9 (by omega), if_neg (by omega), a_sA _ 8 (by omega), if_neg (by omega)]
          rfl
        have r2 := isR_of (hok.mp hk).1
        have r3 := isR_of (hok.mp hk).2
        have z0 : (0 : Int32).toInt = 0 := by decide
        have z99 : (99 : Int32).toInt = 99 := by decide
        have t5 : ∀ q, τ.2.2.1 5 q = if q = j then x2 else σx.2.2.1 5 q := by
          intro q
          rw [ke.2 5 (by omega) (by omega) (by omega), hv, if_neg (by omega)]
          by_cases e : q = j
          · rw [if_pos ⟨rfl, e⟩, if_pos e]
          · rw [if_neg (fun z => e z.2), if_neg e]
        have t6 : ∀ q, τ.2.2.1 6 q = if q = j then x3 else σx.2.2.1 6 q := by
          intro q
          rw [ke.2 6 (by omega) (by omega) (by omega), hv]
          by_cases e : q = j
          · rw [if_pos ⟨rfl, e⟩, if_pos e]
          · rw [if_neg (fun z => e z.2), if_neg (by omega), if_neg e]
        refine ⟨by rw [hi]; rfl, P, Mo, p1, p2, by rw [hi]; exact p3, p4, by rw [hi]; exact p5, p6, ?_, ?_, ⟨fun p hp => ?_, fun p hp => ?_, fun p hp hp2 => ?_, fun p hp => ?_⟩, ?_, ?_⟩
        · rw [hi, kp 0 (by omega) (by omega) (by omega) (by omega) (by omega), km 10 (by omega) (by omega)]; exact hO
        · rw [hi, kp 10 (by omega) (by omega) (by omega) (by omega) (by omega), kp 11 (by omega) (by omega) (by omega) (by omega) (by omega), kp 12 (by omega) (by omega) (by omega) (by omega) (by omega), kp 13 (by omega) (by omega) (by omega) (by omega) (by omega), kp 14 (by omega) (by omega) (by omega) (by omega) (by omega), kp 15 (by omega) (by omega) (by omega) (by omega) (by omega), kp 16 (by omega) (by omega) (by omega) (by omega) (by omega)]
          rw [km 0 (by omega) (by omega), km 1 (by omega) (by omega), km 2 (by omega) (by omega), km 3 (by omega) (by omega), km 4 (by omega) (by omega), km 5 (by omega) (by omega)]
          exact hF
        · have n8 : (sA (sA (sI (sI σm 1 0) 0 0) 8 (nI j) x2) 9 (nI j) x3).2.2.1 8 p = if p = j then x2 else σm.2.2.1 8 p := by
            rw [a_sA _ 9 (by omega), if_neg (by omega), a_sA _ 8 (by omega)]
            by_cases e : p = j
            · rw [if_pos ⟨rfl, e⟩, if_pos e]
            · rw [if_neg (fun z => e z.2), if_neg e]; rfl
          have n9 : (sA (sA (sI (sI σm 1 0) 0 0) 8 (nI j) x2) 9 (nI j) x3).2.2.1 9 p = if p = j then x3 else σm.2.2.1 9 p := by
            rw [a_sA _ 9 (by omega)]
            by_cases e : p = j
            · rw [if_pos ⟨rfl, e⟩, if_pos e]
            · rw [if_neg (fun z => e z.2), if_neg e, a_sA _ 8 (by omega), if_neg (by omega)]; rfl
          rw [t5, t6, n8, n9]
          by_cases e : p = j
          · simp only [if_pos e]; exact ⟨trivial, trivial⟩
          · simp only [if_neg e]; exact e1 p hp
        · rw [t5, t6]
          by_cases e : p = j
          · rw [if_pos e, if_pos e]; omega
          · rw [if_neg e, if_neg e]; exact e2 p hp
        · rw [t5, t6, if_neg (by omega), if_neg (by omega)]; exact e3 p hp hp2
        · have := hset p hp
          rw [← ke.2 5 (by omega) (by omega) (by omega), ← ke.2 6 (by omega) (by omega) (by omega)] at this
          exact this
        · rw [kp 1 (by omega) (by omega) (by omega) (by omega) (by omega), kp 2 (by omega) (by omega) (by omega) (by omega) (by omega), kp 3 (by omega) (by omega) (by omega) (by omega) (by omega), km 14 (by omega) (by omega), km 15 (by omega) (by omega), km 16 (by omega) (by omega)]; exact hC
        · rw [hi, kp 17 (by omega) (by omega) (by omega) (by omega) (by omega), kp 18 (by omega) (by omega) (by omega) (by omega) (by omega), kp 19 (by omega) (by omega) (by omega) (by omega) (by omega), kp 20 (by omega) (by omega) (by omega) (by omega) (by omega), kp 21 (by omega) (by omega) (by omega) (by omega) (by omega), km 21 (by omega) (by omega), km 22 (by omega) (by omega), km 23 (by omega) (by omega), km 24 (by omega) (by omega), km 25 (by omega) (by omega)]; exact hR
    · rw [b2_f a, if_pos rfl]
      intro σ5 q5
      subst q5
      exact i_f (show ¬ (1 : Int32) = 0 by decide) (M _ (fun _ => ⟨rfl, rel_no h 1⟩) (fun z => absurd z a) (fun z => absurd z a))
  unfold wx_X5_edges
  rw [x_isWithin]
  by_cases c1 : isR x2 0 99
  · refine q_t c1 ?_
    rw [x_isWithin]
    by_cases c2 : isR x3 0 99
    · exact q_t c2 (X 1 ⟨fun e => absurd e (by decide), fun z => absurd (hok.mpr ⟨c1, c2⟩) z⟩)
    · exact q_f c2 (X 0 ⟨fun _ z => c2 (hok.mp z).2, fun _ => rfl⟩)
  · exact q_f c1 (X 0 ⟨fun _ z => c1 (hok.mp z).1, fun _ => rfl⟩)
