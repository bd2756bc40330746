/-! MARKS: the reference's marks; the number of rows -/
section MARKS
variable {L R : Nat → Nat}
def tch (L R : Nat → Nat) (T : Nat → Prop) (v : Nat) : Prop := ∃ p, T p ∧ (L p = v ∨ R p = v)
/-- marks stay within what hangs together -/
def mkIn (L R : Nat → Nat) (S : Nat → Prop) (mk : Nat → Nat) : Prop := ∀ T : Nat → Prop, (∀ p, T p → S p) → clR L R S T → ∀ v, tch L R S v → (tch L R T v ↔ tch L R T (mk v))
def mkOk (L R : Nat → Nat) (S : Nat → Prop) (mk : Nat → Nat) : Prop := mkIn L R S mk ∧ ∀ p, S p → mk (L p) = mk (R p)
theorem clR_all (S : Nat → Prop) : clR L R S S := fun _ _ _ h _ => h
theorem tch_in {S T : Nat → Prop} (hc : clR L R S T) {p : Nat} (hp : S p) : (tch L R T (L p) ↔ T p) ∧ (tch L R T (R p) ↔ T p) := by
  refine ⟨⟨fun ⟨t, ht, h⟩ => hc t p ht hp (by omega), fun h => ⟨p, h, Or.inl rfl⟩⟩, ⟨fun ⟨t, ht, h⟩ => hc t p ht hp (by omega), fun h => ⟨p, h, Or.inr rfl⟩⟩⟩
theorem mkIn_id (S : Nat → Prop) {mk : Nat → Nat} (h : ∀ v, tch L R S v → mk v = v) : mkIn L R S mk := fun T _ _ v hv => by rw [h v hv]
/-- both edges of a plate take the lesser mark -/
theorem mkIn_up {S : Nat → Prop} {mk : Nat → Nat} {p : Nat} (h : mkIn L R S mk) (hp : S p) {m : Nat} (hm : m = mk (L p) ∨ m = mk (R p)) {mk2 : Nat → Nat} (h2 : ∀ v, tch L R S v → mk2 v = if v = L p ∨ v = R p then m else mk v) : mkIn L R S mk2 := by
  intro T hT hc v hv
  rw [h2 v hv]
  obtain ⟨t1, t2⟩ := tch_in hc hp
  have k1 := h T hT hc (L p) ⟨p, hp, Or.inl rfl⟩
  have k2 := h T hT hc (R p) ⟨p, hp, Or.inr rfl⟩
  by_cases d : v = L p ∨ v = R p
  · rw [if_pos d]
    have a : tch L R T v ↔ T p := by
      rcases d with d | d
      · rw [d]; exact t1
      · rw [d]; exact t2
    rcases hm with hm | hm
    · rw [hm, a, ← k1, t1]
    · rw [hm, a, ← k2, t2]
  · rw [if_neg d]; exact h T hT hc v hv
theorem mkOk.lt {S : Nat → Prop} {mk : Nat → Nat} (hS : okS L R S) (h : mkIn L R S mk) {v : Nat} (hv : tch L R S v) : mk v < 300 ∧ tch L R S (mk v) := by
  obtain ⟨p, hp, e⟩ := (h S (fun _ z => z) (clR_all S) v hv).mp hv
  have := hS p hp
  exact ⟨by omega, p, hp, e⟩
theorem mk_con {S : Nat → Prop} {mk : Nat → Nat} (h : mkOk L R S mk) : (∀ p q, S p → S q → mk (L p) = mk (L q)) ↔ conR L R S := by
  constructor
  · intro he T hT hc ⟨t, ht⟩ q hq
    have a := (h.1 T hT hc (L t) ⟨t, hT t ht, Or.inl rfl⟩).mp ⟨t, ht, Or.inl rfl⟩
    rw [he t q (hT t ht) hq] at a
    exact (tch_in hc hq).1.mp ((h.1 T hT hc (L q) ⟨q, hq, Or.inl rfl⟩).mpr a)
  · intro hc p q hp hq
    refine (hc (fun q => S q ∧ mk (L p) = mk (L q)) (fun q z => z.1) ?_ ⟨p, hp, rfl⟩ q hq).2
    intro a b ha hb e
    refine ⟨hb, ha.2.trans ?_⟩
    rcases e with e | e | e | e
    · rw [h.2 a ha.1, e]
    · rw [h.2 b hb, e]
    · rw [e]
    · rw [h.2 a ha.1, h.2 b hb, e]
/-- how many must be first among those with mark m -/
noncomputable def nm (L R : Nat → Nat) (S : Nat → Prop) (mk : Nat → Nat) (m : Nat) : Nat := fb_sm (fun k => ci (tch L R S k ∧ mk k = m) (ps L R S k)) 300
/-- the least plate of those that hang together, if they close -/
def lstB (L R : Nat → Nat) (S : Nat → Prop) (mk : Nat → Nat) (p : Nat) : Prop := S p ∧ (∀ q, q < p → S q → mk (L q) ≠ mk (L p)) ∧ nm L R S mk (mk (L p)) = 0
noncomputable def rwN (L R : Nat → Nat) (S : Nat → Prop) (mk : Nat → Nat) : Nat := st L R S + fb_sm (fun p => c1 (lstB L R S mk p)) 20
theorem rwM {S : Nat → Prop} {mk : Nat → Nat} (hS : okS L R S) (h : mkOk L R S mk) : fb_sm (fun m => ci (∃ p, p < 20 ∧ S p ∧ mk (L p) = m) (max 1 (nm L R S mk m))) 300 = rwN L R S mk := by
  have e1 : ∀ m, ci (∃ p, p < 20 ∧ S p ∧ mk (L p) = m) (max 1 (nm L R S mk m)) = nm L R S mk m + ci (∃ p, p < 20 ∧ S p ∧ mk (L p) = m) (c1 (nm L R S mk m = 0)) := by
    intro m
    by_cases d : ∃ p, p < 20 ∧ S p ∧ mk (L p) = m
    · rw [ci_t d, ci_t d]
      by_cases z : nm L R S mk m = 0
      · rw [c1_t z]; omega
      · rw [c1_f z]; omega
    · rw [ci_f d, ci_f d]
      have : nm L R S mk m = 0 := sm_0 (fun k _ => ci_f (fun ⟨⟨p, hp, e⟩, hm⟩ => d ⟨p, (hS p hp).1, hp, by
        rcases e with e | e
        · rw [e]; exact hm
        · rw [h.2 p hp, e]; exact hm⟩))
      omega
  rw [fb_sm_cong (fun m _ => e1 m), fb_sm_add (nm L R S mk)]
  have e2 : fb_sm (nm L R S mk) 300 = st L R S := by
    show fb_sm (fun m => fb_sm (fun k => ci (tch L R S k ∧ mk k = m) (ps L R S k)) 300) 300 = _
    rw [sm_swap (fun m k => ci (tch L R S k ∧ mk k = m) (ps L R S k))]
    refine fb_sm_cong (fun k hk => ?_)
    by_cases t : tch L R S k
    · rw [fb_sm_cong (g := fun m => if m = mk k then ps L R S k else 0) (fun m _ => ?_), sm_pt (mkOk.lt hS h.1 t).1]
      try dsimp only
      by_cases d : m = mk k
      · rw [if_pos d, ci_t ⟨t, d.symm⟩]
      · rw [if_neg d, ci_f (fun z => d z.2.symm)]
    · rw [sm_0 (fun m _ => ci_f (fun z => t z.1))]
      unfold ps
      rw [od_0 (F := L) (fun p hp e => t ⟨p, hp, Or.inl e⟩), Nat.zero_sub]
  have e3 := sm_rep (S := S) (f := fun p => mk (L p)) (g := fun m => c1 (nm L R S mk m = 0)) (N := 300) (fun p hp => (mkOk.lt hS h.1 ⟨p, hp, Or.inl rfl⟩).1) 20
  rw [e2, e3]
  unfold rwN
  congr 1
  refine fb_sm_cong (fun p _ => ?_)
  try dsimp only
  by_cases d : S p ∧ ∀ q, q < p → S q → mk (L q) ≠ mk (L p)
  · rw [ci_t d]; exact c1_c ⟨fun z => ⟨d.1, d.2, z⟩, fun z => z.2.2⟩
  · rw [ci_f d, c1_f (fun z => d ⟨z.1, z.2.1⟩)]
/-- the part of S that hangs together with p0 -/
def prt (L R : Nat → Nat) (S P : Nat → Prop) (p0 : Nat) : Prop := (∀ p, P p → S p) ∧ clX L R S P ∧ P p0 ∧ ∀ T : Nat → Prop, (∀ p, T p → S p) → clX L R S T → T p0 → ∀ p, P p → T p
theorem prt_con {S P : Nat → Prop} {p0 : Nat} (h : prt L R S P p0) : con L R S ↔ ∀ p, S p → P p := by
  constructor
  · intro hc; exact hc P h.1 h.2.1 ⟨p0, h.2.2.1⟩
  · intro ha T hT hc ⟨t, ht⟩ p hp
    by_cases d : T p0
    · exact h.2.2.2 T hT hc d p (ha p hp)
    · exact absurd ht (h.2.2.2 _ (fun p z => z.1) hc.co ⟨h.1 p0 h.2.2.1, d⟩ t (ha t (hT t ht))).2
/-- a part counts once more, if it closes -/
theorem prt_B {S D P : Nat → Prop} {mk : Nat → Nat} {p0 : Nat} (hS : okS L R S) (h : mkOk L R S mk) (hD : ∀ p, D p → S p) (hDc : clX L R S D) (hP : prt L R D P p0) (h0 : ∀ q, D q → p0 ≤ q) :
    st L R P + fb_sm (fun p => c1 (P p ∧ lstB L R S mk p)) 20 = max 1 (st L R P) := by
  obtain ⟨p1, p2, p3, p4⟩ := hP
  have hPS : ∀ p, P p → S p := fun p hp => hD p (p1 p hp)
  have hPc : clX L R S P := fun a b ha hb e => p2 a b ha (hDc a b (p1 a ha) hb e) e
  have hsame : ∀ p, P p → mk (L p0) = mk (L p) := by
    intro p hp
    refine (p4 (fun q => D q ∧ mk (L p0) = mk (L q)) (fun q z => z.1) ?_ ⟨p1 p0 p3, rfl⟩ p hp).2
    intro a b ha hb e
    refine ⟨hb, ha.2.trans ?_⟩
    rcases e with e | e
    · rw [h.2 a (hD a ha.1), e]
    · rw [h.2 b (hD b hb), e]
  have h20 := (hS p0 (hPS p0 p3)).1
  by_cases d : st L R P = 0
  · have hcR := clR_bal hS hPS hPc (bal_st (hS.sub hPS) d)
    have hin : ∀ q, S q → mk (L q) = mk (L p0) → P q := by
      intro q hq e
      have a := (h.1 P hPS hcR (L p0) ⟨p0, hPS p0 p3, Or.inl rfl⟩).mp ⟨p0, p3, Or.inl rfl⟩
      rw [← e] at a
      exact (tch_in hcR hq).1.mp ((h.1 P hPS hcR (L q) ⟨q, hq, Or.inl rfl⟩).mpr a)
    have hB : lstB L R S mk p0 := by
      refine ⟨hPS p0 p3, fun q h1 h2 h3 => ?_, sm_0 (fun k _ => ?_)⟩
      · have := h0 q (p1 q (hin q h2 h3))
        omega
      · by_cases t : tch L R S k ∧ mk k = mk (L p0)
        · rw [ci_t t]
          have a := (h.1 P hPS hcR (L p0) ⟨p0, hPS p0 p3, Or.inl rfl⟩).mp ⟨p0, p3, Or.inl rfl⟩
          rw [← t.2] at a
          have b := (h.1 P hPS hcR k t.1).mpr a
          have hps : ps L R P k = 0 := by
            have := ps_st (hS.sub hPS) k
            omega
          rw [ps_split hPS hPc, hps]
          unfold ps
          rw [od_0 (F := L) (fun q hq e => hq.2 ((tch_in hcR hq.1).1.mp (by rw [e]; exact b)))]
          omega
        · exact ci_f t
    have e : fb_sm (fun p => c1 (P p ∧ lstB L R S mk p)) 20 = fb_sm (fun p => if p = p0 then 1 else 0) 20 := by
      refine fb_sm_cong (fun p _ => ?_)
      try dsimp only
      by_cases z : p = p0
      · rw [if_pos z, z, c1_t ⟨p3, hB⟩]
      · rw [if_neg z]
        refine c1_f (fun y => y.2.2.1 p0 ?_ (hPS p0 p3) (hsame p y.1))
        have := h0 p (p1 p y.1)
        omega
    rw [e, sm_pt h20, d]
    rfl
  · have e : fb_sm (fun p => c1 (P p ∧ lstB L R S mk p)) 20 = 0 := by
      refine sm_0 (fun p _ => c1_f (fun y => ?_))
      obtain ⟨v, hv, hv2⟩ := sm_pos (show 0 < fb_sm (ps L R P) 300 from Nat.pos_of_ne_zero d)
      have hv3 : 0 < od L P v := by unfold ps at hv2; omega
      obtain ⟨t, _, ht, et⟩ := od_pos hv3
      have hz := fb_sm_zero y.2.2.2 v hv
      try dsimp only at hz
      rw [ci_t ⟨⟨t, hPS t ht, Or.inl et⟩, by rw [← et, ← hsame t ht, hsame p y.1]⟩, ps_split hPS hPc] at hz
      omega
    rw [e]
    omega
/-- the sum over the parts, a part at a time -/
theorem rwN_step {S D P : Nat → Prop} {mk : Nat → Nat} {p0 : Nat} (hS : okS L R S) (h : mkOk L R S mk) (hD : ∀ p, D p → S p) (hDc : clX L R S D) (hP : prt L R D P p0) (h0 : ∀ q, D q → p0 ≤ q) {n : Nat}
    (hn : n = st L R (fun p => S p ∧ ¬ D p) + fb_sm (fun p => c1 ((S p ∧ ¬ D p) ∧ lstB L R S mk p)) 20) :
    n + max 1 (st L R P) = st L R (fun p => S p ∧ ¬ (D p ∧ ¬ P p)) + fb_sm (fun p => c1 ((S p ∧ ¬ (D p ∧ ¬ P p)) ∧ lstB L R S mk p)) 20 := by
  rw [← prt_B hS h hD hDc hP h0]
  have hPD := hP.1
  have e1 : st L R (fun p => S p ∧ ¬ (D p ∧ ¬ P p)) = st L R (fun p => S p ∧ ¬ D p) + st L R P := by
    rw [st_split (S := fun p => S p ∧ ¬ (D p ∧ ¬ P p)) (T := fun p => S p ∧ ¬ D p) (fun p z => ⟨z.1, fun y => z.2 y.1⟩) (fun a b ha hb e => hDc.co a b ha hb.1 e)]
    refine congrArg (fun n => st L R (fun p => S p ∧ ¬ D p) + n) (st_c (fun p => ⟨fun z => ?_, fun z => ⟨⟨hD p (hPD p z), fun y => y.2 z⟩, fun y => y.2 (hPD p z)⟩⟩))
    have hDp : D p := Classical.byContradiction fun y => z.2 ⟨z.1.1, y⟩
    exact Classical.byContradiction fun y => z.1.2 ⟨hDp, y⟩
  have e2 : fb_sm (fun p => c1 ((S p ∧ ¬ (D p ∧ ¬ P p)) ∧ lstB L R S mk p)) 20 = fb_sm (fun p => c1 ((S p ∧ ¬ D p) ∧ lstB L R S mk p)) 20 + fb_sm (fun p => c1 (P p ∧ lstB L R S mk p)) 20 := by
    rw [← fb_sm_add]
    refine fb_sm_cong (fun p _ => ?_)
    try dsimp only
    by_cases a : P p
    · rw [c1_f (a := (S p ∧ ¬ D p) ∧ _) (fun z => z.1.2 (hPD p a)), Nat.zero_add]
      exact c1_c ⟨fun z => ⟨a, z.2⟩, fun z => ⟨⟨hD p (hPD p a), fun y => y.2 a⟩, z.2⟩⟩
    · rw [c1_f (a := P p ∧ _) (fun z => a z.1), Nat.add_zero]
      exact c1_c ⟨fun z => ⟨⟨z.1.1, fun y => z.1.2 ⟨y, a⟩⟩, z.2⟩, fun z => ⟨⟨z.1.1, fun y => z.1.2 y.1⟩, z.2⟩⟩
  omega
end MARKS
