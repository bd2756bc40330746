/-! EULER: plates as arrows between edges: counts, closed sets, ways that use each arrow once -/
noncomputable def c1 (a : Prop) : Nat := @ite Nat a (Classical.propDecidable a) 1 0
noncomputable def ci (a : Prop) (x : Nat) : Nat := @ite Nat a (Classical.propDecidable a) x 0
theorem c1_t {a : Prop} (h : a) : c1 a = 1 := by unfold c1; exact if_pos h
theorem c1_f {a : Prop} (h : ¬ a) : c1 a = 0 := by unfold c1; exact if_neg h
theorem ci_t {a : Prop} {x : Nat} (h : a) : ci a x = x := by unfold ci; exact if_pos h
theorem ci_f {a : Prop} {x : Nat} (h : ¬ a) : ci a x = 0 := by unfold ci; exact if_neg h
theorem c1_c {a b : Prop} (h : a ↔ b) : c1 a = c1 b := by rw [propext h]
theorem ci_c {a b : Prop} {x : Nat} (h : a ↔ b) : ci a x = ci b x := by rw [propext h]
theorem c1_le {a b : Prop} (h : a → b) : c1 a ≤ c1 b := by
  by_cases ha : a
  · rw [c1_t ha, c1_t (h ha)]; exact Nat.le_refl _
  · rw [c1_f ha]; exact Nat.zero_le _
theorem c1_1 (a : Prop) : c1 a ≤ 1 := by
  by_cases ha : a
  · rw [c1_t ha]; exact Nat.le_refl _
  · rw [c1_f ha]; exact Nat.zero_le _
theorem c1_p {a : Prop} (h : 0 < c1 a) : a := Classical.byContradiction fun z => by rw [c1_f z] at h; omega
theorem sm_0 {f : Nat → Nat} {n : Nat} (h : ∀ k, k < n → f k = 0) : fb_sm f n = 0 := by
  rw [fb_sm_cong (g := fun _ => 0) h, fb_sm_const, Nat.mul_zero]
theorem sm_pos {f : Nat → Nat} {n : Nat} (h : 0 < fb_sm f n) : ∃ k, k < n ∧ 0 < f k := Classical.byContradiction fun z => by
  rw [sm_0 (fun k hk => Classical.byContradiction fun y => z ⟨k, hk, by omega⟩)] at h
  omega
theorem sm_at {f : Nat → Nat} {n k : Nat} (h : k < n) : f k ≤ fb_sm f n := by
  have := fb_sm_part f h
  omega
theorem sm_swap (f : Nat → Nat → Nat) (m : Nat) : ∀ n, fb_sm (fun i => fb_sm (fun j => f i j) m) n = fb_sm (fun j => fb_sm (fun i => f i j) n) m
  | 0 => by rw [sm_0 (f := fun j => fb_sm (fun i => f i j) 0) (fun k _ => rfl)]; rfl
  | n + 1 => by
    rw [fb_sm_succ, sm_swap f m n, ← fb_sm_add]
    exact fb_sm_cong (fun k _ => rfl)
theorem sm_eq {f g : Nat → Nat} : ∀ {n : Nat}, (∀ k, k < n → f k ≤ g k) → fb_sm g n ≤ fb_sm f n → ∀ k, k < n → f k = g k := by
  intro n
  induction n with
  | zero => intro _ _ k hk; omega
  | succ n ih =>
    intro h h2 k hk
    have a : fb_sm f n ≤ fb_sm g n := fb_sm_le (fun k hk => h k (by omega))
    have b := h n (by omega)
    rw [fb_sm_succ, fb_sm_succ] at h2
    by_cases e : k = n
    · subst e; omega
    · exact ih (fun k hk => h k (by omega)) (by omega) k (by omega)
theorem sm_pt {n k : Nat} (hk : k < n) (c : Nat) : fb_sm (fun v => if v = k then c else 0) n = c := by
  have h := fb_sm_upd (fun _ => 0) c hk
  rw [sm_0 (f := fun _ => 0) (fun _ _ => rfl)] at h
  try dsimp only at h
  omega
/-- a sum over values, by the least place of each value -/
theorem sm_rep {S : Nat → Prop} {f g : Nat → Nat} {N : Nat} (hf : ∀ p, S p → f p < N) : ∀ n, fb_sm (fun v => ci (∃ p, p < n ∧ S p ∧ f p = v) (g v)) N = fb_sm (fun p => ci (S p ∧ ∀ q, q < p → S q → f q ≠ f p) (g (f p))) n
  | 0 => sm_0 (fun k _ => ci_f (fun ⟨p, hp, _⟩ => absurd hp (Nat.not_lt_zero p)))
  | n + 1 => by
    rw [fb_sm_succ, ← sm_rep hf n]
    by_cases c : S n ∧ ∀ q, q < n → S q → f q ≠ f n
    · rw [ci_t c]
      have e : fb_sm (fun v => if v = f n then g (f n) else 0) N = g (f n) := sm_pt (hf n c.1) _
      rw [← e, ← fb_sm_add]
      refine fb_sm_cong (fun v _ => ?_)
      try dsimp only
      by_cases d : v = f n
      · rw [if_pos d, d, ci_t ⟨n, by omega, c.1, rfl⟩, ci_f (fun ⟨p, h1, h2, h3⟩ => c.2 p h1 h2 h3), Nat.zero_add]
      · rw [if_neg d, Nat.add_zero]
        refine ci_c ⟨fun ⟨p, h1, h2, h3⟩ => ⟨p, ?_, h2, h3⟩, fun ⟨p, h1, h2, h3⟩ => ⟨p, by omega, h2, h3⟩⟩
        have : p ≠ n := fun z => d (by rw [← h3, z])
        omega
    · rw [ci_f c, Nat.add_zero]
      refine fb_sm_cong (fun v _ => ci_c ⟨fun ⟨p, h1, h2, h3⟩ => ?_, fun ⟨p, h1, h2, h3⟩ => ⟨p, by omega, h2, h3⟩⟩)
      by_cases e : p = n
      · subst e
        refine Classical.byContradiction fun z => c ⟨h2, fun q h4 h5 h6 => z ⟨q, h4, h5, h6.trans h3⟩⟩
      · exact ⟨p, by omega, h2, h3⟩
/-- how many plates of S have v on a side -/
noncomputable def od (F : Nat → Nat) (S : Nat → Prop) (v : Nat) : Nat := fb_sm (fun p => c1 (S p ∧ F p = v)) 20
theorem od_pos {F : Nat → Nat} {S : Nat → Prop} {v : Nat} (h : 0 < od F S v) : ∃ p, p < 20 ∧ S p ∧ F p = v := by
  obtain ⟨p, hp, h1⟩ := sm_pos h
  exact ⟨p, hp, c1_p h1⟩
theorem od_ge {F : Nat → Nat} {S : Nat → Prop} {v p : Nat} (hp : p < 20) (h1 : S p) (h2 : F p = v) : 1 ≤ od F S v := by
  have := sm_at (f := fun p => c1 (S p ∧ F p = v)) hp
  try dsimp only at this
  rw [c1_t ⟨h1, h2⟩] at this
  exact this
theorem od_0 {F : Nat → Nat} {S : Nat → Prop} {v : Nat} (h : ∀ p, S p → F p ≠ v) : od F S v = 0 := sm_0 (fun k _ => c1_f (fun z => h k z.1 z.2))
theorem od_c {F : Nat → Nat} {S T : Nat → Prop} {v : Nat} (h : ∀ p, F p = v → (S p ↔ T p)) : od F S v = od F T v :=
  fb_sm_cong (fun k _ => c1_c ⟨fun z => ⟨(h k z.2).mp z.1, z.2⟩, fun z => ⟨(h k z.2).mpr z.1, z.2⟩⟩)
theorem od_le {F : Nat → Nat} {S T : Nat → Prop} {v : Nat} (h : ∀ p, S p → T p) : od F S v ≤ od F T v := fb_sm_le (fun k _ => c1_le (fun z => ⟨h k z.1, z.2⟩))
theorem od_split {F : Nat → Nat} {S T U : Nat → Prop} (h : ∀ p, S p ↔ T p ∨ U p) (h2 : ∀ p, T p → ¬ U p) (v : Nat) : od F S v = od F T v + od F U v := by
  unfold od
  rw [← fb_sm_add]
  refine fb_sm_cong (fun k _ => ?_)
  try dsimp only
  by_cases e : F k = v
  · by_cases t : T k
    · rw [c1_t ⟨(h k).mpr (Or.inl t), e⟩, c1_t ⟨t, e⟩, c1_f (fun z => h2 k t z.1)]
    · by_cases u : U k
      · rw [c1_t ⟨(h k).mpr (Or.inr u), e⟩, c1_f (fun z => t z.1), c1_t ⟨u, e⟩]
      · rw [c1_f (fun z => ((h k).mp z.1).elim t u), c1_f (fun z => t z.1), c1_f (fun z => u z.1)]
  · rw [c1_f (fun z => e z.2), c1_f (fun z => e z.2), c1_f (fun z => e z.2)]
theorem od_one {F : Nat → Nat} {S : Nat → Prop} {p : Nat} (hp : p < 20) (h : S p) (v : Nat) : od F S v = od F (fun q => S q ∧ q ≠ p) v + c1 (F p = v) := by
  rw [od_split (T := fun q => S q ∧ q ≠ p) (U := fun q => q = p) (fun q => ⟨fun z => (Classical.em (q = p)).elim Or.inr (fun y => Or.inl ⟨z, y⟩), fun z => z.elim (fun y => y.1) (fun y => y ▸ h)⟩) (fun q z y => z.2 y) v]
  have e : od F (fun q => q = p) v = c1 (F p = v) := by
    unfold od
    rw [fb_sm_cong (g := fun q => if q = p then c1 (F p = v) else 0) (fun q _ => ?_), sm_pt hp]
    try dsimp only
    by_cases d : q = p
    · rw [if_pos d, d]; exact c1_c ⟨fun z => z.2, fun z => ⟨rfl, z⟩⟩
    · rw [if_neg d, c1_f (fun z => d z.1)]
  rw [e]
theorem od_tot {F : Nat → Nat} {S : Nat → Prop} (h : ∀ p, S p → F p < 300) : fb_sm (od F S) 300 = fb_sm (fun p => c1 (S p)) 20 := by
  have e : od F S = fun v => fb_sm (fun p => c1 (S p ∧ F p = v)) 20 := rfl
  rw [e, sm_swap (fun v p => c1 (S p ∧ F p = v)) 20 300]
  refine fb_sm_cong (fun p _ => ?_)
  by_cases s : S p
  · rw [c1_t s, fb_sm_cong (g := fun v => if v = F p then 1 else 0) (fun v _ => ?_), sm_pt (h p s)]
    try dsimp only
    by_cases d : v = F p
    · rw [if_pos d, c1_t ⟨s, d.symm⟩]
    · rw [if_neg d, c1_f (fun z => d z.2.symm)]
  · rw [c1_f s]; exact sm_0 (fun v _ => c1_f (fun z => s z.1))
section EULER
variable {L R : Nat → Nat}
/-- plates there are, with edges there are -/
def okS (L R : Nat → Nat) (S : Nat → Prop) : Prop := ∀ p, S p → p < 20 ∧ L p < 300 ∧ R p < 300
theorem okS.sub {S T : Nat → Prop} (h : okS L R S) (h2 : ∀ p, T p → S p) : okS L R T := fun p hp => h p (h2 p hp)
theorem od_big {F : Nat → Nat} {S : Nat → Prop} (h : ∀ p, S p → F p < 300) {v : Nat} (hv : 300 ≤ v) : od F S v = 0 := od_0 (fun p hp e => by have := h p hp; omega)
/-- what arrows can't leave, they don't enter from outside either, if outside no edge has more going out than coming in -/
theorem fwd {S V : Nat → Prop} (hS : okS L R S) (hV : ∀ v, ¬ V v → od L S v ≤ od R S v) (hf : ∀ q, S q → V (L q) → V (R q)) : ∀ q, S q → V (R q) → V (L q) := by
  intro q hq hR
  have hle : fb_sm (fun p => c1 (S p ∧ ¬ V (L p))) 20 ≤ fb_sm (fun p => c1 (S p ∧ ¬ V (R p))) 20 := by
    rw [← od_tot (F := L) (S := fun p => S p ∧ ¬ V (L p)) (fun p h => (hS p h.1).2.1), ← od_tot (F := R) (S := fun p => S p ∧ ¬ V (R p)) (fun p h => (hS p h.1).2.2)]
    refine fb_sm_le (fun v _ => ?_)
    by_cases d : V v
    · rw [od_0 (F := L) (fun p h e => h.2 (by rw [e]; exact d))]; exact Nat.zero_le _
    · rw [od_c (F := L) (T := S) (fun p e => ⟨fun z => z.1, fun z => ⟨z, by rw [e]; exact d⟩⟩), od_c (F := R) (T := S) (fun p e => ⟨fun z => z.1, fun z => ⟨z, by rw [e]; exact d⟩⟩)]
      exact hV v d
  have he := sm_eq (f := fun p => c1 (S p ∧ ¬ V (R p))) (g := fun p => c1 (S p ∧ ¬ V (L p))) (n := 20) (fun p _ => c1_le (fun z => ⟨z.1, fun y => z.2 (hf p z.1 y)⟩)) hle q (hS q hq).1
  try dsimp only at he
  refine Classical.byContradiction fun z => ?_
  rw [c1_f (fun y => y.2 hR), c1_t ⟨hq, z⟩] at he
  omega
theorem bal_le {S : Nat → Prop} (hS : okS L R S) (h : ∀ v, od L S v ≤ od R S v) (v : Nat) : od L S v = od R S v := by
  by_cases d : v < 300
  · refine sm_eq (n := 300) (fun k _ => h k) ?_ v d
    rw [od_tot (fun p hp => (hS p hp).2.1), od_tot (fun p hp => (hS p hp).2.2)]
    exact Nat.le_refl _
  · rw [od_big (fun p hp => (hS p hp).2.1) (by omega), od_big (fun p hp => (hS p hp).2.2) (by omega)]
noncomputable def ps (L R : Nat → Nat) (S : Nat → Prop) (v : Nat) : Nat := od L S v - od R S v
noncomputable def st (L R : Nat → Nat) (S : Nat → Prop) : Nat := fb_sm (ps L R S) 300
theorem ps_big {S : Nat → Prop} (hS : okS L R S) {v : Nat} (hv : 300 ≤ v) : ps L R S v = 0 := by
  unfold ps
  rw [od_big (fun p hp => (hS p hp).2.1) hv, Nat.zero_sub]
theorem ps_st {S : Nat → Prop} (hS : okS L R S) (v : Nat) : ps L R S v ≤ st L R S := by
  by_cases d : v < 300
  · exact sm_at d
  · rw [ps_big hS (by omega)]; exact Nat.zero_le _
theorem st_c {S T : Nat → Prop} (h : ∀ p, S p ↔ T p) : st L R S = st L R T := by rw [show S = T from funext fun p => propext (h p)]
theorem bal_st {S : Nat → Prop} (hS : okS L R S) (h : st L R S = 0) (v : Nat) : od L S v = od R S v := by
  refine bal_le hS (fun v => ?_) v
  have := ps_st hS v
  rw [h] at this
  unfold ps at this
  omega
theorem st_0 {S : Nat → Prop} (h : ∀ v, od L S v = od R S v) : st L R S = 0 := sm_0 (fun v _ => by unfold ps; rw [h v, Nat.sub_self])
def clX (L R : Nat → Nat) (S T : Nat → Prop) : Prop := ∀ p q, T p → S q → (R p = L q ∨ L p = R q) → T q
def clR (L R : Nat → Nat) (S T : Nat → Prop) : Prop := ∀ p q, T p → S q → (R p = L q ∨ L p = R q ∨ L p = L q ∨ R p = R q) → T q
theorem clR.X {S T : Nat → Prop} (h : clR L R S T) : clX L R S T := fun p q hp hq e => h p q hp hq (e.elim Or.inl (fun z => Or.inr (Or.inl z)))
theorem clX.co {S T : Nat → Prop} (h : clX L R S T) : clX L R S (fun p => S p ∧ ¬ T p) := fun p q hp hq e => ⟨hq, fun z => hp.2 (h q p z hp.1 (by omega))⟩
theorem clR.co {S T : Nat → Prop} (h : clR L R S T) : clR L R S (fun p => S p ∧ ¬ T p) := fun p q hp hq e => ⟨hq, fun z => hp.2 (h q p z hp.1 (by omega))⟩
theorem clR_bal {S T : Nat → Prop} (hS : okS L R S) (hT : ∀ p, T p → S p) (h : clX L R S T) (hb : ∀ v, od L T v = od R T v) : clR L R S T := by
  intro p q hp hq e
  have hp20 := (hS p (hT p hp)).1
  rcases e with e | e | e | e
  · exact h p q hp hq (Or.inl e)
  · exact h p q hp hq (Or.inr e)
  · have h1 : 1 ≤ od L T (L p) := od_ge hp20 hp rfl
    rw [hb] at h1
    obtain ⟨t, _, ht, h2⟩ := od_pos h1
    exact h t q ht hq (Or.inl (h2.trans e))
  · have h1 : 1 ≤ od R T (R p) := od_ge hp20 hp rfl
    rw [← hb] at h1
    obtain ⟨t, _, ht, h2⟩ := od_pos h1
    exact h t q ht hq (Or.inr (h2.trans e))
theorem ps_split {S T : Nat → Prop} (hT : ∀ p, T p → S p) (h : clX L R S T) (v : Nat) : ps L R S v = ps L R T v + ps L R (fun p => S p ∧ ¬ T p) v := by
  have sp : ∀ F : Nat → Nat, od F S v = od F T v + od F (fun p => S p ∧ ¬ T p) v := fun F => od_split (fun p => ⟨fun z => (Classical.em (T p)).elim Or.inl (fun y => Or.inr ⟨z, y⟩), fun z => z.elim (hT p) (fun y => y.1)⟩) (fun p z y => y.2 z) v
  have a : od L T v = 0 ∨ od R (fun p => S p ∧ ¬ T p) v = 0 := by
    by_cases x : od L T v = 0
    · exact Or.inl x
    · refine Or.inr (od_0 (fun q hq e => ?_))
      obtain ⟨p, _, hp, e2⟩ := od_pos (Nat.pos_of_ne_zero x)
      exact hq.2 (h p q hp hq.1 (Or.inr (e2.trans e.symm)))
  have b : od R T v = 0 ∨ od L (fun p => S p ∧ ¬ T p) v = 0 := by
    by_cases x : od R T v = 0
    · exact Or.inl x
    · refine Or.inr (od_0 (fun q hq e => ?_))
      obtain ⟨p, _, hp, e2⟩ := od_pos (Nat.pos_of_ne_zero x)
      exact hq.2 (h p q hp hq.1 (Or.inl (e2.trans e.symm)))
  unfold ps
  rw [sp L, sp R]
  omega
theorem st_split {S T : Nat → Prop} (hT : ∀ p, T p → S p) (h : clX L R S T) : st L R S = st L R T + st L R (fun p => S p ∧ ¬ T p) := by
  unfold st
  rw [← fb_sm_add]
  exact fb_sm_cong (fun v _ => ps_split hT h v)
theorem clR_one {S T : Nat → Prop} (hS : okS L R S) (hT : ∀ p, T p → S p) (h : clX L R S T) (h1 : st L R S ≤ 1) : clR L R S T := by
  have hs := st_split hT h
  by_cases a : st L R T = 0
  · exact clR_bal hS hT h (bal_st (hS.sub hT) a)
  · have hU : clR L R S (fun p => S p ∧ ¬ T p) := clR_bal hS (fun p z => z.1) h.co (bal_st (hS.sub (fun p z => z.1)) (by omega))
    intro p q hp hq e
    refine Classical.byContradiction fun z => ?_
    exact (hU q p ⟨hq, z⟩ (hT p hp) (by omega)).2 hp
/-- what hangs together -/
def con (L R : Nat → Nat) (S : Nat → Prop) : Prop := ∀ T : Nat → Prop, (∀ p, T p → S p) → clX L R S T → (∃ p, T p) → ∀ p, S p → T p
def conR (L R : Nat → Nat) (S : Nat → Prop) : Prop := ∀ T : Nat → Prop, (∀ p, T p → S p) → clR L R S T → (∃ p, T p) → ∀ p, S p → T p
theorem con.toR {S : Nat → Prop} (h : con L R S) : conR L R S := fun T h1 h2 h3 => h T h1 h2.X h3
theorem conR.X {S : Nat → Prop} (hS : okS L R S) (h1 : st L R S ≤ 1) (h : conR L R S) : con L R S := fun T a b c => h T a (clR_one hS a b h1) c
/-- the counts of a way that begins at edge e -/
def exS (L R : Nat → Nat) (S : Nat → Prop) (e : Nat) : Prop := ∀ v, od L S v ≤ od R S v + c1 (v = e)
theorem exS.sle {S : Nat → Prop} {e : Nat} (h : exS L R S e) : st L R S ≤ 1 := by
  have h1 : ∀ v, ps L R S v ≤ if v = e then 1 else 0 := by
    intro v
    have := h v
    unfold ps
    by_cases d : v = e
    · rw [if_pos d]; rw [c1_t d] at this; omega
    · rw [if_neg d]; rw [c1_f d] at this; omega
  have h2 : st L R S ≤ fb_sm (fun v => if v = e then 1 else 0) 300 := fb_sm_le (fun v _ => h1 v)
  by_cases d : e < 300
  · rw [sm_pt d] at h2; exact h2
  · rw [sm_0 (f := fun v => if v = e then 1 else 0) (fun v hv => if_neg (by omega))] at h2; omega
theorem exS.rm {S : Nat → Prop} {e p : Nat} (h : exS L R S e) (hp : p < 20) (hS : S p) (he : L p = e) : exS L R (fun q => S q ∧ q ≠ p) (R p) := by
  intro v
  have := h v
  rw [od_one hp hS, od_one hp hS, c1_c (show (L p = v ↔ v = e) from ⟨fun z => by omega, fun z => by omega⟩), c1_c (show (R p = v ↔ v = R p) from eq_comm)] at this
  omega
theorem exS.back {S : Nat → Prop} {p : Nat} (hp : p < 20) (hS : S p) (h : exS L R (fun q => S q ∧ q ≠ p) (R p)) : exS L R S (L p) := by
  intro v
  have := h v
  rw [od_one hp hS, od_one hp hS, c1_c (show (L p = v ↔ v = L p) from eq_comm), c1_c (show (R p = v ↔ v = R p) from eq_comm)]
  omega
theorem st_ex {S : Nat → Prop} {e : Nat} (hS : okS L R S) (h1 : st L R S ≤ 1) (h : 0 < ps L R S e) : exS L R S e := by
  intro v
  by_cases d : v = e
  · rw [c1_t d]
    have := ps_st hS v
    unfold ps at this
    omega
  · rw [c1_f d]
    have he : e < 300 := Nat.lt_of_not_le fun z => by rw [ps_big hS z] at h; omega
    by_cases hv : v < 300
    · have h2 := fb_sm_upd (ps L R S) 0 he
      have h3 := sm_at (f := fun k => if k = e then 0 else ps L R S k) hv
      try dsimp only at h3
      rw [if_neg d] at h3
      have h4 : fb_sm (ps L R S) 300 ≤ 1 := h1
      have h5 : ps L R S v = 0 := by omega
      unfold ps at h5
      omega
    · rw [od_big (fun p hp => (hS p hp).2.1) (by omega)]; exact Nat.zero_le _
theorem st0_ex {S : Nat → Prop} (hS : okS L R S) (h : st L R S = 0) (e : Nat) : exS L R S e := fun v => by rw [bal_st hS h v]; omega
/-- there is a row of S from edge e on -/
def rf (L R : Nat → Nat) (S : Nat → Prop) (e : Nat) : Prop := (∀ p, ¬ S p) ∨ (con L R S ∧ exS L R S e ∧ ∃ q, S q ∧ L q = e)
def rch (L R : Nat → Nat) (S : Nat → Prop) (p v : Nat) : Prop := ∀ V : Nat → Prop, V (R p) → (∀ q, S q → q ≠ p → V (L q) → V (R q)) → V v
theorem good_or {S : Nat → Prop} {e p : Nat} (hS : okS L R S) (hc : con L R S) (hx : exS L R S e) (hp : S p) (he : L p = e) :
    rf L R (fun q => S q ∧ q ≠ p) (R p) ∨ (¬ rch L R S p e ∧ ∃ T : Nat → Prop, (∀ q, T q → S q ∧ q ≠ p) ∧ (∀ v, od L T v = od R T v) ∧ ∃ q, T q ∧ L q = e) := by
  have hp20 := (hS p hp).1
  have hS' : okS L R (fun q => S q ∧ q ≠ p) := hS.sub (fun q z => z.1)
  have hx' := hx.rm hp20 hp he
  have v0 : rch L R S p (R p) := fun V h0 _ => h0
  have vf : ∀ q, (S q ∧ q ≠ p) → rch L R S p (L q) → rch L R S p (R q) := fun q hq h V h0 h1 => h1 q hq.1 hq.2 (h V h0 h1)
  have vb := fwd hS' (V := rch L R S p) (fun v hv => by
    have := hx' v
    rw [c1_f (fun z => hv (by rw [z]; exact v0))] at this
    omega) vf
  by_cases hT : ∃ q, (S q ∧ q ≠ p) ∧ ¬ rch L R S p (L q)
  · right
    have hnX : ¬ clX L R S (fun q => (S q ∧ q ≠ p) ∧ ¬ rch L R S p (L q)) := fun z => (hc _ (fun q y => y.1.1) z hT p hp).1.2 rfl
    obtain ⟨p1, h1, q1, h2, h3, h4⟩ : ∃ p1, ((S p1 ∧ p1 ≠ p) ∧ ¬ rch L R S p (L p1)) ∧ ∃ q, S q ∧ (R p1 = L q ∨ L p1 = R q) ∧ ¬ ((S q ∧ q ≠ p) ∧ ¬ rch L R S p (L q)) :=
      Classical.byContradiction fun z => hnX (fun a b ha hb hab => Classical.byContradiction fun y => z ⟨a, ha, b, hb, hab, y⟩)
    have hR1 : ¬ rch L R S p (R p1) := fun z => h1.2 (vb p1 h1.1 z)
    have hq1 : q1 = p := Classical.byContradiction fun y => by
      refine h4 ⟨⟨h2, y⟩, fun z => ?_⟩
      rcases h3 with h3 | h3
      · exact hR1 (by rw [h3]; exact z)
      · exact h1.2 (by rw [h3]; exact vf q1 ⟨h2, y⟩ z)
    rw [hq1] at h3
    have hRe : R p1 = e := by
      rcases h3 with h3 | h3
      · exact h3.trans he
      · exact absurd (by rw [h3]; exact v0) h1.2
    have hb : ∀ v, od L (fun q => (S q ∧ q ≠ p) ∧ ¬ rch L R S p (L q)) v = od R (fun q => (S q ∧ q ≠ p) ∧ ¬ rch L R S p (L q)) v := by
      refine bal_le (hS.sub (fun q z => z.1.1)) (fun v => ?_)
      by_cases d : rch L R S p v
      · rw [od_0 (F := L) (fun q hq y => hq.2 (by rw [y]; exact d))]; exact Nat.zero_le _
      · rw [od_c (F := R) (T := fun q => S q ∧ q ≠ p) (fun q y => ⟨fun z => z.1, fun z => ⟨z, fun w => d (by rw [← y]; exact vf q z w)⟩⟩)]
        have h6 := hx' v
        rw [c1_f (fun z => d (by rw [z]; exact v0))] at h6
        exact Nat.le_trans (od_le (fun q z => z.1)) h6
    have g : 1 ≤ od R (fun q => (S q ∧ q ≠ p) ∧ ¬ rch L R S p (L q)) e := od_ge (hS p1 h1.1.1).1 h1 hRe
    rw [← hb] at g
    obtain ⟨t, _, ht, ht2⟩ := od_pos g
    exact ⟨by rw [← hRe]; exact hR1, fun q => (S q ∧ q ≠ p) ∧ ¬ rch L R S p (L q), fun q z => z.1, hb, t, ht, ht2⟩
  · left
    have hall : ∀ q, (S q ∧ q ≠ p) → rch L R S p (L q) := fun q hq => Classical.byContradiction fun z => hT ⟨q, hq, z⟩
    by_cases hE : ∀ q, ¬ (S q ∧ q ≠ p)
    · exact Or.inl hE
    obtain ⟨q0, hq0⟩ : ∃ q, S q ∧ q ≠ p := Classical.byContradiction fun z => hE (fun q hq => z ⟨q, hq⟩)
    obtain ⟨q1, hq1, e1⟩ : ∃ q, (S q ∧ q ≠ p) ∧ L q = R p := Classical.byContradiction fun z => by
      have := hall q0 hq0 (fun v => v = R p) rfl (fun q hq hqp hv => absurd ⟨q, ⟨hq, hqp⟩, hv⟩ z)
      exact z ⟨q0, hq0, this⟩
    have key : ∀ T : Nat → Prop, clR L R (fun q => S q ∧ q ≠ p) T → T q1 → ∀ q, (S q ∧ q ≠ p) → T q := by
      intro T hcl h1 q hq
      have cl2 : ∀ q, (S q ∧ q ≠ p) → (L q = R p ∨ ∃ t, T t ∧ R t = L q) → T q := by
        intro q hq h
        rcases h with h | ⟨t, ht, h⟩
        · exact hcl q1 q h1 hq (Or.inr (Or.inr (Or.inl (e1.trans h.symm))))
        · exact hcl t q ht hq (Or.inl h)
      exact cl2 q hq (hall q hq (fun v => v = R p ∨ ∃ t, T t ∧ R t = v) (Or.inl rfl) (fun q2 h2 h3 h4 => Or.inr ⟨q2, cl2 q2 ⟨h2, h3⟩ h4, rfl⟩))
    refine Or.inr ⟨fun T hT1 hT2 hT3 => ?_, hx', q1, hq1, e1⟩
    have hcl := clR_one hS' hT1 hT2 hx'.sle
    by_cases d : T q1
    · exact key T hcl d
    · obtain ⟨t, ht⟩ := hT3
      exact absurd ht (key _ hcl.co ⟨hq1, d⟩ t (hT1 t ht)).2
/-- where a row can begin, there is a plate with which it can go on -/
theorem fleury {S : Nat → Prop} {e q0 : Nat} (hS : okS L R S) (hc : con L R S) (hx : exS L R S e) (h0 : S q0) (he : L q0 = e) : ∃ p, S p ∧ L p = e ∧ rf L R (fun q => S q ∧ q ≠ p) (R p) := by
  rcases good_or hS hc hx h0 he with h | ⟨_, T, h1, h2, p, h3, h4⟩
  · exact ⟨q0, h0, he, h⟩
  rcases good_or hS hc hx (h1 p h3).1 h4 with h | ⟨h5, _⟩
  · exact ⟨p, (h1 p h3).1, h4, h⟩
  refine absurd ?_ h5
  have := fwd (hS.sub (fun q z => (h1 q z).1)) (V := rch L R S p) (fun v _ => Nat.le_of_eq (h2 v)) (fun q hq hv => by
    by_cases d : q = p
    · subst d; exact absurd (by rw [← h4]; exact hv) h5
    · exact fun V a b => b q (h1 q hq).1 d (hv V a b)) p h3 (fun V a _ => a)
  rw [← h4]; exact this
end EULER
