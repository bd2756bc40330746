/-! STEPS: how a row goes on; the first row of a set; a ring -/
section STEPS
variable {L R : Nat → Nat}
/-- plate p can be the next one behind edge e (0: the first one) -/
def nxR (L R : Nat → Nat) (S : Nat → Prop) (e p : Nat) : Prop := S p ∧ (e = 0 ∨ L p = e) ∧ rf L R (fun q => S q ∧ q ≠ p) (R p)
/-- all others can follow p, as far as the class looks -/
def gon (L R : Nat → Nat) (S : Nat → Prop) (p : Nat) : Prop := (∀ q, ¬ (S q ∧ q ≠ p)) ∨ ((∃ q, (S q ∧ q ≠ p) ∧ L q = R p) ∧ con L R (fun q => S q ∧ q ≠ p))
theorem gon_rf {S : Nat → Prop} {e p : Nat} (hS : okS L R S) (hx : exS L R S e) (hp : S p) (he : L p = e) : gon L R S p ↔ rf L R (fun q => S q ∧ q ≠ p) (R p) := by
  have hx' := hx.rm (hS p hp).1 hp he
  exact ⟨fun h => h.elim Or.inl (fun z => Or.inr ⟨z.2, hx', z.1⟩), fun h => h.elim Or.inl (fun z => Or.inr ⟨z.2.2, z.1⟩)⟩
/-- the plates with which a row of all can begin, as far as counting tells -/
def fpl (L R : Nat → Nat) (S : Nat → Prop) (p : Nat) : Prop := S p ∧ (st L R S = 0 ∨ 0 < ps L R S (L p))
theorem rf_ex {S : Nat → Prop} {e : Nat} (h : rf L R S e) : exS L R S e := by
  rcases h with h | h
  · intro v; rw [od_0 (F := L) (fun p hp => absurd hp (h p))]; exact Nat.zero_le _
  · exact h.2.1
theorem nx_first {S : Nat → Prop} {p : Nat} (hS : okS L R S) (h1 : st L R S ≤ 1) : (fpl L R S p ∧ gon L R S p) ↔ nxR L R S 0 p := by
  constructor
  · rintro ⟨⟨hp, hf⟩, hg⟩
    have hx : exS L R S (L p) := hf.elim (fun z => st0_ex hS z _) (fun z => st_ex hS h1 z)
    exact ⟨hp, Or.inl rfl, (gon_rf hS hx hp rfl).mp hg⟩
  · rintro ⟨hp, _, hr⟩
    have hx : exS L R S (L p) := (rf_ex hr).back (hS p hp).1 hp
    refine ⟨⟨hp, ?_⟩, (gon_rf hS hx hp rfl).mpr hr⟩
    by_cases d : st L R S = 0
    · exact Or.inl d
    · obtain ⟨v, _, hv⟩ := sm_pos (show 0 < fb_sm (ps L R S) 300 from Nat.pos_of_ne_zero d)
      have e : v = L p := Classical.byContradiction fun z => by
        have := hx v
        rw [c1_f z] at this
        unfold ps at hv
        omega
      exact Or.inr (e ▸ hv)
theorem nx_next {S : Nat → Prop} {e p : Nat} (hS : okS L R S) (he0 : e ≠ 0) (hx : exS L R S e) : (S p ∧ L p = e ∧ gon L R S p) ↔ nxR L R S e p := by
  constructor
  · rintro ⟨hp, he, hg⟩
    exact ⟨hp, Or.inr he, (gon_rf hS hx hp he).mp hg⟩
  · rintro ⟨hp, he, hr⟩
    have he : L p = e := he.elim (fun z => absurd z he0) id
    exact ⟨hp, he, (gon_rf hS hx hp he).mpr hr⟩
/-- S can be put in a row, first or from edge e on -/
def can (L R : Nat → Nat) (S : Nat → Prop) (e : Nat) : Prop := (e = 0 ∧ con L R S ∧ st L R S ≤ 1) ∨ (e ≠ 0 ∧ rf L R S e)
theorem nx_some {S : Nat → Prop} {e q0 : Nat} (hS : okS L R S) (h : can L R S e) (h0 : S q0) : ∃ p, nxR L R S e p := by
  rcases h with ⟨rfl, hc, h1⟩ | ⟨_, hr⟩
  · by_cases d : st L R S = 0
    · obtain ⟨p, h2, _, h4⟩ := fleury hS hc (st0_ex hS d (L q0)) h0 rfl
      exact ⟨p, h2, Or.inl rfl, h4⟩
    · obtain ⟨v, _, hv⟩ := sm_pos (show 0 < fb_sm (ps L R S) 300 from Nat.pos_of_ne_zero d)
      have hv2 : 0 < od L S v := by unfold ps at hv; omega
      obtain ⟨q, _, hq, e⟩ := od_pos hv2
      obtain ⟨p, h2, _, h4⟩ := fleury hS hc (st_ex hS h1 hv) hq e
      exact ⟨p, h2, Or.inl rfl, h4⟩
  · rcases hr with hr | ⟨h1, h2, q, hq, e1⟩
    · exact absurd h0 (hr q0)
    · obtain ⟨p, h3, h4, h5⟩ := fleury hS h1 h2 hq e1
      exact ⟨p, h3, Or.inr h4, h5⟩
theorem nx_can {S : Nat → Prop} {e p : Nat} (hR : R p ≠ 0) (h : nxR L R S e p) : can L R (fun q => S q ∧ q ≠ p) (R p) := Or.inr ⟨hR, h.2.2⟩
/-- what is left of S behind the first k plates of a -/
def rs (S : Nat → Prop) (a : Nat → Nat) (k : Nat) : Nat → Prop := fun p => S p ∧ ∀ j, j < k → a j ≠ p
def eg (R : Nat → Nat) (a : Nat → Nat) (k : Nat) : Nat := if k = 0 then 0 else R (a (k - 1))
/-- a's first k plates are those of the first row of S -/
def sq (L R : Nat → Nat) (S : Nat → Prop) (k : Nat) (a : Nat → Nat) : Prop := ∀ i, i < k → nxR L R (rs S a i) (eg R a i) (a i) ∧ ∀ p, p < a i → ¬ nxR L R (rs S a i) (eg R a i) p
theorem rs_c {S : Nat → Prop} {a b : Nat → Nat} {k : Nat} (h : ∀ j, j < k → a j = b j) : rs S a k = rs S b k := funext fun p => propext ⟨fun z => ⟨z.1, fun j hj => h j hj ▸ z.2 j hj⟩, fun z => ⟨z.1, fun j hj => (h j hj).symm ▸ z.2 j hj⟩⟩
theorem eg_c {a b : Nat → Nat} {k : Nat} (h : ∀ j, j < k → a j = b j) : eg R a k = eg R b k := by
  unfold eg
  by_cases d : k = 0
  · rw [if_pos d, if_pos d]
  · rw [if_neg d, if_neg d, h (k - 1) (by omega)]
theorem rs_0 (S : Nat → Prop) (a : Nat → Nat) : rs S a 0 = S := funext fun p => propext ⟨fun z => z.1, fun z => ⟨z, fun j hj => absurd hj (Nat.not_lt_zero j)⟩⟩
theorem rs_s (S : Nat → Prop) (a : Nat → Nat) (k : Nat) : rs S a (k + 1) = fun q => rs S a k q ∧ q ≠ a k := funext fun p => propext ⟨fun z => ⟨⟨z.1, fun j hj => z.2 j (by omega)⟩, fun y => z.2 k (by omega) y.symm⟩, fun z => ⟨z.1.1, fun j hj => by
  by_cases d : j = k
  · rw [d]; exact fun y => z.2 y.symm
  · exact z.1.2 j (by omega)⟩⟩
theorem sq_c {S : Nat → Prop} {a b : Nat → Nat} {k : Nat} (h : ∀ j, j < k → a j = b j) (hs : sq L R S k a) : sq L R S k b := by
  intro i hi
  rw [← rs_c (S := S) (fun j hj => h j (by omega)), ← eg_c (R := R) (fun j hj => h j (by omega)), ← h i hi]
  exact hs i hi
/-- one plate more -/
theorem sq_s {S : Nat → Prop} {a : Nat → Nat} {k p : Nat} (hs : sq L R S k a) (h1 : nxR L R (rs S a k) (eg R a k) p) (h2 : ∀ q, q < p → ¬ nxR L R (rs S a k) (eg R a k) q) : sq L R S (k + 1) (fun i => if i = k then p else a i) ∧ rs S (fun i => if i = k then p else a i) (k + 1) = (fun q => rs S a k q ∧ q ≠ p) := by
  have e : ∀ j, j < k → a j = (fun i => if i = k then p else a i) j := fun j hj => (if_neg (by omega)).symm
  have ek : (fun i => if i = k then p else a i) k = p := if_pos rfl
  refine ⟨fun i hi => ?_, ?_⟩
  · by_cases d : i = k
    · subst d
      rw [← rs_c (S := S) e, ← eg_c (R := R) e, ek]
      exact ⟨h1, h2⟩
    · exact sq_c e hs i (by omega)
  · rw [rs_s, ← rs_c (S := S) e]
    funext q
    rw [if_pos rfl]
theorem eg_s {a : Nat → Nat} {k p : Nat} : eg R (fun i => if i = k then p else a i) (k + 1) = R p := by
  unfold eg
  rw [if_neg (by omega)]
  show R (if k + 1 - 1 = k then p else _) = _
  rw [if_pos (by omega)]
theorem sq_one {S : Nat → Prop} {a b : Nat → Nat} {n m : Nat} (ha : sq L R S n a) (hb : sq L R S m b) (na : ∀ p, ¬ rs S a n p) (nb : ∀ p, ¬ rs S b m p) : n = m ∧ ∀ k, k < n → a k = b k := by
  have key : ∀ k, k < n → k < m → a k = b k := by
    intro k
    induction k using Nat.strongRecOn with
    | ind k ih =>
      intro h1 h2
      have e : ∀ j, j < k → a j = b j := fun j hj => ih j hj (by omega) (by omega)
      have x := ha k h1
      rw [rs_c (S := S) e, eg_c (R := R) e] at x
      have y := hb k h2
      exact fb_first_one x.1 x.2 y.1 y.2
  have hnm : n = m := by
    rcases Nat.lt_trichotomy n m with h | h | h
    · have y := (hb n h).1.1
      rw [← rs_c (S := S) (fun j hj => key j hj (by omega))] at y
      exact absurd y (na _)
    · exact h
    · have y := (ha m h).1.1
      rw [rs_c (S := S) (fun j hj => key j (by omega) hj)] at y
      exact absurd y (nb _)
  exact ⟨hnm, fun k hk => key k hk (by omega)⟩
theorem sq_tel {S : Nat → Prop} {a : Nat → Nat} {n : Nat} (hS : okS L R S) (hR : ∀ p, S p → R p ≠ 0) (hs : sq L R S n a) (v : Nat) : ∀ k, k + 1 ≤ n → od L S v + od R (rs S a (k + 1)) v + c1 (R (a k) = v) = od R S v + od L (rs S a (k + 1)) v + c1 (L (a 0) = v)
  | 0 => fun hk => by
    have h := (hs 0 hk).1.1
    rw [rs_0] at h
    rw [rs_s, rs_0, od_one (hS _ h).1 h v (F := L), od_one (hS _ h).1 h v (F := R)]
    omega
  | k + 1 => fun hk => by
    have ih := sq_tel hS hR hs v k (by omega)
    obtain ⟨h, he, _⟩ := (hs (k + 1) (by omega)).1
    have hk0 := (hs k (by omega)).1.1
    have e : L (a (k + 1)) = R (a k) := he.elim (fun z => absurd z (hR (a k) hk0.1)) id
    have h20 := (hS _ h.1).1
    rw [od_one h20 h v (F := L), od_one h20 h v (F := R), e] at ih
    rw [rs_s S a (k + 1)]
    omega
/-- the row of S is a ring, if no plate needs to be the first -/
theorem sq_ring {S : Nat → Prop} {a : Nat → Nat} {n : Nat} (hS : okS L R S) (hR : ∀ p, S p → R p ≠ 0) (hs : sq L R S (n + 1) a) (hn : ∀ p, ¬ rs S a (n + 1) p) : st L R S = 0 ↔ R (a n) = L (a 0) := by
  have t : ∀ v, od L S v + c1 (R (a n) = v) = od R S v + c1 (L (a 0) = v) := by
    intro v
    have := sq_tel hS hR hs v n (Nat.le_refl _)
    rw [od_0 (F := L) (fun p hp => absurd hp (hn p)), od_0 (F := R) (fun p hp => absurd hp (hn p))] at this
    omega
  constructor
  · intro h
    have := t (L (a 0))
    rw [bal_st hS h, c1_t (show L (a 0) = L (a 0) from rfl)] at this
    exact c1_p (by omega)
  · intro h
    refine st_0 (fun v => ?_)
    have := t v
    rw [h] at this
    omega
end STEPS
