/-! GRAPH: limits (tail, head, len): the time at head is not above that at tail and len; between them the bounds (0, 100000, a motif's order), closed: bd; a walk is a list of limits -/
abbrev gL : Type := Nat × Nat × Int
def bd (u v : Nat) : Int := if u = v ∨ v = 0 ∨ (u = v + 1 ∧ 21 ≤ v ∧ v % 2 = 1) then 0 else 100000
theorem bd_self (u : Nat) : bd u u = 0 := by simp [bd]
theorem bd_to0 (u : Nat) : bd u 0 = 0 := by simp [bd]
theorem bd_nn (u v : Nat) : 0 ≤ bd u v := by unfold bd; split <;> omega
theorem bd_le (u v : Nat) : bd u v ≤ 100000 := by unfold bd; split <;> omega
theorem bd_tri (u v w : Nat) : bd u w ≤ bd u v + bd v w := by
  unfold bd
  split <;> split <;> split <;> omega
def wt (u : Nat) : List gL → Nat → Int
  | [], v => bd u v
  | a :: l, v => bd u a.1 + a.2.2 + wt a.2.1 l v
theorem wt_cat : ∀ (p : List gL) (u : Nat) (a : gL) (l : List gL) (v : Nat), wt u (p ++ a :: l) v = wt u p a.1 + a.2.2 + wt a.2.1 l v
  | [], u, a, l, v => by simp [wt]
  | b :: p, u, a, l, v => by
    have h := wt_cat p b.2.1 a l v
    simp only [List.cons_append, wt]
    omega
theorem wt_last : ∀ (l : List gL) (u v w : Nat), wt u l v ≤ wt u l w + bd w v
  | [], u, v, w => bd_tri u w v
  | a :: l, u, v, w => by
    have h := wt_last l a.2.1 v w
    simp only [wt]
    omega
theorem wt_first (l : List gL) (u v w : Nat) : wt u l v ≤ bd u w + wt w l v := by
  cases l with
  | nil => exact bd_tri u w v
  | cons a l =>
    have h := bd_tri u w a.1
    simp only [wt]
    omega
def subL (L l : List gL) : Prop := ∀ a ∈ l, a ∈ L
theorem subL_nil (L : List gL) : subL L [] := fun a h => by cases h
theorem subL_app {L p q : List gL} : subL L (p ++ q) ↔ subL L p ∧ subL L q :=
  ⟨fun h => ⟨fun a ha => h a (List.mem_append_left _ ha), fun a ha => h a (List.mem_append_right _ ha)⟩, fun h a ha => (List.mem_append.mp ha).elim (h.1 a) (h.2 a)⟩
theorem subL_cons {L q : List gL} {a : gL} : subL L (a :: q) ↔ a ∈ L ∧ subL L q :=
  ⟨fun h => ⟨h a List.mem_cons_self, fun b hb => h b (List.mem_cons_of_mem _ hb)⟩, fun h b hb => (List.mem_cons.mp hb).elim (fun e => e ▸ h.1) (h.2 b)⟩
def okL (L : List gL) : Prop := ∀ a ∈ L, a.1 < 53 ∧ a.2.1 < 53
def potL (L : List gL) (f : Nat → Int) : Prop := (∀ u v, u < 53 → v < 53 → f v ≤ f u + bd u v) ∧ ∀ a ∈ L, f a.2.1 ≤ f a.1 + a.2.2
theorem pot_wt {L : List gL} {f : Nat → Int} (hok : okL L) (hp : potL L f) : ∀ (l : List gL) (u v : Nat), subL L l → u < 53 → v < 53 → f v ≤ f u + wt u l v
  | [], u, v, _, hu, hv => hp.1 u v hu hv
  | a :: l, u, v, hs, hu, hv => by
    obtain ⟨h1, h2⟩ := subL_cons.mp hs
    obtain ⟨k1, k2⟩ := hok a h1
    have i1 := pot_wt hok hp l a.2.1 v h2 k2 hv
    have i2 := hp.2 a h1
    have i3 := hp.1 u a.1 hu k1
    simp only [wt]
    omega
def noneg (L : List gL) : Prop := ∀ (u : Nat) (l : List gL), u < 53 → subL L l → 0 ≤ wt u l u
theorem pot_noneg {L : List gL} {f : Nat → Int} (hok : okL L) (hp : potL L f) : noneg L := fun u l hu hl => by
  have := pot_wt hok hp l u u hl hu hu
  omega
theorem wt_cut {u v : Nat} {p q r : List gL} {a b : gL} (h : a.2.1 = b.2.1) : wt u (p ++ a :: (q ++ b :: r)) v = wt u (p ++ a :: r) v + wt a.2.1 (q ++ [b]) a.2.1 := by
  rw [wt_cat, wt_cat, wt_cat, wt_cat]
  simp only [wt]
  rw [h, bd_self]
  omega
theorem two_at {α : Type} (l : List α) {i j : Nat} (hij : i < j) (hj : j < l.length) : ∃ p q r : List α, l = p ++ l[i] :: (q ++ l[j] :: r) := by
  refine ⟨l.take i, (l.drop (i + 1)).take (j - i - 1), l.drop (j + 1), ?_⟩
  have h1 : l.drop i = l[i] :: l.drop (i + 1) := List.drop_eq_getElem_cons (by omega)
  have h2 : l.drop j = l[j] :: l.drop (j + 1) := List.drop_eq_getElem_cons hj
  have h3 : (l.drop (i + 1)).drop (j - i - 1) = l.drop j := by rw [List.drop_drop]; congr 1; omega
  rw [← h2, ← h3, List.take_append_drop, ← h1, List.take_append_drop]
/-- many limits: two of them have one head -/
theorem wt_dup {L l : List gL} {lo m : Nat} (hh : ∀ a ∈ l, lo ≤ a.2.1 ∧ a.2.1 < lo + m) (hm : m < l.length) (hs : subL L l) : ∃ (p q r : List gL) (a b : gL), l = p ++ a :: (q ++ b :: r) ∧ a.2.1 = b.2.1 ∧ subL L (p ++ a :: r) ∧ subL L (q ++ [b]) ∧ a ∈ L := by
  obtain ⟨i, j, hij, hj, he⟩ := fb_twice (m := m) (n := l.length) (f := fun i => (l[i]?.map (fun a => a.2.1 - lo)).getD 0) (fun i hi => by
    simp only [List.getElem?_eq_getElem hi, Option.map_some, Option.getD_some]
    have := hh _ (List.getElem_mem hi)
    omega) hm
  simp only [List.getElem?_eq_getElem hj, List.getElem?_eq_getElem (show i < l.length by omega), Option.map_some, Option.getD_some] at he
  obtain ⟨p, q, r, e⟩ := two_at l hij hj
  have k1 := hh _ (List.getElem_mem hj)
  have k2 := hh _ (List.getElem_mem (show i < l.length by omega))
  have hs2 := hs
  rw [e] at hs2
  obtain ⟨s1, s2⟩ := subL_app.mp hs2
  obtain ⟨s3, s4⟩ := subL_cons.mp s2
  obtain ⟨s5, s6⟩ := subL_app.mp s4
  obtain ⟨s7, s8⟩ := subL_cons.mp s6
  exact ⟨p, q, r, l[i], l[j], e, by omega, subL_app.mpr ⟨s1, subL_cons.mpr ⟨s3, s8⟩⟩, subL_app.mpr ⟨s5, subL_cons.mpr ⟨s7, subL_nil L⟩⟩, s3⟩
theorem wt_short {L : List gL} (hok : okL L) (hn : noneg L) (u v : Nat) : ∀ (n : Nat) (l : List gL), l.length ≤ n → subL L l → ∃ l', subL L l' ∧ l'.length ≤ 53 ∧ wt u l' v ≤ wt u l v := by
  intro n
  induction n with
  | zero => intro l hl hs; exact ⟨l, hs, by omega, Int.le_refl _⟩
  | succ n ih =>
    intro l hl hs
    by_cases h : l.length ≤ 53
    · exact ⟨l, hs, h, Int.le_refl _⟩
    · obtain ⟨p, q, r, a, b, e, hab, s1, s2, ha⟩ := wt_dup (lo := 0) (m := 53) (fun a ha => ⟨Nat.zero_le _, by have := (hok a (hs a ha)).2; omega⟩) (by omega) hs
      obtain ⟨l', t1, t2, t3⟩ := ih (p ++ a :: r) (by rw [e] at hl; simp only [List.length_append, List.length_cons] at hl ⊢; omega) s1
      refine ⟨l', t1, t2, ?_⟩
      have h0 := hn a.2.1 (q ++ [b]) (hok a ha).2 s2
      rw [e, wt_cut hab]
      omega
theorem fmin_le (f : gL → Int) : ∀ (l : List gL) (x : Int), l.foldl (fun acc a => min acc (f a)) x ≤ x ∧ ∀ a ∈ l, l.foldl (fun acc a => min acc (f a)) x ≤ f a
  | [], x => ⟨Int.le_refl _, fun a h => by cases h⟩
  | b :: l, x => by
    obtain ⟨h1, h2⟩ := fmin_le f l (min x (f b))
    refine ⟨by simp only [List.foldl_cons]; omega, fun a ha => ?_⟩
    rcases List.mem_cons.mp ha with rfl | h
    · simp only [List.foldl_cons]; omega
    · simp only [List.foldl_cons]; exact h2 a h
theorem fmin_at (f : gL → Int) : ∀ (l : List gL) (x : Int), l.foldl (fun acc a => min acc (f a)) x = x ∨ ∃ a ∈ l, l.foldl (fun acc a => min acc (f a)) x = f a
  | [], x => Or.inl rfl
  | b :: l, x => by
    simp only [List.foldl_cons]
    rcases fmin_at f l (min x (f b)) with h | ⟨a, ha, h⟩
    · rw [h]
      by_cases hc : x ≤ f b
      · exact Or.inl (by omega)
      · exact Or.inr ⟨b, List.mem_cons_self, by omega⟩
    · exact Or.inr ⟨a, List.mem_cons_of_mem _ ha, h⟩
/-- the least weight of a walk with at most n limits -/
def dm (L : List gL) (s : Nat) : Nat → Nat → Int
  | 0 => fun v => bd s v
  | n + 1 => fun v => L.foldl (fun acc a => min acc (dm L s n a.1 + a.2.2 + bd a.2.1 v)) (dm L s n v)
theorem dm_step_le (L : List gL) (s n v : Nat) : dm L s (n + 1) v ≤ dm L s n v := (fmin_le (fun a => dm L s n a.1 + a.2.2 + bd a.2.1 v) L (dm L s n v)).1
theorem dm_at (L : List gL) (s : Nat) : ∀ (n v : Nat), ∃ l, subL L l ∧ l.length ≤ n ∧ wt s l v = dm L s n v := by
  intro n
  induction n with
  | zero => intro v; exact ⟨[], subL_nil L, Nat.le_refl _, rfl⟩
  | succ n ih =>
    intro v
    rcases fmin_at (fun a => dm L s n a.1 + a.2.2 + bd a.2.1 v) L (dm L s n v) with h | ⟨a, ha, h⟩
    · obtain ⟨l, h1, h2, h3⟩ := ih v
      exact ⟨l, h1, by omega, h3.trans h.symm⟩
    · obtain ⟨l, h1, h2, h3⟩ := ih a.1
      refine ⟨l ++ [a], subL_app.mpr ⟨h1, subL_cons.mpr ⟨ha, subL_nil L⟩⟩, by simp; omega, ?_⟩
      rw [wt_cat, h3]
      exact h.symm
theorem dm_le (L : List gL) (s : Nat) : ∀ (n : Nat) (l : List gL) (v : Nat), subL L l → l.length ≤ n → dm L s n v ≤ wt s l v := by
  intro n
  induction n with
  | zero =>
    intro l v hs hl
    have : l = [] := List.length_eq_zero_iff.mp (by omega)
    subst this
    exact Int.le_refl _
  | succ n ih =>
    intro l v hs hl
    rcases List.eq_nil_or_concat l with rfl | ⟨l0, a, rfl⟩
    · exact Int.le_trans (dm_step_le L s n v) (ih [] v (subL_nil L) (Nat.zero_le _))
    · rw [List.concat_eq_append] at *
      obtain ⟨h1, h2⟩ := subL_app.mp hs
      have h3 := ih l0 a.1 h1 (by simp at hl; omega)
      have h4 := (fmin_le (fun a => dm L s n a.1 + a.2.2 + bd a.2.1 v) L (dm L s n v)).2 a (h2 a List.mem_cons_self)
      rw [wt_cat]
      have h5 : dm L s (n + 1) v ≤ dm L s n a.1 + a.2.2 + bd a.2.1 v := h4
      simp only [wt]
      omega
theorem noneg_pot {L : List gL} (hok : okL L) (hn : noneg L) : potL L (dm L 0 53) := by
  refine ⟨fun u v hu hv => ?_, fun a ha => ?_⟩
  · obtain ⟨l, h1, h2, h3⟩ := dm_at L 0 53 u
    have h4 := dm_le L 0 53 l v h1 h2
    have h5 := wt_last l 0 v u
    omega
  · obtain ⟨l, h1, h2, h3⟩ := dm_at L 0 53 a.1
    obtain ⟨l', t1, t2, t3⟩ := wt_short hok hn 0 a.2.1 _ (l ++ [a]) (Nat.le_refl _) (subL_app.mpr ⟨h1, subL_cons.mpr ⟨ha, subL_nil L⟩⟩)
    have h4 := dm_le L 0 53 l' a.2.1 t1 t2
    rw [wt_cat] at t3
    simp only [wt, bd_self] at t3
    omega
/-- n is the number of limits of a quarrel: a closed walk below 0 has n, none has fewer -/
def isQ (L : List gL) (n : Nat) : Prop := (∃ (u : Nat) (l : List gL), u < 53 ∧ subL L l ∧ l.length = n ∧ wt u l u < 0) ∧ ∀ (u : Nat) (l : List gL), u < 53 → subL L l → l.length < n → 0 ≤ wt u l u
theorem isQ_one {L : List gL} {m n : Nat} (h1 : isQ L m) (h2 : isQ L n) : m = n := by
  obtain ⟨⟨u, l, a1, a2, a3, a4⟩, b⟩ := h1
  obtain ⟨⟨u', l', c1, c2, c3, c4⟩, d⟩ := h2
  rcases Nat.lt_trichotomy m n with h | h | h
  · have := d u l a1 a2 (by omega); omega
  · exact h
  · have := b u' l' c1 c2 (by omega); omega
theorem isQ_of {L : List gL} (hok : okL L) (h : ¬ ∃ f, potL L f) : ∃ n, 1 ≤ n ∧ isQ L n := by
  have h1 : ¬ noneg L := fun hn => h ⟨_, noneg_pot hok hn⟩
  have h2 : ∃ n, ∃ (u : Nat) (l : List gL), u < 53 ∧ subL L l ∧ l.length = n ∧ wt u l u < 0 := by
    apply Classical.byContradiction
    intro hc
    refine h1 (fun u l hu hs => ?_)
    apply Classical.byContradiction
    intro h3
    exact hc ⟨l.length, u, l, hu, hs, rfl, by omega⟩
  obtain ⟨n, hn, hl⟩ := pk_least _ h2
  refine ⟨n, ?_, hn, fun u l hu hs hlt => ?_⟩
  · obtain ⟨u, l, a1, a2, a3, a4⟩ := hn
    apply Classical.byContradiction
    intro h0
    have : l = [] := List.length_eq_zero_iff.mp (by omega)
    subst this
    simp only [wt, bd_self] at a4
    omega
  · apply Classical.byContradiction
    intro h3
    exact hl l.length hlt ⟨u, l, hu, hs, rfl, by omega⟩
