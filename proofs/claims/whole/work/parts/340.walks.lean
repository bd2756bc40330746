/-! WALKS: a shortest quarrel, begun at 0 or at its least place -/
def zb (u v : Nat) : Prop := u = v ∨ (u = v + 1 ∧ 21 ≤ v ∧ v % 2 = 1)
theorem zb_bd {u v : Nat} (h : zb u v) : bd u v = 0 := by unfold bd; rw [if_pos (by unfold zb at h; omega)]
theorem zb_le {u v : Nat} (h : zb u v) : v ≤ u := by unfold zb at h; omega
theorem zb_trans {u v w : Nat} (h : zb u v) (h2 : zb v w) : zb u w := by unfold zb at *; omega
theorem nzb {u v : Nat} (h : ¬ zb u v) : bd u 0 + bd 0 v ≤ bd u v := by
  rw [bd_to0]
  by_cases c : v = 0
  · subst c; rw [bd_self, bd_to0]; omega
  · have e : bd u v = 100000 := by unfold bd; rw [if_neg (by unfold zb at h; omega)]
    have := bd_le 0 v
    omega
theorem wt_join (x : Nat) (q : List gL) (u : Nat) (p : List gL) (y : Nat) : wt x (q ++ p) y ≤ wt x q u + wt u p y := by
  cases p with
  | nil => rw [List.append_nil]; exact wt_last q x y u
  | cons a p =>
    rw [wt_cat]
    have := wt_last q x a.1 u
    simp only [wt]
    omega
def zok : Nat → List gL → Nat → Prop
  | u, [], v => zb u v
  | u, a :: l, v => zb u a.1 ∧ a.1 ≠ 0 ∧ a.2.1 ≠ 0 ∧ zok a.2.1 l v
theorem zok_split : ∀ (l : List gL) (u v : Nat), zok u l v ∨ ∃ p q, l = p ++ q ∧ wt u p 0 + wt 0 q v ≤ wt u l v
  | [], u, v => by
    by_cases c : zb u v
    · exact Or.inl c
    · exact Or.inr ⟨[], [], rfl, nzb c⟩
  | a :: l, u, v => by
    by_cases c : zb u a.1
    · by_cases c1 : a.1 = 0
      · refine Or.inr ⟨[], a :: l, rfl, ?_⟩
        simp only [wt]
        rw [c1, bd_self, bd_to0]; omega
      · by_cases c2 : a.2.1 = 0
        · refine Or.inr ⟨[a], l, rfl, ?_⟩
          simp only [wt]
          rw [c2, bd_self]; omega
        · rcases zok_split l a.2.1 v with h | ⟨p, q, h1, h2⟩
          · exact Or.inl ⟨c, c1, c2, h⟩
          · refine Or.inr ⟨a :: p, q, by rw [h1]; rfl, ?_⟩
            simp only [wt]
            omega
    · refine Or.inr ⟨[], a :: l, rfl, ?_⟩
      have := nzb c
      simp only [wt]
      omega
theorem zok_first {x u y : Nat} (h : zb x u) : ∀ {p : List gL}, zok u p y → zok x p y
  | [], h2 => zb_trans h h2
  | _ :: _, h2 => ⟨zb_trans h h2.1, h2.2⟩
theorem zok_join {u y : Nat} {p : List gL} (hp : zok u p y) : ∀ {q : List gL} {x : Nat}, zok x q u → zok x (q ++ p) y
  | [], _, h => zok_first h hp
  | _ :: _, _, h => ⟨h.1, h.2.1, h.2.2.1, zok_join hp h.2.2.2⟩
theorem zok_cut {v : Nat} {b : gL} {q : List gL} : ∀ {p : List gL} {u : Nat}, zok u (p ++ b :: q) v → zok u p b.1 ∧ b.1 ≠ 0 ∧ b.2.1 ≠ 0 ∧ zok b.2.1 q v
  | [], _, h => ⟨h.1, h.2.1, h.2.2.1, h.2.2.2⟩
  | _ :: _, _, h => by
    obtain ⟨h1, h2, h3, h4⟩ := h
    obtain ⟨k1, k2⟩ := zok_cut h4
    exact ⟨⟨h1, h2, h3, k1⟩, k2⟩
theorem zok_heads {s v : Nat} (hv : s ≤ v) : ∀ {l : List gL} {u : Nat}, zok u l v → (∀ a ∈ l, s ≤ a.1) → s ≤ u ∧ ∀ a ∈ l, s ≤ a.2.1
  | [], _, h, _ => ⟨Nat.le_trans hv (zb_le h), fun a ha => by cases ha⟩
  | b :: l, _, h, ht => by
    obtain ⟨h1, -, -, h4⟩ := h
    obtain ⟨k1, k2⟩ := zok_heads hv h4 (fun a ha => ht a (List.mem_cons_of_mem _ ha))
    refine ⟨Nat.le_trans (ht b List.mem_cons_self) (zb_le h1), fun a ha => ?_⟩
    rcases List.mem_cons.mp ha with rfl | ha
    · exact k1
    · exact k2 a ha
/-- the class looks from s on, among the places from s on -/
def bok (s u v : Nat) : Prop := s = 0 ∨ zb u v
def rok (s : Nat) : Nat → List gL → Nat → Prop
  | u, [], v => bok s u v
  | u, a :: l, v => bok s u a.1 ∧ s ≤ a.1 ∧ s ≤ a.2.1 ∧ rok s a.2.1 l v
theorem rok_0 : ∀ (l : List gL) (u v : Nat), rok 0 u l v
  | [], _, _ => Or.inl rfl
  | _ :: l, _, v => ⟨Or.inl rfl, Nat.zero_le _, Nat.zero_le _, rok_0 l _ v⟩
theorem rok_of {s : Nat} : ∀ {l : List gL} {u v : Nat}, zok u l v → (∀ a ∈ l, s ≤ a.1 ∧ s ≤ a.2.1) → rok s u l v
  | [], _, _, h, _ => Or.inr h
  | a :: l, _, _, h, hs => ⟨Or.inr h.1, (hs a List.mem_cons_self).1, (hs a List.mem_cons_self).2, rok_of h.2.2.2 (fun b hb => hs b (List.mem_cons_of_mem _ hb))⟩
theorem rok_heads {s : Nat} : ∀ {l : List gL} {u v : Nat}, rok s u l v → ∀ a ∈ l, s ≤ a.2.1
  | [], _, _, _, a, ha => by cases ha
  | b :: l, _, _, h, a, ha => by
    rcases List.mem_cons.mp ha with rfl | ha
    · exact h.2.2.1
    · exact rok_heads h.2.2.2 a ha
theorem rok_last {s : Nat} {a : gL} {v : Nat} : ∀ {l : List gL} {u : Nat}, rok s u (l ++ [a]) v → rok s u l a.1 ∧ s ≤ a.1 ∧ s ≤ a.2.1 ∧ bok s a.2.1 v
  | [], _, h => ⟨h.1, h.2.1, h.2.2.1, h.2.2.2⟩
  | _ :: _, _, h => by
    obtain ⟨h1, h2, h3, h4⟩ := h
    obtain ⟨k1, k2⟩ := rok_last h4
    exact ⟨⟨h1, h2, h3, k1⟩, k2⟩
theorem least_tail : ∀ (l : List gL), l ≠ [] → ∃ b ∈ l, ∀ a ∈ l, b.1 ≤ a.1
  | [], h => absurd rfl h
  | [b], _ => ⟨b, List.mem_cons_self, fun a ha => by
      simp only [List.mem_cons, List.not_mem_nil, or_false] at ha
      rw [ha]; exact Nat.le_refl _⟩
  | b :: c :: l, _ => by
    obtain ⟨d, d1, d2⟩ := least_tail (c :: l) (by simp)
    by_cases h : b.1 ≤ d.1
    · refine ⟨b, List.mem_cons_self, fun a ha => ?_⟩
      rcases List.mem_cons.mp ha with rfl | ha
      · exact Nat.le_refl _
      · exact Nat.le_trans h (d2 a ha)
    · refine ⟨d, List.mem_cons_of_mem _ d1, fun a ha => ?_⟩
      rcases List.mem_cons.mp ha with rfl | ha
      · omega
      · exact d2 a ha
/-- a quarrel of n limits, seen from a source of the class's -/
def goodS (L : List gL) (n s : Nat) : Prop := ∃ l, subL L l ∧ l.length = n ∧ rok s s l s ∧ wt s l s < 0
theorem good_of {L : List gL} {n : Nat} (hF : ∀ a ∈ L, a.1 < 21 ∨ a.2.1 < 21) (hn : 1 ≤ n) (hq : isQ L n) : ∃ s, s ≤ 20 ∧ goodS L n s := by
  obtain ⟨⟨u, l, hu, hl, hln, hw⟩, -⟩ := hq
  rcases zok_split l u u with h | ⟨p, q, h1, h2⟩
  · obtain ⟨b, hb, hmin⟩ := least_tail l (fun z => by rw [z] at hln; simp at hln; omega)
    obtain ⟨p, q, rfl⟩ := List.append_of_mem hb
    obtain ⟨k1, k2, k3, k4⟩ := zok_cut h
    have hz := zok_join k1 k4
    have hs1 := subL_app.mp hl
    have hs2 := subL_cons.mp hs1.2
    have mm : ∀ a, a ∈ b :: (q ++ p) → b.1 ≤ a.1 := fun a ha => hmin a (by
      simp only [List.mem_cons, List.mem_append] at ha ⊢
      rcases ha with z | z | z
      · exact Or.inr (Or.inl z)
      · exact Or.inr (Or.inr z)
      · exact Or.inl z)
    have hh := zok_heads (s := b.1) (Nat.le_refl _) hz (fun a ha => mm a (List.mem_cons_of_mem _ ha))
    refine ⟨b.1, ?_, b :: (q ++ p), subL_cons.mpr ⟨hs2.1, subL_app.mpr ⟨hs2.2, hs1.1⟩⟩, ?_, ⟨Or.inr (Or.inl rfl), Nat.le_refl _, hh.1, rok_of hz (fun a ha => ⟨mm a (List.mem_cons_of_mem _ ha), hh.2 a ha⟩)⟩, ?_⟩
    · rcases hF b hs2.1 with z | z
      · omega
      · have := hh.1; omega
    · rw [← hln]
      simp only [List.length_cons, List.length_append]
      omega
    · rw [wt_cat] at hw
      have := wt_join b.2.1 q u p b.1
      simp only [wt, bd_self]
      omega
  · refine ⟨0, by omega, q ++ p, ?_, ?_, rok_0 _ _ _, ?_⟩
    · rw [h1] at hl
      exact subL_app.mpr ⟨(subL_app.mp hl).2, (subL_app.mp hl).1⟩
    · rw [← hln, h1]
      simp only [List.length_append]; omega
    · have := wt_join 0 q u p 0
      omega
theorem good_len {L : List gL} {n s : Nat} (hok : okL L) (hs : s < 53) (hq : isQ L n) (hg : goodS L n s) : n ≤ 53 - s := by
  obtain ⟨l, l1, l2, l3, l4⟩ := hg
  apply Classical.byContradiction
  intro hc
  obtain ⟨p, q, r, a, b, e, hab, s1, s2, ha⟩ := wt_dup (L := L) (l := l) (lo := s) (m := 53 - s) (fun a ha => ⟨rok_heads l3 a ha, by have := (hok a (l1 a ha)).2; omega⟩) (by omega) l1
  rw [e, wt_cut hab] at l4
  have len : l.length = p.length + (q.length + (r.length + 1) + 1) := by rw [e]; simp only [List.length_append, List.length_cons]
  have h1 := hq.2 s (p ++ a :: r) hs s1 (by simp only [List.length_append, List.length_cons]; omega)
  have h2 := hq.2 a.2.1 (q ++ [b]) (hok a ha).2 s2 (by simp only [List.length_append, List.length_cons, List.length_nil]; omega)
  omega
theorem isQ_le {L : List gL} {n : Nat} (hok : okL L) (hF : ∀ a ∈ L, a.1 < 21 ∨ a.2.1 < 21) (hn : 1 ≤ n) (hq : isQ L n) : n ≤ 53 := by
  obtain ⟨s, s1, s2⟩ := good_of hF hn hq
  have := good_len hok (by omega) hq s2
  omega
/-- a quarrel is seen from the tail of one of its limits -/
theorem isQ_tail {L : List gL} {n : Nat} (hn : 1 ≤ n) (hq : isQ L n) : ∃ a ∈ L, ∃ l, subL L l ∧ l.length = n ∧ wt a.1 l a.1 < 0 := by
  obtain ⟨⟨u, l, hu, hl, hln, hw⟩, -⟩ := hq
  cases l with
  | nil => simp at hln; omega
  | cons a l =>
    refine ⟨a, (subL_cons.mp hl).1, a :: l, hl, hln, ?_⟩
    have := wt_last l a.2.1 a.1 u
    simp only [wt, bd_self] at *
    omega
theorem wt_hi {L : List gL} (hA : okA L) : ∀ (l : List gL) (u v : Nat), subL L l → wt u l v ≤ 200000 * (l.length : Int) + 100000
  | [], u, v, _ => by have := bd_le u v; simp only [wt, List.length_nil]; omega
  | a :: l, u, v, h => by
    have h1 := wt_hi hA l a.2.1 v (subL_cons.mp h).2
    have h2 := bd_le u a.1
    have h3 := (hA a (subL_cons.mp h).1).2.2.2
    simp only [wt, List.length_cons]
    omega
