/-! PLAN: sorting by insertion, and what a table of hours finds -/
def sIn (l : Nat → Int) (p : Nat) : Nat → (Nat → Nat) → Nat → Nat
  | 0, t => fun k => if k = 0 then p else t k
  | a + 1, t => if l (t a) ≤ l p then (fun k => if k = a + 1 then p else t k) else sIn l p a (fun k => if k = a + 1 then t a else t k)
def sAll (l : Nat → Int) : Nat → Nat → Nat
  | 0 => fun _ => 0
  | p + 1 => sIn l p p (sAll l p)
theorem sm_if (f : Nat → Nat) (t : Nat → Nat) (i v : Nat) : (fun k => f (if k = i then v else t k)) = fun k => if k = i then f v else f (t k) := by
  funext k
  split <;> rfl
theorem sIn_sum (l : Nat → Int) (p n : Nat) (f : Nat → Nat) : ∀ (a : Nat) (t : Nat → Nat), a < n → fb_sm (fun k => f (sIn l p a t k)) n + f (t a) = fb_sm (fun k => f (t k)) n + f p
  | 0, t, h => by
    unfold sIn
    rw [sm_if]
    exact fb_sm_upd (fun k => f (t k)) (f p) h
  | a + 1, t, h => by
    unfold sIn
    by_cases c : l (t a) ≤ l p
    · rw [if_pos c, sm_if]
      exact fb_sm_upd (fun k => f (t k)) (f p) h
    · rw [if_neg c]
      have h1 := sIn_sum l p n f a (fun k => if k = a + 1 then t a else t k) (by omega)
      rw [if_neg (show ¬ a = a + 1 by omega), sm_if] at h1
      have h2 := fb_sm_upd (fun k => f (t k)) (f (t a)) h
      omega
theorem sAll_sum (l : Nat → Int) (f : Nat → Nat) : ∀ p, fb_sm (fun k => f (sAll l p k)) p = fb_sm f p
  | 0 => rfl
  | p + 1 => by
    have h1 := sIn_sum l p (p + 1) f p (sAll l p) (by omega)
    have h2 := sAll_sum l f p
    rw [fb_sm_succ (fun k => f (sAll l p k)) p] at h1
    show fb_sm (fun k => f (sIn l p p (sAll l p) k)) (p + 1) = fb_sm f p + f p
    omega
theorem sAll_lt (l : Nat → Int) {p k : Nat} (hk : k < p) : sAll l p k < p := by
  have h1 := sAll_sum l (fun q => if q < p then 0 else 1) p
  have h2 : fb_sm (fun q => if q < p then 0 else 1) p = 0 := by
    have := fb_sm_bound (f := fun q => if q < p then 0 else 1) (c := 0) (n := p) (fun k hk => by rw [if_pos hk]; exact Nat.le_refl _)
    omega
  have h3 := fb_sm_zero (h1.trans h2) k hk
  by_cases c : sAll l p k < p
  · exact c
  · rw [if_neg c] at h3; omega
theorem sm_one (q : Nat) : ∀ n, fb_sm (fun k => if k = q then 1 else 0) n = if q < n then 1 else 0
  | 0 => by rw [if_neg (Nat.not_lt_zero q)]; rfl
  | n + 1 => by
    rw [fb_sm_succ, sm_one q n]
    split <;> split <;> split <;> omega
theorem sAll_inj (l : Nat → Int) {p i j : Nat} (hi : i < j) (hj : j < p) : sAll l p i ≠ sAll l p j := by
  intro he
  have h1 := sAll_sum l (fun q => if q = sAll l p j then 1 else 0) p
  rw [sm_one] at h1
  have h2 := fb_sm_part (fun k => if sAll l p k = sAll l p j then 1 else 0) (i := j) hj
  have h3 := fb_sm_part (fun k => if sAll l p k = sAll l p j then 1 else 0) (i := i) hi
  rw [if_pos he] at h3
  rw [if_pos rfl] at h2
  split at h1 <;> omega
theorem sAll_onto (l : Nat → Int) {p q : Nat} (hq : q < p) : ∃ i, i < p ∧ sAll l p i = q := fb_onto (fun i hi => sAll_lt l hi) (fun i j h1 h2 => sAll_inj l h1 h2) hq
/-- the greatest value of things that take t hours together, of the first k; -1, if none do -/
def dpT (H L : Nat → Nat) (V : Nat → Int) (z y : Nat → Bool) : Nat → Nat → Int
  | 0, t => if t = 0 then 0 else -1
  | k + 1, t => max (if z k = true then dpT H L V z y k t else -1) (if y k = true ∧ t ≤ L k ∧ H k ≤ t ∧ 0 ≤ dpT H L V z y k (t - H k) then dpT H L V z y k (t - H k) + V k else -1)
def tm (H : Nat → Nat) (c : Nat → Bool) : Nat → Nat
  | 0 => 0
  | k + 1 => tm H c k + if c k = true then H k else 0
def vl (V : Nat → Int) (c : Nat → Bool) : Nat → Int
  | 0 => 0
  | k + 1 => vl V c k + if c k = true then V k else 0
def fe (H L : Nat → Nat) (z y : Nat → Bool) (c : Nat → Bool) (k : Nat) : Prop := ∀ i, i < k → (c i = true → y i = true ∧ tm H c (i + 1) ≤ L i) ∧ (c i = false → z i = true)
theorem tm_cong {H : Nat → Nat} {c d : Nat → Bool} : ∀ {k : Nat}, (∀ i, i < k → c i = d i) → tm H c k = tm H d k
  | 0, _ => rfl
  | k + 1, h => by unfold tm; rw [tm_cong (fun i hi => h i (by omega)), h k (by omega)]
theorem vl_cong {V : Nat → Int} {c d : Nat → Bool} : ∀ {k : Nat}, (∀ i, i < k → c i = d i) → vl V c k = vl V d k
  | 0, _ => rfl
  | k + 1, h => by unfold vl; rw [vl_cong (fun i hi => h i (by omega)), h k (by omega)]
theorem fe_cong {H L : Nat → Nat} {z y c d : Nat → Bool} {k : Nat} (h : ∀ i, i < k → c i = d i) (hc : fe H L z y c k) : fe H L z y d k := fun i hi => by
  rw [← h i hi, ← tm_cong (H := H) (c := c) (d := d) (k := i + 1) (fun j hj => h j (by omega))]
  exact hc i hi
theorem vl_nn {V : Nat → Int} (hV : ∀ k, 0 ≤ V k) (c : Nat → Bool) : ∀ k, 0 ≤ vl V c k
  | 0 => Int.le_refl _
  | k + 1 => by unfold vl; have := vl_nn hV c k; have := hV k; split <;> omega
theorem dp_ge {H L : Nat → Nat} {V : Nat → Int} {z y : Nat → Bool} : ∀ (k t : Nat), -1 ≤ dpT H L V z y k t
  | 0, t => by unfold dpT; split <;> omega
  | k + 1, t => by
    unfold dpT
    have := dp_ge (H := H) (L := L) (V := V) (z := z) (y := y) k t
    split <;> omega
theorem dp_le {H L : Nat → Nat} {V : Nat → Int} {z y : Nat → Bool} (hV : ∀ k, 0 ≤ V k) {c : Nat → Bool} : ∀ (k : Nat), fe H L z y c k → vl V c k ≤ dpT H L V z y k (tm H c k)
  | 0, _ => by unfold dpT vl tm; rw [if_pos rfl]; exact Int.le_refl _
  | k + 1, h => by
    have ih := dp_le hV k (fun i hi => h i (by omega))
    have hk := h k (by omega)
    have hn := vl_nn hV c k
    unfold dpT vl
    cases hc : c k with
    | false =>
      have e : tm H c (k + 1) = tm H c k := by
        show tm H c k + (if c k = true then H k else 0) = _
        rw [hc]; simp
      rw [e, if_pos (hk.2 hc), if_neg (by simp)]
      omega
    | true =>
      have e : tm H c (k + 1) = tm H c k + H k := by
        show tm H c k + (if c k = true then H k else 0) = _
        rw [hc]; simp
      obtain ⟨y1, y2⟩ := hk.1 hc
      rw [e] at y2
      have e2 : (if y k = true ∧ tm H c k + H k ≤ L k ∧ H k ≤ tm H c k + H k ∧ 0 ≤ dpT H L V z y k (tm H c k) then dpT H L V z y k (tm H c k) + V k else -1) = dpT H L V z y k (tm H c k) + V k := if_pos ⟨y1, y2, by omega, by omega⟩
      rw [e, Nat.add_sub_cancel, e2, if_pos rfl]
      omega
theorem dp_at {H L : Nat → Nat} {V : Nat → Int} {z y : Nat → Bool} : ∀ (k t : Nat), 0 ≤ dpT H L V z y k t → ∃ c : Nat → Bool, fe H L z y c k ∧ tm H c k = t ∧ vl V c k = dpT H L V z y k t
  | 0, t, h => by
    unfold dpT at h ⊢
    by_cases e : t = 0
    · rw [if_pos e]; exact ⟨fun _ => false, fun i hi => absurd hi (Nat.not_lt_zero i), e.symm, rfl⟩
    · rw [if_neg e] at h; omega
  | k + 1, t, h => by
    have st : ∀ (b : Bool) (t' : Nat), 0 ≤ dpT H L V z y k t' → (b = true → y k = true ∧ t' + H k ≤ L k ∧ t' + H k = t ∧ dpT H L V z y k t' + V k = dpT H L V z y (k + 1) t) → (b = false → z k = true ∧ t' = t ∧ dpT H L V z y k t' = dpT H L V z y (k + 1) t) → ∃ c : Nat → Bool, fe H L z y c (k + 1) ∧ tm H c (k + 1) = t ∧ vl V c (k + 1) = dpT H L V z y (k + 1) t := by
      intro b t' h1 h2 h3
      obtain ⟨c, c1, c2, c3⟩ := dp_at k t' h1
      have cg : ∀ i, i < k → c i = (fun i => if i = k then b else c i) i := fun i hi => by dsimp only; rw [if_neg (by omega)]
      have ek : (fun i => if i = k then b else c i) k = b := by dsimp only; rw [if_pos rfl]
      have q1 := fe_cong cg c1
      have q2 := (tm_cong (H := H) cg).symm.trans c2
      have q3 := (vl_cong (V := V) cg).symm.trans c3
      generalize (fun i => if i = k then b else c i) = d at ek q1 q2 q3
      refine ⟨d, fun i hi => ?_, ?_, ?_⟩
      · by_cases e : i = k
        · subst e
          refine ⟨fun hd => ?_, fun hd => (h3 (ek.symm.trans hd)).1⟩
          obtain ⟨y1, y2, -⟩ := h2 (ek.symm.trans hd)
          refine ⟨y1, ?_⟩
          unfold tm
          rw [q2, if_pos hd]; exact y2
        · exact q1 i (by omega)
      · unfold tm
        rw [q2, ek]
        cases b with
        | true => rw [if_pos rfl]; exact (h2 rfl).2.2.1
        | false => rw [if_neg (by simp)]; exact (h3 rfl).2.1
      · show vl V d k + (if d k = true then V k else 0) = _
        rw [q3, ek]
        cases b with
        | true => rw [if_pos rfl]; exact (h2 rfl).2.2.2
        | false => rw [if_neg (by simp)]; have := (h3 rfl).2.2; omega
    have e : dpT H L V z y (k + 1) t = max (if z k = true then dpT H L V z y k t else -1) (if y k = true ∧ t ≤ L k ∧ H k ≤ t ∧ 0 ≤ dpT H L V z y k (t - H k) then dpT H L V z y k (t - H k) + V k else -1) := rfl
    by_cases c2 : y k = true ∧ t ≤ L k ∧ H k ≤ t ∧ 0 ≤ dpT H L V z y k (t - H k)
    · rw [if_pos c2] at e
      by_cases c1 : z k = true
      · rw [if_pos c1] at e
        by_cases cm : dpT H L V z y k t ≤ dpT H L V z y k (t - H k) + V k
        · exact st true (t - H k) c2.2.2.2 (fun _ => ⟨c2.1, by omega, by omega, by omega⟩) (fun z => by cases z)
        · exact st false t (by omega) (fun z => by cases z) (fun _ => ⟨c1, rfl, by omega⟩)
      · rw [if_neg c1] at e
        have := dp_ge (H := H) (L := L) (V := V) (z := z) (y := y) (k + 1) t
        by_cases cm : -1 ≤ dpT H L V z y k (t - H k) + V k
        · exact st true (t - H k) c2.2.2.2 (fun _ => ⟨c2.1, by omega, by omega, by omega⟩) (fun z => by cases z)
        · omega
    · rw [if_neg c2] at e
      by_cases c1 : z k = true
      · rw [if_pos c1] at e
        have := dp_ge (H := H) (L := L) (V := V) (z := z) (y := y) k t
        exact st false t (by omega) (fun z => by cases z) (fun _ => ⟨c1, rfl, by omega⟩)
      · rw [if_neg c1] at e
        omega
theorem tm_le {H L : Nat → Nat} {z y c : Nat → Bool} {N : Nat} (hL : ∀ i, L i ≤ N) : ∀ k, fe H L z y c k → tm H c k ≤ N
  | 0, _ => Nat.zero_le _
  | k + 1, h => by
    have ih := tm_le hL k (fun i hi => h i (by omega))
    cases hc : c k with
    | false => unfold tm; rw [hc]; simp; exact ih
    | true => exact Nat.le_trans ((h k (by omega)).1 hc).2 (hL k)
theorem tm_sum {H : Nat → Nat} (c : Nat → Bool) : ∀ k, tm H c k ≤ fb_sm H k
  | 0 => Nat.le_refl _
  | k + 1 => by
    have := tm_sum (H := H) c k
    rw [fb_sm_succ]
    unfold tm
    split <;> omega
theorem dp_big {H L : Nat → Nat} {V : Nat → Int} {z y : Nat → Bool} {k t : Nat} (ht : fb_sm H k < t) : dpT H L V z y k t = -1 := by
  apply Classical.byContradiction
  intro h
  have := dp_ge (H := H) (L := L) (V := V) (z := z) (y := y) k t
  obtain ⟨c, -, c2, -⟩ := dp_at (H := H) (L := L) (V := V) (z := z) (y := y) k t (by omega)
  have := tm_sum (H := H) c k
  omega
/-- r is the best value -/
def isBst (H L : Nat → Nat) (V : Nat → Int) (z y : Nat → Bool) (P : Nat) (r : Int) : Prop := (∀ c, fe H L z y c P → vl V c P ≤ r) ∧ (r = -1 ∨ ∃ c, fe H L z y c P ∧ vl V c P = r)
theorem bst_of {H L : Nat → Nat} {V : Nat → Int} {z y : Nat → Bool} {P : Nat} {r : Int} (hV : ∀ k, 0 ≤ V k) (hL : ∀ i, L i ≤ 500) (h1 : ∀ t, t ≤ 500 → dpT H L V z y P t ≤ r) (h2 : r = -1 ∨ ∃ t, t ≤ 500 ∧ r = dpT H L V z y P t) : isBst H L V z y P r := by
  refine ⟨fun c hc => Int.le_trans (dp_le hV P hc) (h1 _ (tm_le hL P hc)), ?_⟩
  rcases h2 with h | ⟨t, ht, h⟩
  · exact Or.inl h
  · have := dp_ge (H := H) (L := L) (V := V) (z := z) (y := y) P t
    by_cases c : r = -1
    · exact Or.inl c
    · obtain ⟨d, d1, d2, d3⟩ := dp_at (H := H) (L := L) (V := V) (z := z) (y := y) P t (by omega)
      exact Or.inr ⟨d, d1, d3.trans h.symm⟩
theorem bst_one {H L : Nat → Nat} {V : Nat → Int} {z y : Nat → Bool} {P : Nat} {r s : Int} (hV : ∀ k, 0 ≤ V k) (h1 : isBst H L V z y P r) (h2 : isBst H L V z y P s) : r = s := by
  have key : ∀ {a b : Int}, isBst H L V z y P a → isBst H L V z y P b → a ≤ b := by
    intro a b ha hb
    rcases ha.2 with h | ⟨c, c1, c2⟩
    · rcases hb.2 with k | ⟨d, d1, d2⟩
      · omega
      · have := vl_nn hV d P; omega
    · have := hb.1 c c1; omega
  have := key h1 h2
  have := key h2 h1
  omega
