/-! CHECKS: the small questions of class and reference, as numbers 1 and 0 -/
def b2 (p : Prop) [Decidable p] : Int32 := if p then 1 else 0
theorem b2_t {p : Prop} [Decidable p] (h : p) : b2 p = 1 := if_pos h
theorem b2_f {p : Prop} [Decidable p] (h : ¬ p) : b2 p = 0 := if_neg h
theorem b2_0 {p : Prop} [Decidable p] : b2 p = 0 ↔ ¬ p := by
  by_cases h : p
  · rw [b2_t h]; exact ⟨fun e => absurd e (by decide), fun e => absurd h e⟩
  · rw [b2_f h]; exact ⟨fun _ => h, fun _ => rfl⟩
theorem b2_isB (p : Prop) [Decidable p] : isB (b2 p) := by
  by_cases h : p
  · rw [b2_t h]; rfl
  · rw [b2_f h]; rfl
theorem b2_or (p : Prop) [Decidable p] : b2 p = 0 ∨ b2 p = 1 := by
  by_cases h : p
  · exact Or.inr (b2_t h)
  · exact Or.inl (b2_f h)
theorem two_ways {c A B : Prop} (h1 : c → A) (h2 : ¬ c → B) : (c → A) ∧ (¬ c → B) := ⟨h1, h2⟩
/-- a plate, a motif or a fact there is -/
abbrev isN (x n : Int32) : Prop := ¬ x < 0 ∧ ¬ n ≤ x
abbrev isR (x lo hi : Int32) : Prop := ¬ x < lo ∧ ¬ hi < x
theorem isN_of {x : Int32} {n : Nat} (hn : n < 2 ^ 31) (h : isN x (nI n)) : ∃ j : Nat, j < n ∧ x = nI j := by
  rcases pk_ix x hn with h1 | h1 | h1
  · exact absurd h1 h.1
  · exact absurd h1 h.2
  · exact h1
theorem isN_to {n j : Nat} (hn : n < 2 ^ 31) (h : j < n) : isN (nI j) (nI n) := ⟨nI_pos (by omega), fun h1 => by rw [nI_leI (by omega) (by omega)] at h1; omega⟩
theorem isR_of {x lo hi : Int32} (h : isR x lo hi) : lo.toInt ≤ x.toInt ∧ x.toInt ≤ hi.toInt := by
  obtain ⟨h1, h2⟩ := h
  rw [fa_lt] at h1 h2
  omega
theorem x_isPlate {Q : Int32 → Prop} {x : Int32} {σ : wS} : wx_X5_isPlate Q x σ ↔ Q (b2 (isN x (σ.1 1))) := by
  unfold wx_X5_isPlate
  by_cases a : x < 0 <;> by_cases b : σ.1 1 ≤ x <;> simp [b2, isN, isR, a, b]
theorem x_isMotif {Q : Int32 → Prop} {x : Int32} {σ : wS} : wx_X5_isMotif Q x σ ↔ Q (b2 (isN x (σ.1 2))) := by
  unfold wx_X5_isMotif
  by_cases a : x < 0 <;> by_cases b : σ.1 2 ≤ x <;> simp [b2, isN, isR, a, b]
theorem x_has {Q : Int32 → Prop} {x : Int32} {σ : wS} : wx_X2_has Q x σ ↔ Q (b2 (isN x (σ.1 4))) := by
  unfold wx_X2_has
  by_cases a : x < 0 <;> by_cases b : σ.1 4 ≤ x <;> simp [b2, isN, isR, a, b]
theorem x_isWithin {Q : Int32 → Prop} {x lo hi : Int32} : wx_X5_isWithin Q x lo hi ↔ Q (b2 (isR x lo hi)) := by
  unfold wx_X5_isWithin
  by_cases a : x < lo <;> by_cases b : hi < x <;> simp [b2, isN, isR, a, b]
theorem x_isDay {Q : Int32 → Prop} {x : Int32} : wx_X5_isDay Q x ↔ Q (b2 (isR x 0 9999)) := by
  unfold wx_X5_isDay
  rw [x_isWithin]
  exact ⟨fun h => h.2, fun h => ⟨b2_isB _, h⟩⟩
theorem x_isTimeRange {Q : Int32 → Prop} {x y : Int32} : wx_X5_isTimeRange Q x y ↔ Q (b2 (¬ x < 0 ∧ ¬ y < x ∧ ¬ 100000 < y)) := by
  unfold wx_X5_isTimeRange
  by_cases a : x < 0 <;> by_cases b : y < x <;> by_cases c : 100000 < y <;> simp [b2, a, b, c]
theorem x_areTwo {Q : Int32 → Prop} {x y : Int32} {σ : wS} : wx_X5_areTwoPlates Q x y σ ↔ Q (b2 (isN x (σ.1 1) ∧ isN y (σ.1 1) ∧ x ≠ y)) := by
  unfold wx_X5_areTwoPlates
  rw [x_isPlate]
  by_cases a : isN x (σ.1 1)
  · rw [b2_t a]
    refine ⟨fun h => ?_, fun h => ⟨fun e => absurd e (by decide), fun _ => ?_⟩⟩
    · have h := x_isPlate.mp (h.2 (by decide))
      by_cases b : isN y (σ.1 1)
      · rw [b2_t b] at h
        have h := h.2 (by decide)
        by_cases c : x = y
        · rw [b2_f (fun z => z.2.2 c)]; exact h.1 c
        · rw [b2_t ⟨a, b, c⟩]; exact h.2 c
      · rw [b2_f b] at h
        rw [b2_f (fun z => b z.2.1)]; exact h.1 rfl
    · rw [x_isPlate]
      by_cases b : isN y (σ.1 1)
      · rw [b2_t b]
        refine ⟨fun e => absurd e (by decide), fun _ => ⟨fun c => ?_, fun c => ?_⟩⟩
        · rw [b2_f (fun z => z.2.2 c)] at h; exact h
        · rw [b2_t ⟨a, b, c⟩] at h; exact h
      · rw [b2_f b]
        rw [b2_f (fun z => b z.2.1)] at h
        exact ⟨fun _ => h, fun e => absurd rfl e⟩
  · rw [b2_f a, b2_f (fun z => a z.1)]
    exact ⟨fun h => h.1 rfl, fun h => ⟨fun _ => h, fun e => absurd rfl e⟩⟩
theorem x_whyNot {Q : Int32 → Prop} {a b : Int32} : wx_X5_whyNot Q a b ↔ Q (if a = 0 then 1 else if b = 0 then 2 else 0) := by
  unfold wx_X5_whyNot
  by_cases h : a = 0 <;> by_cases h2 : b = 0 <;> simp [h, h2]
theorem x_refuse {Q : Int32 → wS → Prop} {v : Int32} {σ : wS} : wx_X5_refuse Q v σ ↔ Q (-1) (sI σ 3 v) := ⟨fun h => h _ rfl, fun h _ e => e ▸ h⟩
theorem x_answer {Q : Int32 → wS → Prop} {v : Int32} {σ : wS} : wx_X5_answer Q v σ ↔ Q v (sI σ 3 0) := ⟨fun h => h _ rfl, fun h _ e => e ▸ h⟩
theorem x_isFull {Q : Int32 → Prop} {σ : wS} : wx_X2_isFull Q σ ↔ Q (b2 (¬ σ.1 4 < 100)) := by
  unfold wx_X2_isFull
  by_cases a : σ.1 4 < 100 <;> simp [b2, a]
theorem m_isPlate {Q : Int32 → Prop} {x : Int32} {σ : wS} : wm_X6_isPlate Q x σ ↔ Q (b2 (isN x (σ.1 2))) := by
  unfold wm_X6_isPlate
  by_cases a : x < 0 <;> by_cases b : σ.1 2 ≤ x <;> simp [b2, isN, isR, a, b]
theorem m_isMotif {Q : Int32 → Prop} {x : Int32} {σ : wS} : wm_X6_isMotif Q x σ ↔ Q (b2 (isN x (σ.1 3))) := by
  unfold wm_X6_isMotif
  by_cases a : x < 0 <;> by_cases b : σ.1 3 ≤ x <;> simp [b2, isN, isR, a, b]
theorem m_isFact {Q : Int32 → Prop} {x : Int32} {σ : wS} : wm_X6_isFact Q x σ ↔ Q (b2 (isN x (σ.1 4))) := by
  unfold wm_X6_isFact
  by_cases a : x < 0 <;> by_cases b : σ.1 4 ≤ x <;> simp [b2, isN, isR, a, b]
theorem m_isDay {Q : Int32 → Prop} {x : Int32} : wm_X6_isDay Q x ↔ Q (b2 (isR x 0 9999)) := by
  unfold wm_X6_isDay
  by_cases a : x < 0 <;> by_cases b : 9999 < x <;> simp [b2, isN, isR, a, b]
theorem m_isTime {Q : Int32 → Prop} {x : Int32} : wm_X6_isTime Q x ↔ Q (b2 (isR x 0 100000)) := by
  unfold wm_X6_isTime
  by_cases a : x < 0 <;> by_cases b : 100000 < x <;> simp [b2, isN, isR, a, b]
theorem m_refuse {Q : Int32 → wS → Prop} {v : Int32} {σ : wS} : wm_X6_refuse Q v σ ↔ Q (-1) (sI σ 0 v) := ⟨fun h => h _ rfl, fun h _ e => e ▸ h⟩
theorem m_no {Q : Int32 → wS → Prop} {v : Int32} {σ : wS} : wm_X6_no Q v σ ↔ Q 0 (sI σ 0 v) := ⟨fun h => h _ rfl, fun h _ e => e ▸ h⟩
/-- a number as tested: 1 or 0 -/
theorem q_t {p : Prop} [Decidable p] (hp : p) {A B : Prop} (h : B) : (b2 p = 0 → A) ∧ (¬ b2 p = 0 → B) := ⟨fun e => absurd e (by rw [b2_0]; exact fun z => z hp), fun _ => h⟩
theorem q_f {p : Prop} [Decidable p] (hp : ¬ p) {A B : Prop} (h : A) : (b2 p = 0 → A) ∧ (¬ b2 p = 0 → B) := ⟨fun _ => h, fun e => absurd (b2_0.mpr hp) e⟩
theorem q_t' {p : Prop} [Decidable p] (hp : p) {A B : Prop} (h : B) : (¬ b2 p = 0 → B) ∧ (b2 p = 0 → A) := ⟨fun _ => h, fun e => absurd e (by rw [b2_0]; exact fun z => z hp)⟩
theorem q_f' {p : Prop} [Decidable p] (hp : ¬ p) {A B : Prop} (h : A) : (¬ b2 p = 0 → B) ∧ (b2 p = 0 → A) := ⟨fun e => absurd (b2_0.mpr hp) e, fun _ => h⟩
theorem i_t {c A B : Prop} (hc : c) (h : A) : (c → A) ∧ (¬ c → B) := ⟨fun _ => h, fun e => absurd hc e⟩
theorem i_f {c A B : Prop} (hc : ¬ c) (h : B) : (c → A) ∧ (¬ c → B) := ⟨fun e => absurd e hc, fun _ => h⟩
theorem i_t' {c A B : Prop} (hc : c) (h : A) : (¬ c → B) ∧ (c → A) := ⟨fun e => absurd hc e, fun _ => h⟩
theorem i_f' {c A B : Prop} (hc : ¬ c) (h : B) : (¬ c → B) ∧ (c → A) := ⟨fun _ => h, fun e => absurd e hc⟩
/-- the status of a call that needs a thing to be there and numbers to be possible -/
theorem why_eq {a b : Prop} [Decidable a] [Decidable b] : (if b2 a = 0 then (1 : Int32) else if b2 b = 0 then 2 else 0) = if a then (if b then 0 else 2) else 1 := by
  by_cases h : a <;> by_cases h2 : b <;> simp [b2, h, h2]
