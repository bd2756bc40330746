/-! BEST: one plan for both -/
theorem vl_sm {V : Nat → Nat} (c : Nat → Bool) : ∀ n, vl (fun k => (V k : Int)) c n = ((fb_sm (fun k => if c k = true then V k else 0) n : Nat) : Int)
  | 0 => rfl
  | n + 1 => by
    unfold vl
    rw [fb_sm_succ, vl_sm c n]
    split <;> omega
def Sw (f : Nat → Nat) (d : Nat → Bool) (P : Nat) : Nat := fb_sm (fun q => if d q = true then f q else 0) P
theorem vl_Sw (l : Nat → Nat) (f : Nat → Nat) (d : Nat → Bool) (P : Nat) : vl (fun k => (f (oS l P k) : Int)) (fun k => d (oS l P k)) P = (Sw f d P : Int) := by
  rw [vl_sm (V := fun k => f (oS l P k))]
  congr 1
  exact sAll_sum (fun p => (l p : Int)) (fun q => if d q = true then f q else 0) P
def pw (q : Nat) : Nat := 2 ^ (19 - q)
theorem Sw_vX (w : Nat → Nat) (d : Nat → Bool) : ∀ P, Sw (vX w) d P = 2 ^ 20 * Sw w d P + Sw pw d P
  | 0 => rfl
  | P + 1 => by
    have h := Sw_vX w d P
    unfold Sw at *
    rw [fb_sm_succ, fb_sm_succ, fb_sm_succ, h]
    by_cases c : d P = true
    · rw [if_pos c, if_pos c, if_pos c]; unfold vX pw; omega
    · rw [if_neg c, if_neg c, if_neg c]; omega
theorem pw_step {P : Nat} (h : P < 20) : 2 ^ (20 - P) = 2 * pw P := by
  unfold pw
  rw [show 20 - P = (19 - P) + 1 by omega, Nat.pow_succ]; omega
/-- what lies behind a place is less than its own weight -/
theorem Sw_tail (d : Nat → Bool) {p : Nat} : ∀ P : Nat, p ≤ P → P ≤ 20 → Sw pw d P + 2 ^ (20 - P) ≤ Sw pw d p + 2 ^ (20 - p)
  | 0, h, _ => by have : p = 0 := by omega
                  subst this; exact Nat.le_refl _
  | P + 1, h, h2 => by
    by_cases e : p = P + 1
    · subst e; exact Nat.le_refl _
    · have hpP : p ≤ P := by omega
      have ih := Sw_tail d (p := p) P hpP (by omega)
      have e1 : Sw pw d (P + 1) ≤ Sw pw d P + pw P := by unfold Sw; rw [fb_sm_succ]; split <;> omega
      have e2 := pw_step (P := P) (by omega)
      have e3 : 2 ^ (20 - (P + 1)) = pw P := by unfold pw; congr 1; omega
      omega
theorem Sw_lt (d : Nat → Bool) {P : Nat} (h : P ≤ 20) : Sw pw d P < 2 ^ 20 := by
  have := Sw_tail d (p := 0) P (by omega) h
  have : 0 < 2 ^ (20 - P) := Nat.pos_of_ne_zero (by simp)
  have e : Sw pw d 0 = 0 := rfl
  omega
theorem Sw_mult (d : Nat → Bool) : ∀ p, p ≤ 20 → ∃ A, Sw pw d p = A * 2 ^ (20 - p)
  | 0, _ => ⟨0, by rw [Nat.zero_mul]; rfl⟩
  | p + 1, h => by
    obtain ⟨A, hA⟩ := Sw_mult d p (by omega)
    have e2 := pw_step (P := p) (by omega)
    have e3 : 2 ^ (20 - (p + 1)) = pw p := by unfold pw; congr 1; omega
    rw [e3]
    by_cases c : d p = true
    · refine ⟨2 * A + 1, ?_⟩
      have : Sw pw d (p + 1) = Sw pw d p + pw p := by unfold Sw; rw [fb_sm_succ, if_pos c]
      rw [this, hA, e2, Nat.add_mul, Nat.one_mul, ← Nat.mul_assoc, Nat.mul_comm A 2]
    · refine ⟨2 * A, ?_⟩
      have : Sw pw d (p + 1) = Sw pw d p := by unfold Sw; rw [fb_sm_succ, if_neg c]; omega
      rw [this, hA, e2, ← Nat.mul_assoc, Nat.mul_comm A 2]
theorem Sw_bit (d : Nat → Bool) {P p W : Nat} (hP : P ≤ 20) (hp : p < P) : (2 ^ 20 * W + Sw pw d P).testBit (19 - p) = d p := by
  have t1 := Sw_tail d (p := p + 1) P (by omega) hP
  have p0 : 0 < 2 ^ (20 - P) := Nat.pos_of_ne_zero (by simp)
  have e3 : 2 ^ (20 - (p + 1)) = pw p := by unfold pw; congr 1; omega
  have mono : Sw pw d (p + 1) ≤ Sw pw d P := by
    have := fb_sm_mono (fun q => if d q = true then pw q else 0) (p + 1) (P - (p + 1))
    rw [show p + 1 + (P - (p + 1)) = P by omega] at this
    exact this
  obtain ⟨A, hA⟩ := Sw_mult d p (by omega)
  have e2 := pw_step (P := p) (by omega)
  have pp : 0 < pw p := Nat.pos_of_ne_zero (by unfold pw; simp)
  have e4 : ∃ B, 2 ^ 20 = B * pw p * 2 := ⟨2 ^ p, by
    unfold pw
    rw [← Nat.pow_add, ← Nat.pow_succ]
    congr 1
    omega⟩
  obtain ⟨B, hB⟩ := e4
  rw [Nat.testBit_eq_decide_div_mod_eq]
  show decide ((2 ^ 20 * W + Sw pw d P) / pw p % 2 = 1) = d p
  obtain ⟨R, hR, hRl⟩ : ∃ R, Sw pw d P = Sw pw d (p + 1) + R ∧ R < pw p := ⟨Sw pw d P - Sw pw d (p + 1), by omega, by omega⟩
  have key : (2 ^ 20 * W + Sw pw d P) / pw p = 2 * (B * W + A) + (if d p = true then 1 else 0) := by
    have hs : Sw pw d (p + 1) = A * (2 * pw p) + (if d p = true then 1 else 0) * pw p := by
      have : Sw pw d (p + 1) = Sw pw d p + (if d p = true then pw p else 0) := rfl
      rw [this, hA, e2]
      split <;> simp
    rw [hR, hs, hB]
    apply Nat.div_eq_of_lt_le
    · generalize (if d p = true then 1 else 0) = b
      have : (2 * (B * W + A) + b) * pw p = B * pw p * 2 * W + (A * (2 * pw p) + b * pw p) := by
        rw [Nat.add_mul, Nat.mul_add, Nat.add_mul]
        rw [show 2 * (B * W) * pw p = B * pw p * 2 * W by ac_rfl, show 2 * A * pw p = A * (2 * pw p) by ac_rfl]
        omega
      omega
    · generalize (if d p = true then 1 else 0) = b
      have : (2 * (B * W + A) + b + 1) * pw p = B * pw p * 2 * W + (A * (2 * pw p) + b * pw p) + pw p := by
        rw [Nat.add_mul, Nat.add_mul, Nat.mul_add, Nat.add_mul]
        rw [show 2 * (B * W) * pw p = B * pw p * 2 * W by ac_rfl, show 2 * A * pw p = A * (2 * pw p) by ac_rfl]
        omega
      omega
  rw [key]
  cases hd : d p with
  | true => simp
  | false => simp
theorem Sw_agree {f : Nat → Nat} {c d : Nat → Bool} {p : Nat} (h : ∀ q, q < p → c q = d q) : Sw f c p = Sw f d p := fb_sm_cong (fun k hk => by rw [h k hk])
theorem Sw_lex {c d : Nat → Bool} {P p : Nat} (hP : P ≤ 20) (hp : p < P) (h : ∀ q, q < p → c q = d q) (h1 : c p = true) (h2 : d p = false) : Sw pw d P < Sw pw c P := by
  have t1 := Sw_tail d (p := p + 1) P (by omega) hP
  have p0 : 0 < 2 ^ (20 - P) := Nat.pos_of_ne_zero (by simp)
  have e3 : 2 ^ (20 - (p + 1)) = pw p := by unfold pw; congr 1; omega
  have mono : Sw pw c (p + 1) ≤ Sw pw c P := by
    have := fb_sm_mono (fun q => if c q = true then pw q else 0) (p + 1) (P - (p + 1))
    rw [show p + 1 + (P - (p + 1)) = P by omega] at this
    exact this
  have a1 : Sw pw c (p + 1) = Sw pw c p + pw p := by unfold Sw; rw [fb_sm_succ, if_pos h1]
  have a2 : Sw pw d (p + 1) = Sw pw d p := by unfold Sw; rw [fb_sm_succ, if_neg (by rw [h2]; simp)]; omega
  have a3 := Sw_agree (f := pw) h
  omega
theorem to_d (l : Nat → Nat) (P : Nat) (c : Nat → Bool) : ∃ d : Nat → Bool, ∀ k, k < P → d (oS l P k) = c k := by
  classical
  refine ⟨fun q => decide (∃ k, k < P ∧ oS l P k = q ∧ c k = true), fun k hk => ?_⟩
  cases hck : c k with
  | true => exact decide_eq_true ⟨k, hk, rfl, hck⟩
  | false =>
    refine decide_eq_false ?_
    rintro ⟨j, hj, e1, e2⟩
    rcases Nat.lt_trichotomy j k with h | h | h
    · exact sAll_inj _ h hk e1
    · subst h; rw [hck] at e2; cases e2
    · exact sAll_inj _ h hj e1.symm
/-- the plan that both find -/
def isPl (P : Nat) (w h l : Nat → Nat) (d : Nat → Bool) : Prop :=
  fe (fun k => h (oS l P k)) (fun k => l (oS l P k)) tt tt (fun k => d (oS l P k)) P ∧ isBst (fun k => h (oS l P k)) (fun k => l (oS l P k)) (fun k => (w (oS l P k) : Int)) tt tt P (Sw w d P : Int) ∧
  ∀ d' : Nat → Bool, fe (fun k => h (oS l P k)) (fun k => l (oS l P k)) tt tt (fun k => d' (oS l P k)) P → Sw w d' P = Sw w d P → Sw pw d' P ≤ Sw pw d P
theorem isPl_of {P : Nat} {w h l : Nat → Nat} {M : Nat} (hP : P ≤ 20) (hM : isBst (fun k => h (oS l P k)) (fun k => l (oS l P k)) (fun k => (vX w (oS l P k) : Int)) tt tt P (M : Int)) : ∃ d : Nat → Bool, isPl P w h l d ∧ M = 2 ^ 20 * Sw w d P + Sw pw d P := by
  obtain ⟨m1, m2⟩ := hM
  obtain ⟨c, c1, c2⟩ : ∃ c, fe (fun k => h (oS l P k)) (fun k => l (oS l P k)) tt tt c P ∧ vl (fun k => (vX w (oS l P k) : Int)) c P = (M : Int) := by
    rcases m2 with z | z
    · omega
    · exact z
  obtain ⟨d, hd⟩ := to_d l P c
  have fd : fe (fun k => h (oS l P k)) (fun k => l (oS l P k)) tt tt (fun k => d (oS l P k)) P := fe_cong (fun i hi => (hd i hi).symm) c1
  have vd : vl (fun k => (vX w (oS l P k) : Int)) (fun k => d (oS l P k)) P = (M : Int) := (vl_cong (fun i hi => hd i hi)).trans c2
  rw [vl_Sw, Sw_vX] at vd
  have bd := Sw_lt d hP
  have others : ∀ d' : Nat → Bool, fe (fun k => h (oS l P k)) (fun k => l (oS l P k)) tt tt (fun k => d' (oS l P k)) P → 2 ^ 20 * Sw w d' P + Sw pw d' P ≤ 2 ^ 20 * Sw w d P + Sw pw d P := by
    intro d' hd'
    have h1 := m1 _ hd'
    rw [vl_Sw, Sw_vX] at h1
    omega
  refine ⟨d, ⟨fd, ⟨fun c' hc' => ?_, Or.inr ⟨_, fd, vl_Sw l w d P⟩⟩, fun d' hd' he => ?_⟩, by omega⟩
  · obtain ⟨d', hd'⟩ := to_d l P c'
    have f' := fe_cong (fun i hi => (hd' i hi).symm) hc'
    have h1 := others d' f'
    rw [← vl_cong (V := fun k => (w (oS l P k) : Int)) (fun i hi => hd' i hi), vl_Sw]
    have bd' := Sw_lt d' hP
    omega
  · have := others d' hd'
    rw [he] at this
    omega
/-- what the reference finds when it asks for plate p -/
theorem ask {P p : Nat} {w h l : Nat → Nat} {d : Nat → Bool} {fx : Nat → Nat} {r : Int} (hP : P ≤ 20) (hp : p < P) (hpl : isPl P w h l d) (hfx : ∀ q, q < P → fx q = if q < p then (if d q = true then 1 else 2) else if q = p then 1 else 0)
    (hr : isBst (fun k => h (oS l P k)) (fun k => l (oS l P k)) (fun k => (w (oS l P k) : Int)) (zF fx (oS l P)) (yF fx (oS l P)) P r) : r = (Sw w d P : Int) ↔ d p = true := by
  obtain ⟨f1, f2, f3⟩ := hpl
  obtain ⟨r1, r2⟩ := hr
  have hol : ∀ k, k < P → oS l P k < P := fun k hk => sAll_lt _ hk
  have wk : ∀ c, fe (fun k => h (oS l P k)) (fun k => l (oS l P k)) (zF fx (oS l P)) (yF fx (oS l P)) c P → fe (fun k => h (oS l P k)) (fun k => l (oS l P k)) tt tt c P := fun c hc i hi => ⟨fun z => ⟨rfl, ((hc i hi).1 z).2⟩, fun _ => rfl⟩
  have rle : r ≤ (Sw w d P : Int) := by
    rcases r2 with z | ⟨c, c1, c2⟩
    · omega
    · have := f2.1 c (wk c c1); omega
  constructor
  · intro hre
    rcases r2 with z | ⟨c, c1, c2⟩
    · omega
    obtain ⟨d', hd'⟩ := to_d l P c
    have fd' : fe (fun k => h (oS l P k)) (fun k => l (oS l P k)) tt tt (fun k => d' (oS l P k)) P := fe_cong (fun i hi => (hd' i hi).symm) (wk c c1)
    have v' : (Sw w d' P : Int) = r := by
      rw [← vl_Sw l w d' P, vl_cong (fun i hi => hd' i hi)]; exact c2
    have agr : ∀ q, q < P → (fx q = 1 → d' q = true) ∧ (fx q = 2 → d' q = false) := by
      intro q hq
      obtain ⟨k, hk, hkq⟩ := sAll_onto (fun p => (l p : Int)) hq
      have hkq : oS l P k = q := hkq
      have h1 := c1 k hk
      rw [← hd' k hk, hkq] at h1
      unfold zF yF at h1
      rw [hkq] at h1
      constructor
      · intro e
        cases hdq : d' q with
        | true => rfl
        | false => have := h1.2 hdq; rw [e] at this; simp at this
      · intro e
        cases hdq : d' q with
        | false => rfl
        | true => have := (h1.1 hdq).1; rw [e] at this; simp at this
    apply Classical.byContradiction
    intro hdp
    have hdp : d p = false := by cases hh : d p with | true => exact absurd hh hdp | false => rfl
    have lx := Sw_lex (c := d') (d := d) hP hp (fun q hq => ?_) ?_ hdp
    · have := f3 d' fd' (by omega)
      omega
    · have a := agr q (by omega)
      rw [hfx q (by omega), if_pos hq] at a
      cases hdq : d q with
      | true => rw [hdq] at a; exact a.1 rfl
      | false => rw [hdq] at a; exact a.2 rfl
    · have a := agr p hp
      rw [hfx p hp, if_neg (by omega), if_pos rfl] at a
      exact a.1 rfl
  · intro hdp
    have := r1 (fun k => d (oS l P k)) (fun i hi => ?_)
    · rw [vl_Sw] at this; omega
    · have b := (f1 i hi)
      have hq := hol i hi
      refine ⟨fun z => ⟨?_, (b.1 z).2⟩, fun z => ?_⟩
      · have z : d (oS l P i) = true := z
        unfold yF
        rw [hfx _ hq, z]
        apply decide_eq_true
        split
        · rw [if_pos rfl]; omega
        · split <;> omega
      · have z : d (oS l P i) = false := z
        unfold zF
        rw [hfx _ hq, z]
        apply decide_eq_true
        split
        · rw [if_neg (by simp)]; omega
        · split
          · next e => rw [e, hdp] at z; cases z
          · omega
