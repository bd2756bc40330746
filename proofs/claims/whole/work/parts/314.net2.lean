theorem LM_len {σ : wS} {day w : Int32} {F : Nat} (h : ∀ f, f < F → (factM (σ.2.2.1 0 f) (σ.2.2.1 1 f) (σ.2.2.1 2 f) (σ.2.2.1 3 f)).length ≤ 2) : (LM σ day w F).length ≤ 2 * F := by
  induction F with
  | zero => exact Nat.le_refl _
  | succ F ih =>
    have h1 := ih (fun f hf => h f (by omega))
    have h2 := h F (by omega)
    unfold LM
    rw [List.length_append]
    split
    · omega
    · simp; omega
theorem factM_len (k a b d : Int32) : (factM k a b d).length ≤ 2 := by
  unfold factM factL
  split
  · split
    · simp
    · split
      · simp
      · split
        · simp
        · split
          · simp
          · split <;> simp
  · simp
theorem m_net {Q : wS → Prop} {σ : wS} {P Mo F : Nat} {day w : Int32} (hP : P ≤ 20) (hM : Mo ≤ 16) (hF : F ≤ 100) (h2 : σ.1 2 = nI P) (h3 : σ.1 3 = nI Mo) (h4 : σ.1 4 = nI F)
    (hf : ∀ f, f < F → ∃ k t c n t0 h0 l0 t1 h1 l1, rFact P Mo k t c n t0 h0 l0 t1 h1 l1 (σ.2.2.1 0 f) (σ.2.2.1 1 f) (σ.2.2.1 2 f) (σ.2.2.1 3 f) (σ.2.2.1 4 f) (σ.2.2.1 5 f))
    (hq : ∀ τ : wS, keepN σ τ → τ.1 6 = nI (bP P ++ bM Mo).length → mHas τ (bP P ++ bM Mo ++ LM σ day w F) → Q τ) : wm_X6_net Q day w σ := by
  have lP := bP_len P
  have lM := bM_len Mo
  have lB : (bP P ++ bM Mo).length = 2 * P + 5 * Mo := by rw [List.length_append, lP, lM]
  intro σ1 e1
  subst e1
  have facts : ∀ τ : wS, keepN σ τ → mHas τ (bP P ++ bM Mo) → ∃ n, wloop (wm_X6_net_L84 Q day w) n (0, sI τ 6 (τ.1 5)) := by
    intro τ kp hm
    have hm' : mHas (sI τ 6 (τ.1 5)) (bP P ++ bM Mo) := hm
    refine wloop_of (fun v : Int32 × wS => ∃ k : Nat, k ≤ F ∧ v.1 = nI k ∧ keepN σ v.2 ∧ v.2.1 6 = nI (bP P ++ bM Mo).length ∧ mHas v.2 (bP P ++ bM Mo ++ LM σ day w k)) (fun v => F - v.1.toNatClampNeg) ?_ _ ⟨0, Nat.zero_le _, rfl, kp.trans (keepN.int τ 6 _ (by omega)), hm.1, by unfold LM; rw [List.append_nil]; exact hm'⟩
    rintro K ⟨x3, υ⟩ ⟨k, hk, e3, kq, q6, gh⟩ kk
    dsimp only at e3 kq q6 gh kk
    subst e3
    have q4 : υ.1 4 = nI F := (kq.1 4 (by omega) (by omega) (by omega) (by omega) (by omega)).trans h4
    dsimp only [wm_X6_net_L84]
    rw [q4]
    refine ⟨fun c => ?_, fun c => ?_⟩
    · have hke : k = F := by have : F ≤ k := (nI_leI (by omega) (by omega)).mp c; omega
      subst hke
      exact hq υ kq q6 gh
    have hlt : k < F := Nat.lt_of_not_le (fun z => c ((nI_leI (by omega) (by omega)).mpr z))
    have hin : vp_in (nI k) 100 := nI_in (by omega) (by decide)
    have skip : ¬ (knows (σ.2.2.1 4 k) (σ.2.2.1 5 k) day ∧ ¬ nI k = w) → K (nI k + 1, υ) := by
      intro hn
      refine kk _ ⟨k + 1, by omega, nI_1 k, kq, q6, ?_⟩ ?_
      · dsimp only
        rw [show LM σ day w (k + 1) = LM σ day w k by
          conv => lhs; unfold LM
          rw [if_neg hn, List.append_nil]]
        exact gh
      · dsimp only
        rw [nI_1, nI_clamp (by omega), nI_clamp (by omega)]; omega
    rw [m_isKnown (by omega), kq.2 4 (by omega) (by omega) (by omega), kq.2 5 (by omega) (by omega) (by omega)]
    by_cases c1 : knows (σ.2.2.1 4 k) (σ.2.2.1 5 k) day
    · refine q_t c1 ⟨fun c2 => ⟨hin, fun a4 e4 => ⟨hin, fun a5 e5 => ⟨hin, ?_⟩⟩⟩, fun c2 a e => ?_⟩
      · subst e4; subst e5
        obtain ⟨kk1, t, c, n, t0, h0, l0, t1, h1, l1, hr⟩ := hf k hlt
        have hLl : (LM σ day w k).length ≤ 2 * k := LM_len (fun f _ => factM_len _ _ _ _)
        refine m_fact hP hM (by omega) kq gh (by rw [List.length_append, lB]; omega) hr (fun ω k1 k6 h1 => ?_)
        refine kk _ ⟨k + 1, by omega, nI_1 k, kq.trans k1, k6.trans q6, ?_⟩ ?_
        · dsimp only
          rw [show LM σ day w (k + 1) = LM σ day w k ++ factM (σ.2.2.1 0 k) (σ.2.2.1 1 k) (σ.2.2.1 2 k) (σ.2.2.1 3 k) by
            conv => lhs; unfold LM
            rw [if_pos ⟨c1, c2⟩]]
          rw [← List.append_assoc]
          exact h1
        · dsimp only
          rw [nI_1, nI_clamp (by omega), nI_clamp (by omega)]; omega
      · subst e; exact skip (fun z => z.2 c2)
    · refine q_f c1 (fun a e => ?_)
      subst e; exact skip (fun z => c1 z.1)
  have motifs : ∀ τ : wS, keepN σ τ → mHas τ (bP P) → ∃ n, wloop (wm_X6_net_L31 Q day w) n (0, τ) := by
    intro τ kp hm
    refine wloop_of (fun v : Int32 × wS => ∃ k : Nat, k ≤ Mo ∧ v.1 = nI k ∧ keepN σ v.2 ∧ mHas v.2 (bP P ++ bM k)) (fun v => Mo - v.1.toNatClampNeg) ?_ _ ⟨0, Nat.zero_le _, rfl, kp, by unfold bM; rw [List.append_nil]; exact hm⟩
    rintro K ⟨x3, υ⟩ ⟨k, hk, e3, kq, gh⟩ kk
    dsimp only at e3 kq gh kk
    subst e3
    have q3 : υ.1 3 = nI Mo := (kq.1 3 (by omega) (by omega) (by omega) (by omega) (by omega)).trans h3
    dsimp only [wm_X6_net_L31]
    rw [q3]
    refine ⟨fun c σ1 e1 => ?_, fun c => ?_⟩
    · have hke : k = Mo := by have : Mo ≤ k := (nI_leI (by omega) (by omega)).mp c; omega
      subst hke
      subst e1
      exact facts υ kq gh
    have hlt : k < Mo := Nat.lt_of_not_le (fun z => c ((nI_leI (by omega) (by omega)).mpr z))
    have lk := bM_len k
    refine m_bound (21 + 2 * k) gh (by rw [List.length_append, lP, lk]; omega) (mp_nI k) (fun τ1 k1 _ g1 => ?_)
    refine m_bound (22 + 2 * k) g1 (by simp only [List.length_append, List.length_cons, List.length_nil]; omega) (m_ea k) (fun τ2 k2 _ g2 => ?_)
    refine m_way (22 + 2 * k) (21 + 2 * k) 0 g2 (by simp only [List.length_append, List.length_cons, List.length_nil]; omega) (mp_nI k) (m_ea k) (by decide) (fun τ3 k3 _ g3 a13 e13 => ?_)
    subst e13
    refine kk _ ⟨k + 1, by omega, nI_1 k, kq.trans (k1.trans (k2.trans k3)), ?_⟩ ?_
    · dsimp only
      unfold bM
      simp only [List.append_assoc, List.cons_append, List.nil_append] at g3 ⊢
      exact g3
    · dsimp only
      rw [nI_1, nI_clamp (by omega), nI_clamp (by omega)]; omega
  refine wloop_of (fun v : Int32 × wS => ∃ k : Nat, k ≤ P ∧ v.1 = nI k ∧ keepN σ v.2 ∧ mHas v.2 (bP k)) (fun v => P - v.1.toNatClampNeg) ?_ _ ⟨0, Nat.zero_le _, rfl, keepN.int σ 5 0 (by omega), rfl, by simp [bP], fun k a h => by simp [bP] at h⟩
  rintro K ⟨x3, υ⟩ ⟨k, hk, e3, kq, gh⟩ kk
  dsimp only at e3 kq gh kk
  subst e3
  have q2 : υ.1 2 = nI P := (kq.1 2 (by omega) (by omega) (by omega) (by omega) (by omega)).trans h2
  dsimp only [wm_X6_net_L7]
  rw [q2]
  refine ⟨fun c => ?_, fun c => ?_⟩
  · have hke : k = P := by have : P ≤ k := (nI_leI (by omega) (by omega)).mp c; omega
    subst hke
    exact motifs υ kq gh
  have hlt : k < P := Nat.lt_of_not_le (fun z => c ((nI_leI (by omega) (by omega)).mpr z))
  have lk := bP_len k
  refine m_bound (1 + k) gh (by rw [lk]; omega) (pp_nI k) (fun τ1 k1 _ g1 a4 e4 => ?_)
  subst e4
  refine kk _ ⟨k + 1, by omega, nI_1 k, kq.trans k1, ?_⟩ ?_
  · dsimp only
    unfold bP
    exact g1
  · dsimp only
    rw [nI_1, nI_clamp (by omega), nI_clamp (by omega)]; omega
/-- what the reference's ways are: bounds that say no more than bd, and the limits -/
def arcs (P Mo : Nat) (A Lm : List gL) : Prop := (∀ a ∈ A, inE P Mo a.1 ∧ inE P Mo a.2.1 ∧ (a ∈ Lm ∨ bd a.1 a.2.1 ≤ a.2.2) ∧ -100000 ≤ a.2.2 ∧ a.2.2 ≤ 100000) ∧ (∀ a ∈ Lm, a ∈ A) ∧ (∀ v, inE P Mo v → v ≠ 0 → (v, 0, 0) ∈ A ∧ (0, v, 100000) ∈ A) ∧ ∀ m, m < Mo → (22 + 2 * m, 21 + 2 * m, 0) ∈ A
theorem bP_mem {k : Nat} {x : gL} : x ∈ bP k ↔ ∃ p, p < k ∧ (x = (1 + p, 0, 0) ∨ x = (0, 1 + p, 100000)) := by
  induction k with
  | zero => exact ⟨fun h => (by cases h), fun ⟨p, h, _⟩ => absurd h (Nat.not_lt_zero p)⟩
  | succ k ih =>
    unfold bP
    rw [List.mem_append, ih]
    simp only [List.mem_cons, List.not_mem_nil, or_false]
    constructor
    · rintro (⟨p, h1, h2⟩ | h)
      · exact ⟨p, by omega, h2⟩
      · exact ⟨k, by omega, h⟩
    · rintro ⟨p, h1, h2⟩
      by_cases e : p = k
      · subst e; exact Or.inr h2
      · exact Or.inl ⟨p, by omega, h2⟩
theorem bM_mem {k : Nat} {x : gL} : x ∈ bM k ↔ ∃ m, m < k ∧ (x = (21 + 2 * m, 0, 0) ∨ x = (0, 21 + 2 * m, 100000) ∨ x = (22 + 2 * m, 0, 0) ∨ x = (0, 22 + 2 * m, 100000) ∨ x = (22 + 2 * m, 21 + 2 * m, 0)) := by
  induction k with
  | zero => exact ⟨fun h => (by cases h), fun ⟨p, h, _⟩ => absurd h (Nat.not_lt_zero p)⟩
  | succ k ih =>
    unfold bM
    rw [List.mem_append, ih]
    simp only [List.mem_cons, List.not_mem_nil, or_false]
    constructor
    · rintro (⟨p, h1, h2⟩ | h)
      · exact ⟨p, by omega, h2⟩
      · exact ⟨k, by omega, h⟩
    · rintro ⟨p, h1, h2⟩
      by_cases e : p = k
      · subst e; exact Or.inr h2
      · exact Or.inl ⟨p, by omega, h2⟩
theorem arc_ok {P Mo t h : Nat} {len : Int} {Lm : List gL} (h1 : inE P Mo t) (h2 : inE P Mo h) (h3 : bd t h ≤ len) (h4 : -100000 ≤ len) (h5 : len ≤ 100000) : inE P Mo (t, h, len).1 ∧ inE P Mo (t, h, len).2.1 ∧ ((t, h, len) ∈ Lm ∨ bd (t, h, len).1 (t, h, len).2.1 ≤ (t, h, len).2.2) ∧ -100000 ≤ (t, h, len).2.2 ∧ (t, h, len).2.2 ≤ 100000 := ⟨h1, h2, Or.inr h3, h4, h5⟩
theorem inE_0 (P Mo : Nat) : inE P Mo 0 := Or.inl rfl
theorem inE_p {P Mo p : Nat} (h : p < P) : inE P Mo (1 + p) := Or.inr (Or.inl ⟨by omega, by omega⟩)
theorem inE_b {P Mo p : Nat} (h : p < Mo) : inE P Mo (21 + 2 * p) := Or.inr (Or.inr ⟨by omega, by omega⟩)
theorem inE_e {P Mo p : Nat} (h : p < Mo) : inE P Mo (22 + 2 * p) := Or.inr (Or.inr ⟨by omega, by omega⟩)
theorem arcs_of {P Mo : Nat} {L Lm : List gL} (hL : ∀ x ∈ Lm, okF P Mo x) (hm : ∀ x, x ∈ L ↔ x ∈ Lm) : arcs P Mo (bP P ++ bM Mo ++ L) Lm := by
  refine ⟨fun a ha => ?_, fun a ha => List.mem_append_right _ ((hm a).mpr ha), fun v hv h0 => ?_, fun m hmm => List.mem_append_left _ (List.mem_append_right _ (bM_mem.mpr ⟨m, hmm, Or.inr (Or.inr (Or.inr (Or.inr rfl)))⟩))⟩
  · rcases List.mem_append.mp ha with h | h
    · rcases List.mem_append.mp h with h | h
      · obtain ⟨p, hp, h | h⟩ := bP_mem.mp h
        · subst h
          exact arc_ok (inE_p hp) (inE_0 P Mo) (by rw [bd_to0]; omega) (by omega) (by omega)
        · subst h
          exact arc_ok (inE_0 P Mo) (inE_p hp) (bd_le _ _) (by omega) (by omega)
      · obtain ⟨p, hp, h | h | h | h | h⟩ := bM_mem.mp h
        · subst h
          exact arc_ok (inE_b hp) (inE_0 P Mo) (by rw [bd_to0]; omega) (by omega) (by omega)
        · subst h
          exact arc_ok (inE_0 P Mo) (inE_b hp) (bd_le _ _) (by omega) (by omega)
        · subst h
          exact arc_ok (inE_e hp) (inE_0 P Mo) (by rw [bd_to0]; omega) (by omega) (by omega)
        · subst h
          exact arc_ok (inE_0 P Mo) (inE_e hp) (bd_le _ _) (by omega) (by omega)
        · subst h
          exact arc_ok (inE_e hp) (inE_b hp) (by unfold bd; rw [if_pos (by omega)]; omega) (by omega) (by omega)
    · have hx := (hm a).mp h
      obtain ⟨h1, h2, h3, h4, -⟩ := hL a hx
      exact ⟨h1, h2, Or.inl hx, h3, h4⟩
  · have key : (v, 0, 0) ∈ bP P ++ bM Mo ∧ (0, v, 100000) ∈ bP P ++ bM Mo := by
      rcases hv with h | ⟨h1, h2⟩ | ⟨h1, h2⟩
      · exact absurd h h0
      · obtain ⟨p, rfl⟩ : ∃ p, v = 1 + p := ⟨v - 1, by omega⟩
        exact ⟨List.mem_append_left _ (bP_mem.mpr ⟨p, by omega, Or.inl rfl⟩), List.mem_append_left _ (bP_mem.mpr ⟨p, by omega, Or.inr rfl⟩)⟩
      · by_cases e : v % 2 = 1
        · obtain ⟨p, rfl⟩ : ∃ p, v = 21 + 2 * p := ⟨(v - 21) / 2, by omega⟩
          exact ⟨List.mem_append_right _ (bM_mem.mpr ⟨p, by omega, Or.inl rfl⟩), List.mem_append_right _ (bM_mem.mpr ⟨p, by omega, Or.inr (Or.inl rfl)⟩)⟩
        · obtain ⟨p, rfl⟩ : ∃ p, v = 22 + 2 * p := ⟨(v - 22) / 2, by omega⟩
          exact ⟨List.mem_append_right _ (bM_mem.mpr ⟨p, by omega, Or.inr (Or.inr (Or.inl rfl))⟩), List.mem_append_right _ (bM_mem.mpr ⟨p, by omega, Or.inr (Or.inr (Or.inr (Or.inl rfl)))⟩)⟩
    exact ⟨List.mem_append_left _ key.1, List.mem_append_left _ key.2⟩
