/-- what neither net nor goes changes: the status too -/
def keepN (σ σ1 : wS) : Prop := (∀ k, k ≠ 1 → k ≠ 1 → k ≠ 5 → k ≠ 6 → k ≠ 8 → σ1.1 k = σ.1 k) ∧ ∀ a, (a < 6 ∨ 7 < a) → (a < 11 ∨ 13 < a) → (a < 17 ∨ 20 < a) → σ1.2.2.1 a = σ.2.2.1 a
theorem keepN.rf (σ : wS) : keepN σ σ := ⟨fun _ _ _ _ _ _ => rfl, fun _ _ _ _ => rfl⟩
theorem keepN.trans {a b c : wS} (h : keepN a b) (h2 : keepN b c) : keepN a c := ⟨fun k k1 k2 k3 k4 k5 => (h2.1 k k1 k2 k3 k4 k5).trans (h.1 k k1 k2 k3 k4 k5), fun k k1 k2 k3 => (h2.2 k k1 k2 k3).trans (h.2 k k1 k2 k3)⟩
theorem keepN.int (σ : wS) (k : Nat) (v : Int32) (h : k = 1 ∨ k = 5 ∨ k = 6 ∨ k = 8) : keepN σ (sI σ k v) := ⟨fun j h0 h1 h2 h3 h4 => va_up_ne _ _ (by omega), fun _ _ _ _ => rfl⟩
theorem keepN.arr (σ : wS) (a : Nat) (f : Nat → Int32) (h : a = 6 ∨ a = 7 ∨ (11 ≤ a ∧ a ≤ 13) ∨ (17 ≤ a ∧ a ≤ 20)) : keepN σ (sAF σ a f) := ⟨fun _ _ _ _ _ _ => rfl, fun k h1 h2 h3 => va_up_ne _ _ (by omega)⟩
theorem keepN.larr (σ : wS) (k : Nat) (f : Nat → Int64) : keepN σ (sBF σ k f) := ⟨fun _ _ _ _ _ _ => rfl, fun _ _ _ _ => rfl⟩
theorem keepN.M {a b : wS} (h : keepN a b) : keepM a b := ⟨fun k k1 k2 k3 k4 k5 => h.1 k k2 k2 k3 k4 k5, h.2⟩
theorem keepN.st {a b : wS} (h : keepN a b) : b.1 0 = a.1 0 := h.1 0 (by omega) (by omega) (by omega) (by omega) (by omega)
/-! NET: the reference's ways; a limit (t, h, len) stands there as a way from h to t with more = -len -/
def mHas (σ : wS) (A : List gL) : Prop := σ.1 5 = nI A.length ∧ A.length ≤ 400 ∧ ∀ (k : Nat) (a : gL), A[k]? = some a → σ.2.2.1 6 k = nI a.2.1 ∧ σ.2.2.1 7 k = nI a.1 ∧ (σ.2.2.2 0 k).toInt = -a.2.2
theorem m_way {Q : wS → Prop} {σ : wS} {A : List gL} {x y : Int32} {z : Int64} (t h : Nat) (len : Int) (hm : mHas σ A) (hA : A.length < 400) (hx : x = nI h) (hy : y = nI t) (hz : z.toInt = -len) (hq : ∀ τ : wS, keepN σ τ → τ.1 6 = σ.1 6 → mHas τ (A ++ [(t, h, len)]) → Q τ) : wm_X6_way Q x y z σ := by
  obtain ⟨m5, ml, ma⟩ := hm
  have hin : vp_in (nI A.length) 400 := nI_in hA (by decide)
  have hcl : (nI A.length).toNatClampNeg = A.length := nI_clamp (by omega)
  unfold wm_X6_way
  rw [m5]
  refine ⟨hin, fun σ1 e1 => ?_⟩
  have q1 : σ1.1 5 = nI A.length := by subst e1; exact m5
  rw [q1]
  refine ⟨hin, fun σ2 e2 => ?_⟩
  have q2 : σ2.1 5 = nI A.length := by subst e2; exact q1
  rw [q2]
  refine ⟨hin, fun σ3 e3 σ4 e4 => ?_⟩
  have q3 : σ3.1 5 = nI A.length := by subst e3; exact q2
  rw [q3, nI_1] at e4
  have kp : keepN σ σ4 := by
    subst e4; subst e3; subst e2; subst e1
    exact (keepN.arr _ 6 _ (by omega)).trans ((keepN.arr _ 7 _ (by omega)).trans ((keepN.larr _ 0 _).trans (keepN.int _ 5 _ (by omega))))
  have s6 : σ4.2.2.1 6 = upd (σ.2.2.1 6) A.length x := by subst e4; subst e3; subst e2; subst e1; show upd (σ.2.2.1 6) (nI A.length).toNatClampNeg x = _; rw [hcl]
  have s7 : σ4.2.2.1 7 = upd (σ.2.2.1 7) A.length y := by subst e4; subst e3; subst e2; subst e1; show upd (σ.2.2.1 7) (nI A.length).toNatClampNeg y = _; rw [hcl]
  have s0 : σ4.2.2.2 0 = vp_updL (σ.2.2.2 0) A.length z := by subst e4; subst e3; subst e2; subst e1; show vp_updL (σ.2.2.2 0) (nI A.length).toNatClampNeg z = _; rw [hcl]
  have s5 : σ4.1 5 = nI (A.length + 1) := by subst e4; rfl
  have s66 : σ4.1 6 = σ.1 6 := by subst e4; subst e3; subst e2; subst e1; rfl
  refine hq σ4 kp s66 ⟨by rw [s5, List.length_append]; rfl, by rw [List.length_append]; simp; omega, fun k a hk => ?_⟩
  rw [s6, s7, s0]
  by_cases hlt : k < A.length
  · rw [List.getElem?_append_left hlt] at hk
    rw [pk_un (by omega), pk_un (by omega), pk_uLn (by omega)]
    exact ma k a hk
  · rw [List.getElem?_append_right (by omega)] at hk
    have hke : k = A.length := by have := (List.getElem?_eq_some_iff.mp hk).1; simp at this; omega
    subst hke
    rw [Nat.sub_self] at hk
    cases hk
    rw [pk_us, pk_us, pk_uLs]
    exact ⟨hx, hy, hz⟩
theorem m_bound {Q : wS → Prop} {σ : wS} {A : List gL} {x : Int32} (t : Nat) (hm : mHas σ A) (hA : A.length + 2 ≤ 400) (hx : x = nI t) (hq : ∀ τ : wS, keepN σ τ → τ.1 6 = σ.1 6 → mHas τ (A ++ [(t, 0, 0), (0, t, 100000)]) → Q τ) : wm_X6_bound Q x σ := by
  refine m_way t 0 0 hm (by omega) rfl hx (by decide) (fun τ k1 k6 h1 => m_way 0 t 100000 h1 (by rw [List.length_append]; simp; omega) hx rfl (by decide) (fun υ k2 k7 h2 => hq υ (k1.trans k2) (k7.trans k6) ?_))
  rw [List.append_assoc] at h2
  exact h2
theorem m_within {Q : wS → Prop} {σ : wS} {A : List gL} {x b d : Int32} (t : Nat) (hm : mHas σ A) (hA : A.length + 2 ≤ 400) (hx : x = nI t) (hb : 0 ≤ b.toInt ∧ b.toInt ≤ d.toInt ∧ d.toInt ≤ 100000) (hq : ∀ τ : wS, keepN σ τ → τ.1 6 = σ.1 6 → mHas τ (A ++ [(t, 0, -b.toInt), (0, t, d.toInt)]) → Q τ) : wm_X6_within Q x b d σ := by
  refine m_way t 0 (-b.toInt) hm (by omega) rfl hx (by rw [Int32.toInt_toInt64]; omega) (fun τ k1 k6 h1 => m_way 0 t d.toInt h1 (by rw [List.length_append]; simp; omega) hx rfl ?_ (fun υ k2 k7 h2 => hq υ (k1.trans k2) (k7.trans k6) ?_))
  · rw [Int32.toInt_toInt64]; exact neg_int (by omega) (by omega)
  · rw [List.append_assoc] at h2
    exact h2
def bP : Nat → List gL
  | 0 => []
  | k + 1 => bP k ++ [(1 + k, 0, 0), (0, 1 + k, 100000)]
def bM : Nat → List gL
  | 0 => []
  | k + 1 => bM k ++ [(21 + 2 * k, 0, 0), (0, 21 + 2 * k, 100000), (22 + 2 * k, 0, 0), (0, 22 + 2 * k, 100000), (22 + 2 * k, 21 + 2 * k, 0)]
theorem bP_len : ∀ k, (bP k).length = 2 * k
  | 0 => rfl
  | k + 1 => by unfold bP; rw [List.length_append, bP_len k]; simp; omega
theorem bM_len : ∀ k, (bM k).length = 5 * k
  | 0 => rfl
  | k + 1 => by unfold bM; rw [List.length_append, bM_len k]; simp; omega
def factM (k a b d : Int32) : List gL := if k = 0 ∨ k = 1 ∨ k = 2 ∨ k = 3 ∨ k = 4 then factL k a b d else [(1 + b.toNatClampNeg, 1 + a.toNatClampNeg, 0), (1 + a.toNatClampNeg, 1 + b.toNatClampNeg, 0)]
theorem factM_mem {k a b d : Int32} {x : gL} : x ∈ factM k a b d ↔ x ∈ factL k a b d := by
  unfold factM
  by_cases h : k = 0 ∨ k = 1 ∨ k = 2 ∨ k = 3 ∨ k = 4
  · rw [if_pos h]
  · rw [if_neg h]
    have h0 : ¬ k = 0 := fun z => h (Or.inl z)
    have h1 : ¬ k = 1 := fun z => h (Or.inr (Or.inl z))
    have h2 : ¬ k = 2 := fun z => h (Or.inr (Or.inr (Or.inl z)))
    have h3 : ¬ k = 3 := fun z => h (Or.inr (Or.inr (Or.inr (Or.inl z))))
    have h4 : ¬ k = 4 := fun z => h (Or.inr (Or.inr (Or.inr (Or.inr z))))
    unfold factL
    rw [if_neg h0, if_neg h1, if_neg h2, if_neg h3, if_neg h4]
    simp only [List.mem_cons, List.not_mem_nil, or_false]
    exact Or.comm
def LM (σ : wS) (day w : Int32) : Nat → List gL
  | 0 => []
  | F + 1 => LM σ day w F ++ (if knows (σ.2.2.1 4 F) (σ.2.2.1 5 F) day ∧ ¬ nI F = w then factM (σ.2.2.1 0 F) (σ.2.2.1 1 F) (σ.2.2.1 2 F) (σ.2.2.1 3 F) else [])
theorem LM_mem {σ : wS} {day w : Int32} {F : Nat} {x : gL} : x ∈ LM σ day w F ↔ x ∈ LF σ day w F := by
  induction F with
  | zero => exact Iff.rfl
  | succ F ih =>
    unfold LM LF
    rw [List.mem_append, List.mem_append, ih]
    split
    · rw [factM_mem]
    · exact Iff.rfl
theorem m_isKnown {Q : Int32 → Prop} {σ : wS} {f : Nat} {day : Int32} (hf : f < 100) : wm_X6_isKnown Q (nI f) day σ ↔ Q (b2 (knows (σ.2.2.1 4 f) (σ.2.2.1 5 f) day)) := by
  have hin : vp_in (nI f) 100 := nI_in hf (by decide)
  have hcl : (nI f).toNatClampNeg = f := nI_clamp (by omega)
  have e1 : aI σ 4 (nI f) = σ.2.2.1 4 f := by show σ.2.2.1 4 (nI f).toNatClampNeg = _; rw [hcl]
  have e2 : aI σ 5 (nI f) = σ.2.2.1 5 f := by show σ.2.2.1 5 (nI f).toNatClampNeg = _; rw [hcl]
  unfold wm_X6_isKnown
  rw [e1, e2]
  simp only [hin, true_and]
  by_cases c1 : day < σ.2.2.1 4 f
  · rw [b2_f (fun z => z.1 c1)]; simp [c1]
  · by_cases c2 : σ.2.2.1 5 f < 0
    · rw [b2_t ⟨c1, Or.inl c2⟩]; simp [c1, c2]
    · by_cases c3 : σ.2.2.1 5 f ≤ day
      · rw [b2_f (fun z => z.2.elim c2 (fun y => y c3))]; simp [c1, c2, c3]
      · rw [b2_t ⟨c1, Or.inr c3⟩]; simp [c1, c2, c3]
theorem m_ea (j : Nat) : (22 : Int32) + 2 * nI j = nI (22 + 2 * j) := by
  show nI 22 + nI 2 * nI j = _
  rw [pk_mul, nI_add]
/-- one fact's ways -/
theorem m_fact {σ τ : wS} {P Mo f : Nat} {A : List gL} {K : Int32 × wS → Prop} (hP : P ≤ 20) (hM : Mo ≤ 16) (hf : f < 100) (kp : keepN σ τ) (hm : mHas τ A) (hA : A.length + 2 ≤ 400)
    {k t c n t0 h0 l0 t1 h1 l1 : Int32} (hr : rFact P Mo k t c n t0 h0 l0 t1 h1 l1 (σ.2.2.1 0 f) (σ.2.2.1 1 f) (σ.2.2.1 2 f) (σ.2.2.1 3 f) (σ.2.2.1 4 f) (σ.2.2.1 5 f))
    (hq : ∀ υ : wS, keepN τ υ → υ.1 6 = τ.1 6 → mHas υ (A ++ factM (σ.2.2.1 0 f) (σ.2.2.1 1 f) (σ.2.2.1 2 f) (σ.2.2.1 3 f)) → K (nI f + 1, υ)) :
    ((aI τ 0 (nI f)) = 0 → wm_X6_begins (fun r6 => wm_X6_placeOf (fun r8 => wm_X6_way (fun σ10 => wm_X6_placeOf (fun r11 => wm_X6_endsAt (fun r13 => wm_X6_way (fun σ15 => ∀ a16 : Int32, a16 = nI f + 1 → K (a16, σ15)) r11 r13 0 σ10) (aI τ 2 (nI f))) (aI τ 1 (nI f))) r6 r8 0 τ) (aI τ 1 (nI f))) (aI τ 2 (nI f))) ∧ ((aI τ 0 (nI f)) = 1 → wm_X6_placeOf (fun r17 => wm_X6_placeOf (fun r19 => vp_in (nI f) 100 ∧ wm_X6_way (fun σ21 => ∀ a22 : Int32, a22 = nI f + 1 → K (a22, σ21)) r17 r19 (Int32.toInt64 (aI τ 3 (nI f))) τ) (aI τ 2 (nI f))) (aI τ 1 (nI f))) ∧ ((aI τ 0 (nI f)) = 2 → wm_X6_placeOf (fun r23 => vp_in (nI f) 100 ∧ wm_X6_within (fun σ25 => ∀ a26 : Int32, a26 = nI f + 1 → K (a26, σ25)) r23 (aI τ 2 (nI f)) (aI τ 3 (nI f)) τ) (aI τ 1 (nI f))) ∧ ((aI τ 0 (nI f)) = 3 → wm_X6_begins (fun r27 => vp_in (nI f) 100 ∧ wm_X6_within (fun σ29 => ∀ a30 : Int32, a30 = nI f + 1 → K (a30, σ29)) r27 (aI τ 2 (nI f)) (aI τ 3 (nI f)) τ) (aI τ 1 (nI f))) ∧ ((aI τ 0 (nI f)) = 4 → wm_X6_endsAt (fun r31 => vp_in (nI f) 100 ∧ wm_X6_within (fun σ33 => ∀ a34 : Int32, a34 = nI f + 1 → K (a34, σ33)) r31 (aI τ 2 (nI f)) (aI τ 3 (nI f)) τ) (aI τ 1 (nI f))) ∧ (¬ (aI τ 0 (nI f)) = 0 → ¬ (aI τ 0 (nI f)) = 1 → ¬ (aI τ 0 (nI f)) = 2 → ¬ (aI τ 0 (nI f)) = 3 → ¬ (aI τ 0 (nI f)) = 4 → wm_X6_placeOf (fun r35 => wm_X6_placeOf (fun r37 => wm_X6_way (fun σ39 => wm_X6_placeOf (fun r40 => wm_X6_placeOf (fun r42 => wm_X6_way (fun σ44 => ∀ a45 : Int32, a45 = nI f + 1 → K (a45, σ44)) r40 r42 0 σ39) (aI τ 1 (nI f))) (aI τ 2 (nI f))) r35 r37 0 τ) (aI τ 2 (nI f))) (aI τ 1 (nI f))) := by
  have hin : vp_in (nI f) 100 := nI_in hf (by decide)
  have hcl : (nI f).toNatClampNeg = f := nI_clamp (by omega)
  have e0 : aI τ 0 (nI f) = σ.2.2.1 0 f := by show τ.2.2.1 0 (nI f).toNatClampNeg = _; rw [hcl, kp.2 0 (by omega) (by omega) (by omega)]
  have e1 : aI τ 1 (nI f) = σ.2.2.1 1 f := by show τ.2.2.1 1 (nI f).toNatClampNeg = _; rw [hcl, kp.2 1 (by omega) (by omega) (by omega)]
  have e2 : aI τ 2 (nI f) = σ.2.2.1 2 f := by show τ.2.2.1 2 (nI f).toNatClampNeg = _; rw [hcl, kp.2 2 (by omega) (by omega) (by omega)]
  have e3 : aI τ 3 (nI f) = σ.2.2.1 3 f := by show τ.2.2.1 3 (nI f).toNatClampNeg = _; rw [hcl, kp.2 3 (by omega) (by omega) (by omega)]
  rw [e0, e1, e2, e3]
  obtain ⟨r1, r2, r3, r4, r5, h⟩ := hr
  generalize σ.2.2.1 0 f = mk at *
  generalize σ.2.2.1 1 f = ma at *
  generalize σ.2.2.1 2 f = mb at *
  generalize σ.2.2.1 3 f = md at *
  subst r1
  have two : ∀ {x y x2 y2 : Int32} (t h t2 h2 : Nat) (z z2 : Int64) (len len2 : Int), x = nI h → y = nI t → x2 = nI h2 → y2 = nI t2 → z.toInt = -len → z2.toInt = -len2 → factM k ma mb md = [(t, h, len), (t2, h2, len2)] → wm_X6_way (fun σ10 => wm_X6_way (fun σ15 => ∀ a16 : Int32, a16 = nI f + 1 → K (a16, σ15)) x2 y2 z2 σ10) x y z τ := by
    intro x y x2 y2 t h t2 h2 z z2 len len2 a1 a2 a3 a4 a5 a6 a7
    refine m_way t h len hm (by omega) a1 a2 a5 (fun υ k1 k6 q1 => m_way t2 h2 len2 q1 (by rw [List.length_append]; simp; omega) a3 a4 a6 (fun ω k2 k7 q2 a16 e16 => ?_))
    subst e16
    refine hq ω (k1.trans k2) (k7.trans k6) ?_
    rw [a7]
    rw [List.append_assoc] at q2
    exact q2
  rcases h with ⟨a1, a2, p, q, b1, b2, rfl, rfl, -⟩ | ⟨a1, a2, p, q, b1, b2, b0, rfl, rfl, b3, b4, -⟩ | ⟨hk, a2, b1, b2, b3, -⟩ | ⟨a1, a2, p, q, b1, b2, b0, rfl, rfl, -⟩
  · subst a1
    refine ⟨fun _ => ?_, fun z => absurd z (by decide), fun z => absurd z (by decide), fun z => absurd z (by decide), fun z => absurd z (by decide), fun z => absurd rfl z⟩
    refine two (1 + p) (21 + 2 * q) (22 + 2 * q) (1 + p) 0 0 0 0 (mp_nI q) (pp_nI p) (pp_nI p) (m_ea q) (by decide) (by decide) ?_
    unfold factM factL
    rw [if_pos (Or.inl rfl), if_pos rfl, nI_clamp (by omega), nI_clamp (by omega)]
  · subst a1
    refine ⟨fun z => absurd z (by decide), fun _ => ⟨hin, ?_⟩, fun z => absurd z (by decide), fun z => absurd z (by decide), fun z => absurd z (by decide), fun _ z => absurd rfl z⟩
    refine m_way (1 + q) (1 + p) (-md.toInt) hm (by omega) (pp_nI p) (pp_nI q) (by rw [Int32.toInt_toInt64]; omega) (fun υ k1 k6 q1 a22 e22 => ?_)
    subst e22
    refine hq υ k1 k6 ?_
    unfold factM factL
    rw [if_pos (Or.inr (Or.inl rfl)), if_neg (by decide), if_pos rfl, nI_clamp (by omega), nI_clamp (by omega)]
    exact q1
  · have wi : ∀ {x : Int32} (pt : Nat), x = nI pt → factM k ma mb md = [(pt, 0, -mb.toInt), (0, pt, md.toInt)] → wm_X6_within (fun σ25 => ∀ a26 : Int32, a26 = nI f + 1 → K (a26, σ25)) x mb md τ := by
      intro x pt hx hl
      refine m_within pt hm hA hx ⟨b1, b2, b3⟩ (fun υ k1 k6 q1 a26 e26 => ?_)
      subst e26
      refine hq υ k1 k6 ?_
      rw [hl]; exact q1
    rcases hk with ⟨a1, p, b9, rfl, -⟩ | ⟨a1, p, b9, rfl, -⟩ | ⟨a1, p, b9, rfl, -⟩
    · subst a1
      refine ⟨fun z => absurd z (by decide), fun z => absurd z (by decide), fun _ => ⟨hin, wi (1 + p) (pp_nI p) ?_⟩, fun z => absurd z (by decide), fun z => absurd z (by decide), fun _ _ z => absurd rfl z⟩
      unfold factM factL
      rw [if_pos (Or.inr (Or.inr (Or.inl rfl))), if_neg (by decide), if_neg (by decide), if_pos rfl, nI_clamp (by omega)]
    · subst a1
      refine ⟨fun z => absurd z (by decide), fun z => absurd z (by decide), fun z => absurd z (by decide), fun _ => ⟨hin, wi (21 + 2 * p) (mp_nI p) ?_⟩, fun z => absurd z (by decide), fun _ _ _ z => absurd rfl z⟩
      unfold factM factL
      rw [if_pos (Or.inr (Or.inr (Or.inr (Or.inl rfl)))), if_neg (by decide), if_neg (by decide), if_neg (by decide), if_pos rfl, nI_clamp (by omega)]
    · subst a1
      refine ⟨fun z => absurd z (by decide), fun z => absurd z (by decide), fun z => absurd z (by decide), fun z => absurd z (by decide), fun _ => ⟨hin, wi (22 + 2 * p) (m_ea p) ?_⟩, fun _ _ _ _ z => absurd rfl z⟩
      unfold factM factL
      rw [if_pos (Or.inr (Or.inr (Or.inr (Or.inr rfl)))), if_neg (by decide), if_neg (by decide), if_neg (by decide), if_neg (by decide), if_pos rfl, nI_clamp (by omega)]
  · subst a1
    refine ⟨fun z => absurd z (by decide), fun z => absurd z (by decide), fun z => absurd z (by decide), fun z => absurd z (by decide), fun z => absurd z (by decide), fun _ _ _ _ _ => ?_⟩
    refine two (1 + q) (1 + p) (1 + p) (1 + q) 0 0 0 0 (pp_nI p) (pp_nI q) (pp_nI q) (pp_nI p) (by decide) (by decide) ?_
    unfold factM
    rw [if_neg (by decide), nI_clamp (by omega), nI_clamp (by omega)]
