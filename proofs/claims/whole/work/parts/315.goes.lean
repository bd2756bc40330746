/-! GOES: the reference's longest ways -/
def noI : Int := -4000000000000
def inEb (P Mo v : Nat) : Bool := decide (v = 0 ∨ (1 ≤ v ∧ v ≤ P) ∨ (21 ≤ v ∧ v < 21 + 2 * Mo))
theorem inEb_iff {P Mo v : Nat} : inEb P Mo v = true ↔ inE P Mo v := by unfold inEb inE; exact decide_eq_true_iff
def dD (Lm : List gL) (s v : Nat) : Int := -(dm Lm v 53 s)
theorem dD_at (Lm : List gL) (s v : Nat) : ∃ l, subL Lm l ∧ wt v l s = -dD Lm s v := by
  obtain ⟨l, h1, h2, h3⟩ := dm_at Lm v 53 s
  exact ⟨l, h1, by unfold dD; omega⟩
theorem dD_le {Lm : List gL} (ho : okL Lm) (hn : noneg Lm) {s v : Nat} {l : List gL} (hl : subL Lm l) : -dD Lm s v ≤ wt v l s := by
  obtain ⟨l', t1, t2, t3⟩ := wt_short ho hn v s _ l (Nat.le_refl _) hl
  have := dm_le Lm v 53 l' s t1 t2
  unfold dD; omega
theorem dD_s {Lm : List gL} (ho : okL Lm) (hn : noneg Lm) {s : Nat} (hs : s < 53) : dD Lm s s = 0 := by
  obtain ⟨l, h1, h2⟩ := dD_at Lm s s
  have h3 := hn s l hs h1
  have h4 := dD_le ho hn (s := s) (v := s) (subL_nil Lm)
  simp only [wt, bd_self] at h4
  omega
theorem dD_bd {Lm : List gL} (ho : okL Lm) (hn : noneg Lm) (s u v : Nat) : dD Lm s u - bd v u ≤ dD Lm s v := by
  obtain ⟨l, h1, h2⟩ := dD_at Lm s u
  have h3 := dD_le ho hn (s := s) (v := v) h1
  have h4 := wt_first l v s u
  omega
theorem dD_lim {Lm : List gL} (ho : okL Lm) (hn : noneg Lm) (s : Nat) {a : gL} (ha : a ∈ Lm) : dD Lm s a.2.1 - a.2.2 ≤ dD Lm s a.1 := by
  obtain ⟨l, h1, h2⟩ := dD_at Lm s a.2.1
  have h3 := dD_le ho hn (s := s) (v := a.1) (subL_cons.mpr ⟨ha, h1⟩)
  simp only [wt, bd_self] at h3
  omega
theorem dD_arc {P Mo : Nat} {A Lm : List gL} (hA : arcs P Mo A Lm) (ho : okL Lm) (hn : noneg Lm) (s : Nat) {a : gL} (ha : a ∈ A) : dD Lm s a.2.1 - a.2.2 ≤ dD Lm s a.1 := by
  rcases (hA.1 a ha).2.2.1 with h | h
  · exact dD_lim ho hn s h
  · have := dD_bd ho hn s a.2.1 a.1; omega
/-- the longest ways spread from place to place -/
theorem spread {P Mo : Nat} (hP : P ≤ 20) {A Lm : List gL} (hA : arcs P Mo A Lm) (hL : ∀ x ∈ Lm, okF P Mo x) (ho : okL Lm) (hn : noneg Lm) {s : Nat} (hs : s < 53) (hsE : inE P Mo s) {F : Nat → Prop} (hF : F s) (hc : ∀ a ∈ A, F a.2.1 → dD Lm s a.1 = dD Lm s a.2.1 - a.2.2 → F a.1) : ∀ v, inE P Mo v → F v := by
  have base : ∀ u v, inE P Mo u → inE P Mo v → F u → dD Lm s v = dD Lm s u - bd v u → F v := by
    intro u v hu hv hFu he
    by_cases c1 : v = u
    · rw [c1]; exact hFu
    by_cases c2 : u = 0
    · subst c2
      rw [bd_to0] at he
      exact hc _ (hA.2.2.1 v hv c1).1 hFu he
    by_cases c3 : v = u + 1 ∧ 21 ≤ u ∧ u % 2 = 1
    · obtain ⟨rfl, c4, c5⟩ := c3
      have hb : bd (u + 1) u = 0 := by unfold bd; rw [if_pos (by omega)]
      rw [hb] at he
      obtain ⟨m, rfl⟩ : ∃ m, u = 21 + 2 * m := ⟨(u - 21) / 2, by omega⟩
      have hm : m < Mo := by unfold inE at hu; omega
      have h1 := hc _ (hA.2.2.2 m hm) hFu
      have e : 22 + 2 * m = 21 + 2 * m + 1 := by omega
      rw [e] at h1
      exact h1 he
    · have hb : bd v u = 100000 := by unfold bd; rw [if_neg (by omega)]
      rw [hb] at he
      have a1 := hA.2.2.1 u hu c2
      by_cases c4 : v = 0
      · subst c4
        exact hc _ a1.2 hFu he
      · have a2 := hA.2.2.1 v hv c4
        have d1 := dD_arc hA ho hn s a1.2
        have d2 := dD_arc hA ho hn s a2.1
        dsimp only at d1 d2
        have hF0 : F 0 := hc _ a1.2 hFu (by dsimp only; omega)
        exact hc _ a2.1 hF0 (by dsimp only; omega)
  have key : ∀ (l : List gL) (v : Nat), inE P Mo v → subL Lm l → wt v l s = -dD Lm s v → F v := by
    intro l
    induction l with
    | nil =>
      intro v hv _ he
      refine base s v hsE hv hF ?_
      have h0 := dD_s ho hn hs
      simp only [wt] at he
      omega
    | cons a l ih =>
      intro v hv hl he
      obtain ⟨h1, h2⟩ := subL_cons.mp hl
      have k1 := dD_le ho hn (s := s) (v := a.2.1) h2
      have k2 := dD_lim ho hn s h1
      have k3 := dD_bd ho hn s a.1 v
      simp only [wt] at he
      have hh := ih a.2.1 (hL a h1).2.1 h2 (by omega)
      have ht := hc a (hA.2.1 a h1) hh (by omega)
      exact base a.1 v (hL a h1).1 hv ht (by omega)
  intro v hv
  obtain ⟨l, h1, h2⟩ := dD_at Lm s v
  exact key l v hv h1 h2
/-- a table of far: each number is none, or that of a walk -/
def attM (P Mo : Nat) (Lm : List gL) (s : Nat) (e : Nat → Int64) : Prop := ∀ v, v < 53 → (e v).toInt = noI ∨ (inE P Mo v ∧ ∃ l, subL Lm l ∧ wt v l s ≤ -(e v).toInt)
def bndM (B : Int) (e : Nat → Int64) : Prop := ∀ v, v < 53 → (e v).toInt = noI ∨ (-B ≤ (e v).toInt ∧ (e v).toInt ≤ B)
theorem sBF_sBF (σ : wS) (a : Nat) (f g : Nat → Int64) : sBF (sBF σ a f) a g = sBF σ a g := by
  unfold sBF
  rw [bx_uu]
theorem sB_sBF (σ : wS) (a : Nat) (f : Nat → Int64) (i : Int32) (v : Int64) : sB (sBF σ a f) a i v = sBF σ a (vp_updL f i.toNatClampNeg v) := by
  unfold sB
  rw [sBF_sBF]
  congr 1
  show vp_updL (va_up σ.2.2.2 a f a) _ _ = _
  rw [va_up_self]
theorem sBF_self (σ : wS) (a : Nat) : sBF σ a (σ.2.2.2 a) = σ := by
  unfold sBF
  have : va_up σ.2.2.2 a (σ.2.2.2 a) = σ.2.2.2 := by
    funext j
    by_cases e : j = a
    · rw [e, va_up_self]
    · rw [va_up_ne _ _ e]
  rw [this]
theorem aL_sBF_nI (σ : wS) (a : Nat) (f : Nat → Int64) {k : Nat} (hk : k < 2 ^ 31) : aL (sBF σ a f) a (nI k) = f k := by
  show va_up σ.2.2.2 a f a _ = _
  rw [va_up_self, nI_clamp hk]
theorem aL_sBF_ne (σ : wS) {a b : Nat} (h : b ≠ a) (f : Nat → Int64) (i : Int32) : aL (sBF σ a f) b i = aL σ b i := by
  show va_up σ.2.2.2 a f b _ = _
  rw [va_up_ne _ _ h]
theorem addL {x y : Int64} (h1 : -9223372036854775808 ≤ x.toInt + y.toInt) (h2 : x.toInt + y.toInt < 9223372036854775808) : (x + y).toInt = x.toInt + y.toInt := by
  rw [Int64.toInt_add]
  exact Int.bmod_eq_of_le (by omega) (by omega)
theorem no_toInt : (-4000000000000 : Int64).toInt = noI := by decide
theorem m_round {Q : Int32 → wS → Prop} {K36 : Int32 × Int32 × wS → Prop} {x3 : Int32} {σ : wS} {P Mo : Nat} {A Lm : List gL} {s : Nat} {e : Nat → Int64} {B : Int} (hP : P ≤ 20) (hM : Mo ≤ 16) (hm : mHas σ A) (hA : arcs P Mo A Lm) (hB : 0 ≤ B ∧ B ≤ 3000000000) (ha : attM P Mo Lm s e) (hb : bndM B e)
    (hk : ∀ (c : Int32) (g : Nat → Int64), (c = 0 ∨ c = 1) → (c = 0 → (∀ v, v < 53 → g v = e v) ∧ ∀ a ∈ A, (e a.2.1).toInt ≠ noI → (e a.2.1).toInt - a.2.2 ≤ (e a.1).toInt) → (c = 1 → ∃ a ∈ A, (e a.2.1).toInt ≠ noI ∧ (e a.1).toInt < (e a.2.1).toInt - a.2.2) → attM P Mo Lm s g → bndM (B + 40000000) g → (∀ v, v < 53 → (e v).toInt ≤ (g v).toInt) → (∀ a ∈ A, (e a.2.1).toInt ≠ noI → (e a.2.1).toInt - a.2.2 ≤ (g a.1).toInt) → K36 (c, x3 + 1, sBF σ 1 g)) :
    ∃ n, wloop (wm_X6_goes_L51 Q K36 x3) n (0, 0, sBF σ 1 e) := by
  obtain ⟨m5, ml, ma⟩ := hm
  refine wloop_of (fun w : Int32 × Int32 × wS => ∃ (k : Nat) (g : Nat → Int64), k ≤ A.length ∧ w.2.1 = nI k ∧ w.2.2 = sBF σ 1 g ∧ (w.1 = 0 ∨ w.1 = 1) ∧ (w.1 = 0 → (∀ v, v < 53 → g v = e v) ∧ ∀ (j : Nat) (a : gL), j < k → A[j]? = some a → (e a.2.1).toInt ≠ noI → (e a.2.1).toInt - a.2.2 ≤ (e a.1).toInt) ∧ (w.1 = 1 → ∃ a ∈ A, (e a.2.1).toInt ≠ noI ∧ (e a.1).toInt < (e a.2.1).toInt - a.2.2) ∧ attM P Mo Lm s g ∧ bndM (B + 100000 * (k : Int)) g ∧ (∀ v, v < 53 → (e v).toInt ≤ (g v).toInt) ∧ ∀ (j : Nat) (a : gL), j < k → A[j]? = some a → (e a.2.1).toInt ≠ noI → (e a.2.1).toInt - a.2.2 ≤ (g a.1).toInt) (fun w => A.length - w.2.1.toNatClampNeg) ?_ _
    ⟨0, e, Nat.zero_le _, rfl, rfl, Or.inl rfl, fun _ => ⟨fun _ _ => rfl, fun j a hj => absurd hj (Nat.not_lt_zero j)⟩, fun z => absurd (show (0 : Int32) = 1 from z) (by decide), ha, by simpa using hb, fun _ _ => Int.le_refl _, fun j a hj => absurd hj (Nat.not_lt_zero j)⟩
  rintro K ⟨x2, x4, τ⟩ ⟨k, g, hk1, e4, eτ, h01, h0, h1, ga, gb, gm, gr⟩ kk
  dsimp only at e4 eτ h01 h0 h1 kk
  subst e4; subst eτ
  have e5 : (sBF σ 1 g).1 5 = nI A.length := m5
  dsimp only [wm_X6_goes_L51]
  rw [e5]
  refine ⟨fun c a1 ea1 => ?_, fun c => ?_⟩
  · have hke : k = A.length := by have : A.length ≤ k := (nI_leI (by omega) (by omega)).mp c; omega
    subst hke
    subst ea1
    refine hk x2 g h01 (fun z => ⟨(h0 z).1, fun a ha => ?_⟩) h1 ga (fun v hv => ?_) gm (fun a ha => ?_)
    · obtain ⟨j, hj⟩ := List.getElem?_of_mem ha
      exact (h0 z).2 j a (List.getElem?_eq_some_iff.mp hj).1 hj
    · have hl : (A.length : Int) ≤ 400 := by omega
      rcases gb v hv with h | h
      · exact Or.inl h
      · exact Or.inr (by omega)
    · obtain ⟨j, hj⟩ := List.getElem?_of_mem ha
      exact gr j a (List.getElem?_eq_some_iff.mp hj).1 hj
  have hlt : k < A.length := Nat.lt_of_not_le (fun z => c ((nI_leI (by omega) (by omega)).mpr z))
  obtain ⟨a, hka⟩ : ∃ a, A[k]? = some a := ⟨_, List.getElem?_eq_getElem hlt⟩
  have hmem : a ∈ A := List.mem_of_getElem? hka
  obtain ⟨o1, o2, o3, o4, o5⟩ := hA.1 a hmem
  have n1 := inE_lt hP hM o1
  have n2 := inE_lt hP hM o2
  obtain ⟨b1, b2, b3⟩ := ma k a hka
  have hin : vp_in (nI k) 400 := nI_in (by omega) (by decide)
  have hcl : (nI k).toNatClampNeg = k := nI_clamp (by omega)
  have r6 : aI (sBF σ 1 g) 6 (nI k) = nI a.2.1 := by show σ.2.2.1 6 (nI k).toNatClampNeg = _; rw [hcl]; exact b1
  have r7 : aI (sBF σ 1 g) 7 (nI k) = nI a.1 := by show σ.2.2.1 7 (nI k).toNatClampNeg = _; rw [hcl]; exact b2
  have r0 : (aL (sBF σ 1 g) 0 (nI k)).toInt = -a.2.2 := by rw [aL_sBF_ne σ (by decide)]; show (σ.2.2.2 0 (nI k).toNatClampNeg).toInt = _; rw [hcl]; exact b3
  have nx : ∀ (c : Int32) (g2 : Nat → Int64), (c = 0 ∨ c = 1) → (c = 0 → (∀ v, v < 53 → g2 v = e v) ∧ ((e a.2.1).toInt ≠ noI → (e a.2.1).toInt - a.2.2 ≤ (e a.1).toInt)) → (c = 0 → x2 = 0) → (c = 1 → ∃ a ∈ A, (e a.2.1).toInt ≠ noI ∧ (e a.1).toInt < (e a.2.1).toInt - a.2.2) → attM P Mo Lm s g2 → bndM (B + 100000 * ((k : Int) + 1)) g2 → (∀ v, v < 53 → (g v).toInt ≤ (g2 v).toInt) → ((e a.2.1).toInt ≠ noI → (e a.2.1).toInt - a.2.2 ≤ (g2 a.1).toInt) → K (c, nI k + 1, sBF σ 1 g2) := by
    intro c g2 c1 c2 c0 c3 c4 c5 c6 c7
    refine kk _ ⟨k + 1, g2, by omega, nI_1 k, rfl, c1, fun z => ⟨(c2 z).1, fun j b hj hb hno => ?_⟩, c3, c4, by have e1 : (((k + 1 : Nat)) : Int) = (k : Int) + 1 := by omega
                                                                                                                rw [e1]; exact c5, fun v hv => Int.le_trans (gm v hv) (c6 v hv), fun j b hj hb hno => ?_⟩ ?_
    · by_cases ej : j = k
      · subst ej
        have hba : b = a := Option.some.inj (hb.symm.trans hka)
        subst hba
        exact (c2 z).2 hno
      · exact (h0 (c0 z)).2 j b (by omega) hb hno
    · by_cases ej : j = k
      · subst ej
        have hba : b = a := Option.some.inj (hb.symm.trans hka)
        subst hba
        exact c7 hno
      · have h2 := gr j b (by omega) hb hno
        have h3 := c6 b.1 (inE_lt hP hM (hA.1 b (List.mem_of_getElem? hb)).1)
        omega
    · dsimp only
      rw [nI_1, nI_clamp (by omega), hcl]; omega
  have gb1 : bndM (B + 100000 * ((k : Int) + 1)) g := fun v hv => (gb v hv).elim Or.inl (fun h => Or.inr (by omega))
  refine ⟨hin, ?_⟩
  rw [r6]
  refine ⟨nI_in n2 (by decide), ?_⟩
  rw [aL_sBF_nI σ 1 g (by omega)]
  refine ⟨fun c1 a2 ea2 => ?_, fun c1 => ?_⟩
  · subst ea2
    have hno : (g a.2.1).toInt = noI := by rw [c1]; exact no_toInt
    have heno : (e a.2.1).toInt = noI := by
      rcases hb a.2.1 n2 with h | h
      · exact h
      · have := gm a.2.1 n2; unfold noI at *; omega
    exact nx x2 g h01 (fun z => ⟨(h0 z).1, fun y => absurd heno y⟩) (fun z => z) h1 ga gb1 (fun _ _ => Int.le_refl _) (fun y => absurd heno y)
  have hgn : (g a.2.1).toInt ≠ noI := fun z => c1 (by rw [← Int64.toInt_inj, z]; exact no_toInt.symm)
  have bg := (gb a.2.1 n2).resolve_left hgn
  refine ⟨hin, nI_in n2 (by decide), hin, hin, ?_⟩
  rw [r7]
  refine ⟨nI_in n1 (by decide), ?_⟩
  rw [aL_sBF_nI σ 1 g (by omega)]
  have hl4 : (k : Int) ≤ 400 := by omega
  have es : (g a.2.1 + aL (sBF σ 1 g) 0 (nI k)).toInt = (g a.2.1).toInt - a.2.2 := by
    rw [addL (by rw [r0]; omega) (by rw [r0]; omega), r0]; omega
  have att_h := (ga a.2.1 n2).resolve_left hgn
  obtain ⟨-, l, l1, l2⟩ := att_h
  refine ⟨fun c2 => ⟨hin, hin, nI_in n2 (by decide), hin, nI_in n1 (by decide), fun σ3 e3 a4 ea4 => ?_⟩, fun c2 a5 ea5 => ?_⟩
  · subst ea4; subst e3
    rw [sB_sBF, nI_clamp (by omega)]
    rw [fa_lt64, es] at c2
    refine nx 1 _ (Or.inr rfl) (fun z => absurd z (by decide)) (fun z => absurd z (by decide)) (fun _ => ?_) (fun v hv => ?_) (fun v hv => ?_) (fun v hv => ?_) (fun hno => ?_)
    · rcases h01 with z | z
      · rw [(h0 z).1 _ n1, (h0 z).1 _ n2] at c2
        rw [(h0 z).1 _ n2] at hgn
        exact ⟨a, hmem, hgn, c2⟩
      · exact h1 z
    · by_cases ev : v = a.1
      · rw [ev, pk_uLs, es]
        refine Or.inr ⟨o1, ?_⟩
        rcases o3 with h | h
        · refine ⟨a :: l, subL_cons.mpr ⟨h, l1⟩, ?_⟩
          simp only [wt, bd_self]
          omega
        · refine ⟨l, l1, ?_⟩
          have := wt_first l a.1 s a.2.1
          omega
      · rw [pk_uLn ev]; exact ga v hv
    · by_cases ev : v = a.1
      · rw [ev, pk_uLs, es]
        exact Or.inr (by omega)
      · rw [pk_uLn ev]; exact gb1 v hv
    · by_cases ev : v = a.1
      · rw [ev, pk_uLs, es]; omega
      · rw [pk_uLn ev]; exact Int.le_refl _
    · rw [pk_uLs, es]
      have := gm a.2.1 n2
      omega
  · subst ea5
    rw [fa_lt64, es] at c2
    refine nx x2 g h01 (fun z => ⟨(h0 z).1, fun hno => ?_⟩) (fun z => z) h1 ga gb1 (fun _ _ => Int.le_refl _) (fun hno => ?_)
    · rw [(h0 z).1 _ n1, (h0 z).1 _ n2] at c2
      omega
    · have := gm a.2.1 n2
      omega
