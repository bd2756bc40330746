/-! XGRAPH: the class's ways: array 25 as a table of times -/
theorem sAF_sAF (σ : wS) (a : Nat) (f g : Nat → Int32) : sAF (sAF σ a f) a g = sAF σ a g := by
  unfold sAF
  rw [bx_uu]
theorem sA_sAF (σ : wS) (a : Nat) (f : Nat → Int32) (i v : Int32) : sA (sAF σ a f) a i v = sAF σ a (upd f i.toNatClampNeg v) := by
  unfold sA
  rw [sAF_sAF]
  congr 1
  show upd (va_up σ.2.2.1 a f a) _ _ = _
  rw [va_up_self]
theorem sAF_self (σ : wS) (a : Nat) : sAF σ a (σ.2.2.1 a) = σ := by
  unfold sAF
  have : va_up σ.2.2.1 a (σ.2.2.1 a) = σ.2.2.1 := by
    funext j
    by_cases e : j = a
    · rw [e, va_up_self]
    · rw [va_up_ne _ _ e]
  rw [this]
theorem aI_sAF (σ : wS) (a : Nat) (f : Nat → Int32) (i : Int32) : aI (sAF σ a f) a i = f i.toNatClampNeg := by
  show va_up σ.2.2.1 a f a _ = _
  rw [va_up_self]
theorem aI_sAF_nI (σ : wS) (a : Nat) (f : Nat → Int32) {k : Nat} (hk : k < 2 ^ 31) : aI (sAF σ a f) a (nI k) = f k := by rw [aI_sAF, nI_clamp hk]
theorem aI_sAF_ne (σ : wS) {a b : Nat} (h : b ≠ a) (f : Nat → Int32) (i : Int32) : aI (sAF σ a f) b i = aI σ b i := by
  show va_up σ.2.2.1 a f b _ = _
  rw [va_up_ne _ _ h]
theorem mn_toInt (x y : Int32) : (mn x y).toInt = min x.toInt y.toInt := by
  unfold mn
  by_cases h : y < x
  · rw [if_pos h]; rw [fa_lt] at h; omega
  · rw [if_neg h]; rw [fa_lt] at h; omega
theorem far_toInt : (536870912 : Int32).toInt = 536870912 := by decide
theorem x_fill {Q : wS → Prop} {v : Int32} {σ : wS} (hq : ∀ f : Nat → Int32, (∀ j, j < 53 → f j = v) → Q (sAF σ 25 f)) : wx_J7_fill_53178_ways Q v σ := by
  refine wloop_of (fun w : Int32 × wS => ∃ (k : Nat) (f : Nat → Int32), k ≤ 53 ∧ w.1 = nI k ∧ w.2 = sAF σ 25 f ∧ ∀ j, j < k → f j = v) (fun w => 53 - w.1.toNatClampNeg) ?_ _ ⟨0, σ.2.2.1 25, by omega, rfl, (sAF_self σ 25).symm, fun j hj => absurd hj (Nat.not_lt_zero j)⟩
  rintro K ⟨x2, τ⟩ ⟨k, f, hk, e1, e2, hf⟩ kk
  dsimp only at e1 e2 kk
  subst e1; subst e2
  refine ⟨fun c => ?_, fun c => ?_⟩
  · have : 53 ≤ k := (nI_leI (a := 53) (by omega) (by omega)).mp c
    exact hq f (fun j hj => hf j (by omega))
  · have hlt : k < 53 := Nat.lt_of_not_le (fun z => c ((nI_leI (a := 53) (by omega) (by omega)).mpr z))
    refine ⟨nI_in hlt (by decide), fun σ1 e1 a2 e2 => ?_⟩
    subst e1; subst e2
    rw [sA_sAF, nI_clamp (by omega)]
    refine kk _ ⟨k + 1, _, by omega, nI_1 k, rfl, fun j hj => ?_⟩ ?_
    · by_cases e : j = k
      · rw [e, pk_us]
      · rw [pk_un e]; exact hf j (by omega)
    · dsimp only
      rw [nI_1, nI_clamp (by omega), nI_clamp (by omega)]; omega
/-- a table's numbers are in their bounds -/
def okT (f : Nat → Int32) : Prop := ∀ v, v < 53 → -100000000 ≤ (f v).toInt ∧ (f v).toInt ≤ 536870912
theorem x_followRange {Q : wS → Prop} {σ : wS} {f : Nat → Int32} (hf : okT f)
    (hq : ∀ (g : Nat → Int32) (z : Int), (∀ u, u < 53 → z ≤ (f u).toInt) → (∃ u, u < 53 ∧ (f u).toInt = z) → (g 0).toInt = z → (∀ v, 0 < v → v < 53 → (g v).toInt = min (f v).toInt (z + 100000)) → Q (sAF σ 25 g)) : wx_X4_followRange Q (sAF σ 25 f) := by
  refine ⟨nI_in (c := 0) (N := 53) (by decide) (by decide), fun a1 e1 => ?_⟩
  have e0 : aI (sAF σ 25 f) 25 0 = f 0 := aI_sAF_nI σ 25 f (k := 0) (by omega)
  rw [e0] at e1
  refine wloop_of (fun w : Int32 × Int32 => ∃ k : Nat, k ≤ 53 ∧ w.2 = nI k ∧ w.1.toInt ≤ (f 0).toInt ∧ (∀ u, u < k → w.1.toInt ≤ (f u).toInt) ∧ ∃ u, u < 53 ∧ (f u).toInt = w.1.toInt) (fun w => 53 - w.2.toNatClampNeg) ?_ _ ⟨0, by omega, rfl, by rw [e1]; exact Int.le_refl _, fun u hu => absurd hu (Nat.not_lt_zero u), 0, by omega, by rw [e1]⟩
  rintro K ⟨x1, x2⟩ ⟨k, hk, e2, h0, h1, u0, hu0, h2⟩ kk
  dsimp only at e2 h0 h1 h2 kk
  subst e2
  refine ⟨fun c => ⟨nI_in (c := 0) (N := 53) (by decide) (by decide), fun σ1 es => ?_⟩, fun c => ?_⟩
  · have hk53 : 53 ≤ k := (nI_leI (a := 53) (by omega) (by omega)).mp c
    have hall : ∀ u, u < 53 → x1.toInt ≤ (f u).toInt := fun u hu => h1 u (by omega)
    have b1 := hf u0 hu0
    have hp : (x1 + 100000).toInt = x1.toInt + 100000 := by
      have z : (100000 : Int32).toInt = 100000 := by decide
      rw [fb_addI (by rw [z]; omega) (by rw [z]; omega), z]
    have hz : (0 : Int32).toNatClampNeg = 0 := by decide
    rw [sA_sAF, hz] at es
    subst es
    refine wloop_of (fun w : Int32 × wS => ∃ (k : Nat) (g : Nat → Int32), k ≤ 53 ∧ w.1 = nI k ∧ w.2 = sAF σ 25 g ∧ (g 0).toInt = x1.toInt ∧ (∀ v, 0 < v → v < k → (g v).toInt = min (f v).toInt (x1.toInt + 100000)) ∧ ∀ v, 0 < v → k ≤ v → v < 53 → g v = f v) (fun w => 53 - w.1.toNatClampNeg) ?_ _ ⟨0, _, by omega, rfl, rfl, by rw [pk_us], fun v _ hv => absurd hv (Nat.not_lt_zero v), fun v h0 _ _ => pk_un (by omega)⟩
    rintro K2 ⟨y2, τ⟩ ⟨j, g, hj, d1, d2, g0, g1, g2⟩ kk2
    dsimp only at d1 d2 kk2
    subst d1; subst d2
    refine ⟨fun c => ?_, fun c => ?_⟩
    · have hj53 : 53 ≤ j := (nI_leI (a := 53) (by omega) (by omega)).mp c
      exact hq g x1.toInt hall ⟨u0, hu0, h2⟩ g0 (fun v h0 hv => g1 v h0 (by omega))
    · have hlt : j < 53 := Nat.lt_of_not_le (fun z => c ((nI_leI (a := 53) (by omega) (by omega)).mpr z))
      refine ⟨nI_in hlt (by decide), fun m1 em => ⟨nI_in hlt (by decide), fun σ2 e2 a3 e3 => ?_⟩⟩
      rw [aI_sAF_nI σ 25 g (by omega)] at em
      subst e2; subst e3
      rw [sA_sAF, nI_clamp (by omega)]
      have hm : m1.toInt = min (g j).toInt (x1.toInt + 100000) := by rw [em, mn_toInt, hp]
      refine kk2 _ ⟨j + 1, _, by omega, nI_1 j, rfl, ?_, fun v h0 hv => ?_, fun v h0 h1 hv => ?_⟩ ?_
      · by_cases e : j = 0
        · subst e; rw [pk_us, hm, g0]; omega
        · rw [pk_un (by omega)]; exact g0
      · by_cases e : v = j
        · subst e; rw [pk_us, hm, g2 v h0 (Nat.le_refl _) hlt]
        · rw [pk_un e]; exact g1 v h0 (by omega)
      · rw [pk_un (by omega)]; exact g2 v h0 (by omega) hv
      · dsimp only
        rw [nI_1, nI_clamp (by omega), nI_clamp (by omega)]; omega
  · have hlt : k < 53 := Nat.lt_of_not_le (fun z => c ((nI_leI (a := 53) (by omega) (by omega)).mpr z))
    refine ⟨nI_in hlt (by decide), fun m2 em a3 e3 => ?_⟩
    rw [aI_sAF_nI σ 25 f (by omega)] at em
    subst e3
    have hm : m2.toInt = min x1.toInt (f k).toInt := by rw [em, mn_toInt]
    refine kk _ ⟨k + 1, by omega, nI_1 k, by rw [hm]; omega, fun u hu => ?_, ?_⟩ ?_
    · dsimp only
      rw [hm]
      by_cases e : u = k
      · subst e; omega
      · have := h1 u (by omega); omega
    · dsimp only
      by_cases e : x1.toInt ≤ (f k).toInt
      · exact ⟨u0, hu0, by rw [hm]; omega⟩
      · exact ⟨k, hlt, by rw [hm]; omega⟩
    · dsimp only
      rw [nI_1, nI_clamp (by omega), nI_clamp (by omega)]; omega
/-- a motif's order, taken into a table -/
def motT (f g : Nat → Int32) : Prop := ∀ v, v < 53 → (g v).toInt = if 21 ≤ v ∧ v % 2 = 1 then min (f v).toInt (f (v + 1)).toInt else (f v).toInt
theorem x_followBounds {Q : wS → Prop} {lo : Int32} {σ : wS} {f : Nat → Int32} (hq : ∀ g : Nat → Int32, motT f g → (lo = 0 → wx_X4_followRange (fun σ1 => Q σ1) (sAF σ 25 g)) ∧ (¬ lo = 0 → Q (sAF σ 25 g))) : wx_X4_followBounds Q lo (sAF σ 25 f) := by
  refine wloop_of (fun w : Int32 × wS => ∃ (k : Nat) (g : Nat → Int32), k ≤ 16 ∧ w.1 = nI (21 + 2 * k) ∧ w.2 = sAF σ 25 g ∧ (∀ v, v < 21 + 2 * k → v < 53 → (g v).toInt = if 21 ≤ v ∧ v % 2 = 1 then min (f v).toInt (f (v + 1)).toInt else (f v).toInt) ∧ ∀ v, 21 + 2 * k ≤ v → g v = f v) (fun w => 53 - w.1.toNatClampNeg) ?_ _ ⟨0, f, by omega, rfl, rfl, fun v hv hv2 => by rw [if_neg (by omega)], fun v _ => rfl⟩
  rintro K ⟨x2, τ⟩ ⟨k, g, hk, e1, e2, g1, g2⟩ kk
  dsimp only at e1 e2 kk
  subst e1; subst e2
  refine ⟨fun c => ?_, fun c => ?_⟩
  · have hk16 : 52 ≤ 21 + 2 * k := (nI_leI (a := 52) (by omega) (by omega)).mp c
    obtain ⟨h1, h2⟩ := hq g (fun v hv => g1 v (by omega) hv)
    exact ⟨h2, h1⟩
  · have hlt : 21 + 2 * k < 52 := Nat.lt_of_not_le (fun z => c ((nI_leI (a := 52) (by omega) (by omega)).mpr z))
    have e1 : nI (21 + 2 * k) + 1 = nI (21 + 2 * k + 1) := nI_1 _
    rw [e1]
    refine ⟨nI_in (by omega) (by decide), nI_in (by omega) (by decide), fun m2 em => ⟨nI_in (by omega) (by decide), fun σ3 e3 a4 e4 => ?_⟩⟩
    rw [aI_sAF_nI σ 25 g (by omega), aI_sAF_nI σ 25 g (by omega)] at em
    subst e3; subst e4
    rw [sA_sAF, nI_clamp (by omega)]
    have e2 : nI (21 + 2 * k) + 2 = nI (21 + 2 * (k + 1)) := by show nI _ + nI 2 = _; rw [nI_add]; congr 1
    rw [e2]
    refine kk _ ⟨k + 1, _, by omega, rfl, rfl, fun v hv hv2 => ?_, fun v hv => ?_⟩ ?_
    · by_cases e : v = 21 + 2 * k
      · subst e
        rw [pk_us, em, mn_toInt, if_pos ⟨by omega, by omega⟩, g2 _ (Nat.le_refl _), g2 _ (by omega)]
      · rw [pk_un e]
        by_cases e5 : v < 21 + 2 * k
        · exact g1 v e5 hv2
        · rw [g2 v (by omega), if_neg (by omega)]
    · rw [pk_un (by omega)]; exact g2 v (by omega)
    · dsimp only
      rw [nI_clamp (by omega), nI_clamp (by omega)]; omega
/-- the bounds, taken into a table -/
def bclT (g : Nat → Int32) : Prop := ∀ u v, u < 53 → v < 53 → (g v).toInt ≤ (g u).toInt + bd u v
theorem x_bounds0 {Q : wS → Prop} {σ : wS} {f : Nat → Int32} (hf : okT f)
    (hq : ∀ g : Nat → Int32, bclT g → (∀ v, v < 53 → (g v).toInt ≤ (f v).toInt) → (∀ v, v < 53 → ∃ u, u < 53 ∧ (f u).toInt + bd u v ≤ (g v).toInt) → Q (sAF σ 25 g)) : wx_X4_followBounds Q 0 (sAF σ 25 f) := by
  refine x_followBounds (fun e he => ⟨fun _ => ?_, fun z => absurd rfl z⟩)
  have ee : ∀ v, v < 53 → (e v).toInt ≤ (f v).toInt ∧ ∃ u, u < 53 ∧ bd u v = 0 ∧ (e v).toInt = (f u).toInt := by
    intro v hv
    have h1 := he v hv
    by_cases c : 21 ≤ v ∧ v % 2 = 1
    · rw [if_pos c] at h1
      refine ⟨by omega, ?_⟩
      by_cases d : (f v).toInt ≤ (f (v + 1)).toInt
      · exact ⟨v, hv, bd_self v, by omega⟩
      · exact ⟨v + 1, by omega, by unfold bd; rw [if_pos (by omega)], by omega⟩
    · rw [if_neg c] at h1
      exact ⟨by omega, v, hv, bd_self v, h1⟩
  have oke : okT e := fun v hv => by
    obtain ⟨h1, u, hu, -, h2⟩ := ee v hv
    have := hf u hu
    have := hf v hv
    omega
  refine x_followRange oke (fun g z z1 z2 g0 g1 => ?_)
  obtain ⟨u0, hu0, z2⟩ := z2
  have gv : ∀ v, v < 53 → (g v).toInt = min (e v).toInt (z + 100000) ∨ (v = 0 ∧ (g v).toInt = z) := by
    intro v hv
    by_cases c : v = 0
    · subst c; exact Or.inr ⟨rfl, g0⟩
    · exact Or.inl (g1 v (by omega) hv)
  have zl : ∀ v, v < 53 → z ≤ (g v).toInt ∧ (g v).toInt ≤ z + 100000 ∧ (g v).toInt ≤ (e v).toInt := by
    intro v hv
    have := z1 v hv
    rcases gv v hv with h | ⟨h, h2⟩ <;> omega
  refine hq g (fun u v hu hv => ?_) (fun v hv => ?_) (fun v hv => ?_)
  · have a := zl u hu
    have b := zl v hv
    unfold bd
    by_cases c1 : u = v
    · subst c1; rw [if_pos (Or.inl rfl)]; omega
    by_cases c2 : v = 0
    · subst c2; rw [if_pos (Or.inr (Or.inl rfl)), g0]; omega
    by_cases c3 : u = v + 1 ∧ 21 ≤ v ∧ v % 2 = 1
    · rw [if_pos (Or.inr (Or.inr c3))]
      obtain ⟨rfl, c4, c5⟩ := c3
      have h1 := he v hv
      have h2 := he (v + 1) hu
      rw [if_pos ⟨c4, c5⟩] at h1
      rw [if_neg (by omega)] at h2
      have h3 := g1 v (by omega) hv
      have h4 := g1 (v + 1) (by omega) hu
      omega
    · rw [if_neg (by omega)]; omega
  · have := zl v hv; have := (ee v hv).1; omega
  · obtain ⟨k1, u, hu, k2, k3⟩ := ee v hv
    rcases gv v hv with h | ⟨h, h2⟩
    · by_cases c : (e v).toInt ≤ z + 100000
      · exact ⟨u, hu, by rw [k2]; omega⟩
      · obtain ⟨m1, w, hw, m2, m3⟩ := ee u0 hu0
        refine ⟨w, hw, ?_⟩
        have := bd_le w v
        omega
    · subst h
      obtain ⟨m1, w, hw, m2, m3⟩ := ee u0 hu0
      exact ⟨w, hw, by rw [bd_to0]; omega⟩
