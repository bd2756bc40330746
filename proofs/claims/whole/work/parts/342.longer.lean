/-! LONGER: the reference's search for a shortest quarrel -/
theorem dm_first {L : List gL} {a : gL} (ha : a ∈ L) (k n s : Nat) : dm L k (n + 1) s ≤ bd k a.1 + a.2.2 + dm L a.2.1 n s := by
  obtain ⟨l, l1, l2, l3⟩ := dm_at L a.2.1 n s
  have h := dm_le L k (n + 1) (a :: l) s (subL_cons.mpr ⟨ha, l1⟩) (by simp; omega)
  simp only [wt] at h
  omega
theorem dm_firstE (L : List gL) (k n s : Nat) : dm L k (n + 1) s = dm L k n s ∨ ∃ a ∈ L, bd k a.1 + a.2.2 + dm L a.2.1 n s ≤ dm L k (n + 1) s := by
  obtain ⟨l, l1, l2, l3⟩ := dm_at L k (n + 1) s
  cases l with
  | nil =>
    have h1 := dm_le L k n [] s (subL_nil L) (Nat.zero_le _)
    have h2 := dm_step_le L k n s
    exact Or.inl (by omega)
  | cons a l =>
    obtain ⟨h1, h2⟩ := subL_cons.mp l1
    have h3 := dm_le L a.2.1 n l s h2 (by simp at l2; omega)
    simp only [wt] at l3
    exact Or.inr ⟨a, h1, by omega⟩
theorem dm_hi (L : List gL) (s n v : Nat) : dm L s n v ≤ 100000 := by
  have h := dm_le L s n [] v (subL_nil L) (Nat.zero_le _)
  have := bd_le s v
  simp only [wt] at h
  omega
theorem wt_lo {L : List gL} (hA : okA L) : ∀ (l : List gL) (u v : Nat), subL L l → -100000 * (l.length : Int) ≤ wt u l v
  | [], u, v, _ => by have := bd_nn u v; simp only [wt, List.length_nil]; omega
  | a :: l, u, v, h => by
    have h1 := wt_lo hA l a.2.1 v (subL_cons.mp h).2
    have h2 := bd_nn u a.1
    have h3 := (hA a (subL_cons.mp h).1).2.2.1
    simp only [wt, List.length_cons]
    omega
theorem dm_lo {L : List gL} (hA : okA L) (s n v : Nat) : -100000 * (n : Int) ≤ dm L s n v := by
  obtain ⟨l, l1, l2, l3⟩ := dm_at L s n v
  have := wt_lo hA l s v l1
  omega
/-- the tables: row s, place k, after n rounds -/
def tv (P Mo : Nat) (L : List gL) (n s k : Nat) : Int := if inEb P Mo s = true ∧ inEb P Mo k = true then -dm L k n s else if s = k then 0 else noI
theorem tv_in {P Mo : Nat} {L : List gL} {n s k : Nat} (h1 : inE P Mo s) (h2 : inE P Mo k) : tv P Mo L n s k = -dm L k n s := if_pos ⟨inEb_iff.mpr h1, inEb_iff.mpr h2⟩
theorem tv_out {P Mo : Nat} {L : List gL} {n s k : Nat} (h : ¬ (inE P Mo s ∧ inE P Mo k)) : tv P Mo L n s k = if s = k then 0 else noI := if_neg (fun z => h ⟨inEb_iff.mp z.1, inEb_iff.mp z.2⟩)
/-- only the tables of longs have changed -/
def qR (τ υ : wS) : Prop := υ.1 = τ.1 ∧ υ.2.2.1 = τ.2.2.1 ∧ υ.2.2.2 0 = τ.2.2.2 0
theorem qR.rf (τ : wS) : qR τ τ := ⟨rfl, rfl, rfl⟩
theorem qR.trans {a b c : wS} (h : qR a b) (h2 : qR b c) : qR a c := ⟨h2.1.trans h.1, h2.2.1.trans h.2.1, h2.2.2.trans h.2.2⟩
theorem qR.sBF (τ : wS) {k : Nat} (hk : k ≠ 0) (f : Nat → Int64) : qR τ (sBF τ k f) := ⟨rfl, rfl, va_up_ne _ _ (Ne.symm hk)⟩
theorem qR.sB (τ : wS) {k : Nat} (hk : k ≠ 0) (i : Int32) (v : Int64) : qR τ (sB τ k i v) := qR.sBF τ hk _
theorem qR.m {τ υ : wS} (h : qR τ υ) {A : List gL} (hm : mHas τ A) : mHas υ A := by
  unfold mHas
  rw [h.1, h.2.1, h.2.2]
  exact hm
theorem qR.N {τ υ : wS} (h : qR τ υ) : keepN τ υ := ⟨fun k _ _ _ _ _ => congrFun h.1 k, fun a _ _ _ => congrFun h.2.1 a⟩
theorem sBF_at (σ : wS) (a : Nat) (f : Nat → Int64) : (sBF σ a f).2.2.2 a = f := va_up_self _ _ _
theorem sBF_out (σ : wS) {a b : Nat} (h : b ≠ a) (f : Nat → Int64) : (sBF σ a f).2.2.2 b = σ.2.2.2 b := va_up_ne _ _ h
theorem b_sB (σ : wS) (a : Nat) {k : Nat} (hk : k < 2 ^ 31) (v : Int64) (b j : Nat) : (sB σ a (nI k) v).2.2.2 b j = if b = a ∧ j = k then v else σ.2.2.2 b j := by
  show va_up σ.2.2.2 a (vp_updL (σ.2.2.2 a) (nI k).toNatClampNeg v) b j = _
  rw [nI_clamp hk]
  by_cases e : b = a
  · subst e
    rw [va_up_self]
    by_cases e2 : j = k
    · subst e2; rw [pk_uLs, if_pos ⟨rfl, rfl⟩]
    · rw [pk_uLn e2, if_neg (fun z => e2 z.2)]
  · rw [va_up_ne _ _ e, if_neg (fun z => e z.1)]
theorem aL_nI (σ : wS) (a : Nat) {k : Nat} (hk : k < 2 ^ 31) : aL σ a (nI k) = σ.2.2.2 a k := by
  show σ.2.2.2 a (nI k).toNatClampNeg = _
  rw [nI_clamp hk]
theorem ix53 (s k : Nat) : (53 : Int32) * nI s + nI k = nI (53 * s + k) := by
  rw [show (53 : Int32) = nI 53 from rfl, pk_mul, nI_add]
theorem m_longer {Q : wS → Prop} {τ : wS} {P Mo n s : Nat} {B Lm : List gL} (hP : P ≤ 20) (hM : Mo ≤ 16) (hm : mHas τ (B ++ Lm)) (h6 : τ.1 6 = nI B.length) (hL : ∀ x ∈ Lm, okF P Mo x) (hs : s < 53) (hn : n ≤ 60)
    (h2 : ∀ i k, i < 53 → k < 53 → (τ.2.2.2 2 (53 * i + k)).toInt = tv P Mo Lm 0 i k) (h3 : ∀ k, k < 53 → (τ.2.2.2 3 (53 * s + k)).toInt = tv P Mo Lm n s k)
    (hq : ∀ υ : wS, qR τ υ → υ.2.2.2 2 = τ.2.2.2 2 → (∀ i k, i < 53 → k < 53 → i ≠ s → υ.2.2.2 3 (53 * i + k) = τ.2.2.2 3 (53 * i + k)) → (∀ k, k < 53 → (υ.2.2.2 3 (53 * s + k)).toInt = tv P Mo Lm (n + 1) s k) → Q υ) : wm_X6_longer Q (nI s) τ := by
  have hA := okF.A hP hM hL
  obtain ⟨m5, ml, ma⟩ := hm
  have hlen : (B ++ Lm).length = B.length + Lm.length := List.length_append
  rw [hlen] at m5 ml
  have Gb : ∀ (k : Nat) (a : gL), a ∈ Lm → -20000000 ≤ -(bd k a.1 + a.2.2 + dm Lm a.2.1 n s) ∧ -(bd k a.1 + a.2.2 + dm Lm a.2.1 n s) ≤ 20000000 := by
    intro k a ha
    have h1 := bd_nn k a.1; have h2 := bd_le k a.1
    have h3 := dm_hi Lm a.2.1 n s; have h4 := dm_lo hA a.2.1 n s
    obtain ⟨-, -, h5, h6⟩ := hA a ha
    omega
  -- what far holds after j limits
  let FI : Nat → (Nat → Int64) → Prop := fun j e => ∀ k, k < 53 → ((inE P Mo s ∧ inE P Mo k → (∀ (i : Nat) (a : gL), i < j → Lm[i]? = some a → -(bd k a.1 + a.2.2 + dm Lm a.2.1 n s) ≤ (e k).toInt) ∧ ((e k).toInt = noI ∨ ∃ a ∈ Lm, (e k).toInt = -(bd k a.1 + a.2.2 + dm Lm a.2.1 n s))) ∧ (¬ (inE P Mo s ∧ inE P Mo k) → (e k).toInt = noI))
  -- the last loop
  have last : ∀ e : Nat → Int64, FI Lm.length e → ∃ n, wloop (wm_X6_longer_L157 Q (nI s)) n (0, sBF τ 1 e) := by
    intro e he
    have mxv : ∀ k, k < 53 → max (tv P Mo Lm n s k) (e k).toInt = tv P Mo Lm (n + 1) s k := by
      intro k hk
      obtain ⟨e1, e2⟩ := he k hk
      by_cases c : inE P Mo s ∧ inE P Mo k
      · obtain ⟨g1, g2⟩ := e1 c
        rw [tv_in c.1 c.2, tv_in c.1 c.2]
        have st := dm_step_le Lm k n s
        have lo := dm_lo hA k (n + 1) s
        have hi := dm_hi Lm k n s
        have up : (e k).toInt ≤ -dm Lm k (n + 1) s := by
          rcases g2 with z | ⟨a, ha, z⟩
          · have := dm_hi Lm k (n + 1) s
            rw [z]; unfold noI; omega
          · have := dm_first ha k n s
            omega
        rcases dm_firstE Lm k n s with z | ⟨a, ha, z⟩
        · omega
        · obtain ⟨i, hi⟩ := List.getElem?_of_mem ha
          have := g1 i a (List.getElem?_eq_some_iff.mp hi).1 hi
          omega
      · rw [tv_out c, tv_out c, e2 c]
        unfold noI
        split <;> omega
    refine wloop_of (fun v : Int32 × wS => ∃ (j : Nat) (υ : wS), j ≤ 53 ∧ v.1 = nI j ∧ v.2 = υ ∧ qR τ υ ∧ υ.2.2.2 2 = τ.2.2.2 2 ∧ υ.2.2.2 1 = e ∧ (∀ i k, i < 53 → k < 53 → i ≠ s → υ.2.2.2 3 (53 * i + k) = τ.2.2.2 3 (53 * i + k)) ∧ (∀ k, j ≤ k → k < 53 → υ.2.2.2 3 (53 * s + k) = τ.2.2.2 3 (53 * s + k)) ∧ (∀ k, k < j → (υ.2.2.2 3 (53 * s + k)).toInt = tv P Mo Lm (n + 1) s k)) (fun v => 53 - v.1.toNatClampNeg) ?_ _ ⟨0, _, by omega, rfl, rfl, qR.sBF τ (by omega) e, sBF_out τ (by omega) e, sBF_at τ 1 e, fun i k _ _ _ => by rw [sBF_out τ (by omega)], fun k _ _ => by rw [sBF_out τ (by omega)], fun k hk => absurd hk (Nat.not_lt_zero k)⟩
    rintro K ⟨x2, υ'⟩ ⟨j, υ, hj, e2, eυ, q1, q2, q3, q4, q5, q6⟩ kk
    dsimp only at e2 eυ kk
    subst e2; subst eυ
    dsimp only [wm_X6_longer_L157]
    rw [ix53]
    refine ⟨fun c => ?_, fun c => ?_⟩
    · have : 53 ≤ j := (nI_leI (a := 53) (by omega) (by omega)).mp c
      exact hq υ' q1 q2 q4 (fun k hk => q6 k (by omega))
    have hlt : j < 53 := Nat.lt_of_not_le (fun z => c ((nI_leI (a := 53) (by omega) (by omega)).mpr z))
    have hin : vp_in (nI (53 * s + j)) 2809 := nI_in (by omega) (by decide)
    refine ⟨hin, nI_in hlt (by decide), fun m1 em1 => ⟨hin, fun σ2 e2 a3 e3 => ?_⟩⟩
    subst e3
    have em : m1.toInt = tv P Mo Lm (n + 1) s j := by
      rw [em1, mxL_toInt, aL_nI υ' 3 (by omega), aL_nI υ' 1 (by omega), q5 j (Nat.le_refl _) hlt, q3, h3 j hlt]
      exact mxv j hlt
    have hv : ∀ b i, σ2.2.2.2 b i = if b = 3 ∧ i = 53 * s + j then m1 else υ'.2.2.2 b i := fun b i => by rw [e2]; exact b_sB υ' 3 (by omega) m1 b i
    refine kk _ ⟨j + 1, σ2, by omega, nI_1 j, rfl, q1.trans (by rw [e2]; exact qR.sB υ' (by omega) _ _), ?_, ?_, fun i k hi hk his => ?_, fun k h1 h2 => ?_, fun k hk => ?_⟩ (by dsimp only; rw [nI_1, nI_clamp (by omega), nI_clamp (by omega)]; omega)
    · rw [← q2]; funext i; rw [hv, if_neg (by omega)]
    · rw [← q3]; funext i; rw [hv, if_neg (by omega)]
    · rw [hv, if_neg (by omega)]; exact q4 i k hi hk his
    · rw [hv, if_neg (by omega)]; exact q5 k (by omega) h2
    · rw [hv]
      by_cases e : k = j
      · rw [if_pos ⟨rfl, by omega⟩, e]; exact em
      · rw [if_neg (by omega)]; exact q6 k (by omega)
  -- the limits
  have mid : ∀ e : Nat → Int64, FI 0 e → ∃ n, wloop (wm_X6_longer_L28 Q (nI s)) n (nI B.length, sBF τ 1 e) := by
    intro e he
    refine wloop_of (fun v : Int32 × wS => ∃ (j : Nat) (e : Nat → Int64), j ≤ Lm.length ∧ v.1 = nI (B.length + j) ∧ v.2 = sBF τ 1 e ∧ FI j e) (fun v => B.length + Lm.length - v.1.toNatClampNeg) ?_ _ ⟨0, e, Nat.zero_le _, rfl, rfl, he⟩
    rintro K ⟨x2, υ⟩ ⟨j, e, hj, e2, eυ, he⟩ kk
    dsimp only at e2 eυ kk
    subst e2; subst eυ
    dsimp only [wm_X6_longer_L28]
    rw [show (sBF τ 1 e).1 5 = nI (B.length + Lm.length) from m5]
    refine ⟨fun c => ?_, fun c => ?_⟩
    · have : B.length + Lm.length ≤ B.length + j := (nI_leI (by omega) (by omega)).mp c
      have ej : j = Lm.length := by omega
      subst ej
      exact last e he
    have hlt : j < Lm.length := by
      have : ¬ B.length + Lm.length ≤ B.length + j := fun z => c ((nI_leI (by omega) (by omega)).mpr z)
      omega
    obtain ⟨a, ha⟩ : ∃ a, Lm[j]? = some a := ⟨_, List.getElem?_eq_getElem hlt⟩
    have hmem : a ∈ Lm := List.mem_of_getElem? ha
    have haB : (B ++ Lm)[B.length + j]? = some a := by rw [List.getElem?_append_right (by omega), Nat.add_sub_cancel_left]; exact ha
    obtain ⟨b1, b2, b3⟩ := ma (B.length + j) a haB
    obtain ⟨o1, o2, o3, o4, -⟩ := hL a hmem
    have n1 := inE_lt hP hM o1
    have n2 := inE_lt hP hM o2
    have hin : vp_in (nI (B.length + j)) 400 := nI_in (by omega) (by decide)
    have r6 : aI (sBF τ 1 e) 6 (nI (B.length + j)) = nI a.2.1 := (aI_nI _ 6 (by omega)).trans b1
    have r7 : aI (sBF τ 1 e) 7 (nI (B.length + j)) = nI a.1 := (aI_nI _ 7 (by omega)).trans b2
    have r0 : (aL (sBF τ 1 e) 0 (nI (B.length + j))).toInt = -a.2.2 := by
      rw [aL_nI _ 0 (by omega), sBF_out τ (by omega)]; exact b3
    rw [r6, ix53]
    refine ⟨hin, nI_in (by omega) (by decide), fun a1 ea1 => ?_⟩
    have v1 : a1.toInt = tv P Mo Lm n s a.2.1 := by
      rw [ea1, aL_nI _ 3 (by omega), sBF_out τ (by omega)]; exact h3 _ n2
    by_cases cs : inE P Mo s
    · rw [tv_in cs o2] at v1
      have dlo := dm_lo hA a.2.1 n s
      have dhi := dm_hi Lm a.2.1 n s
      refine ⟨fun c1 => ⟨hin, fun a2 ea2 => ?_⟩, fun c1 => ?_⟩
      · have v2 : a2.toInt = -dm Lm a.2.1 n s - a.2.2 := by
          rw [ea2, addL (by rw [v1, r0]; omega) (by rw [v1, r0]; omega), v1, r0]; omega
        -- the places
        refine wloop_of (fun v : Int32 × wS => ∃ (i : Nat) (e' : Nat → Int64), i ≤ 53 ∧ v.1 = nI i ∧ v.2 = sBF τ 1 e' ∧ (∀ k, i ≤ k → k < 53 → e' k = e k) ∧ (∀ k, k < i → inE P Mo k → (e' k).toInt = max (e k).toInt (-(bd k a.1 + a.2.2 + dm Lm a.2.1 n s))) ∧ (∀ k, k < i → ¬ inE P Mo k → e' k = e k)) (fun v => 53 - v.1.toNatClampNeg) ?_ _ ⟨0, e, by omega, rfl, rfl, fun _ _ _ => rfl, fun k hk => absurd hk (Nat.not_lt_zero k), fun k hk => absurd hk (Nat.not_lt_zero k)⟩
        rintro K2 ⟨x5, υ⟩ ⟨i, e', hi, e5, eυ, w1, w2, w3⟩ kk2
        dsimp only at e5 eυ kk2
        subst e5; subst eυ
        dsimp only [wm_X6_longer_L76]
        have r7' : aI (sBF τ 1 e') 7 (nI (B.length + j)) = nI a.1 := (aI_nI _ 7 (by omega)).trans b2
        rw [r7', ix53]
        refine ⟨fun c2 a1' ea1' => ?_, fun c2 => ?_⟩
        · have h53 : 53 ≤ i := (nI_leI (a := 53) (by omega) (by omega)).mp c2
          subst ea1'
          refine kk _ ⟨j + 1, e', by omega, nI_1 _, rfl, fun k hk => ?_⟩ (by dsimp only; rw [nI_1, nI_clamp (by omega), nI_clamp (by omega)]; omega)
          obtain ⟨u1, u2⟩ := he k hk
          refine ⟨fun hc => ?_, fun hc => ?_⟩
          · obtain ⟨t1, t2⟩ := u1 hc
            have w := w2 k (by omega) hc.2
            refine ⟨fun i2 b hi2 hb => ?_, ?_⟩
            · by_cases ei : i2 = j
              · subst ei
                have hba : b = a := Option.some.inj (hb.symm.trans ha)
                subst hba
                omega
              · have := t1 i2 b (by omega) hb; omega
            · by_cases cm : (e k).toInt ≤ -(bd k a.1 + a.2.2 + dm Lm a.2.1 n s)
              · exact Or.inr ⟨a, hmem, by omega⟩
              · rcases t2 with z | ⟨b, hb, z⟩
                · exact Or.inl (by omega)
                · exact Or.inr ⟨b, hb, by omega⟩
          · have hk2 : ¬ inE P Mo k := fun z => hc ⟨cs, z⟩
            rw [w3 k (by omega) hk2]; exact u2 hc
        have hlt2 : i < 53 := Nat.lt_of_not_le (fun z => c2 ((nI_leI (a := 53) (by omega) (by omega)).mpr z))
        have hin2 : vp_in (nI (53 * a.1 + i)) 2809 := nI_in (by omega) (by decide)
        have rv : (aL (sBF τ 1 e') 2 (nI (53 * a.1 + i))).toInt = tv P Mo Lm 0 a.1 i := by
          rw [aL_nI _ 2 (by omega), sBF_out τ (by omega)]; exact h2 a.1 i n1 hlt2
        refine ⟨hin, hin2, fun c3 a2' ea2' => ?_, fun c3 => ⟨nI_in hlt2 (by decide), hin, hin2, fun m3 em3 => ⟨nI_in hlt2 (by decide), fun σ4 e4 a5 e5 => ?_⟩⟩⟩
        · subst ea2'
          have hni : ¬ inE P Mo i := by
            intro z
            rw [fa_eq64, rv, no_toInt, tv_in o1 z] at c3
            have := dm_hi Lm i 0 a.1
            unfold noI at c3; omega
          refine kk2 _ ⟨i + 1, e', by omega, nI_1 i, rfl, fun k h1 h2 => w1 k (by omega) h2, fun k hk hkE => ?_, fun k hk hkE => ?_⟩ (by dsimp only; rw [nI_1, nI_clamp (by omega), nI_clamp (by omega)]; omega)
          · by_cases e : k = i
            · subst e; exact absurd hkE hni
            · exact w2 k (by omega) hkE
          · by_cases e : k = i
            · subst e; exact w1 k (Nat.le_refl _) hlt2
            · exact w3 k (by omega) hkE
        · have hiE : inE P Mo i := by
            apply Classical.byContradiction
            intro z
            apply c3
            rw [fa_eq64, rv, no_toInt, tv_out (fun y => z y.2), if_neg (show ¬ a.1 = i from fun y => z (y ▸ o1))]
          rw [tv_in o1 hiE] at rv
          have d0 : dm Lm i 0 a.1 = bd i a.1 := rfl
          rw [d0] at rv
          have g1 := bd_nn i a.1
          have g2 := bd_le i a.1
          subst e5
          have hm3 : m3.toInt = max (e i).toInt (-(bd i a.1 + a.2.2 + dm Lm a.2.1 n s)) := by
            rw [em3, mxL_toInt, aL_sBF_nI τ 1 e' (by omega), w1 i (Nat.le_refl _) hlt2, addL (by rw [v2, rv]; omega) (by rw [v2, rv]; omega), v2, rv]
            congr 1
            omega
          subst e4
          rw [sB_sBF, nI_clamp (by omega)]
          refine kk2 _ ⟨i + 1, _, by omega, nI_1 i, rfl, fun k h1 h2 => ?_, fun k hk hkE => ?_, fun k hk hkE => ?_⟩ (by dsimp only; rw [nI_1, nI_clamp (by omega), nI_clamp (by omega)]; omega)
          · rw [pk_uLn (by omega)]; exact w1 k (by omega) h2
          · by_cases e : k = i
            · subst e; rw [pk_uLs]; exact hm3
            · rw [pk_uLn e]; exact w2 k (by omega) hkE
          · by_cases e : k = i
            · subst e; exact absurd hiE hkE
            · rw [pk_uLn e]; exact w3 k (by omega) hkE
      · rw [fa_eq64, v1, no_toInt] at c1
        unfold noI at c1; omega
    · have hne : ¬ s = a.2.1 := fun z => cs (z ▸ o2)
      rw [tv_out (fun z => cs z.1), if_neg hne] at v1
      refine i_t' (by rw [fa_eq64, v1, no_toInt]) (fun a3 ea3 => ?_)
      subst ea3
      refine kk _ ⟨j + 1, e, by omega, nI_1 _, rfl, fun k hk => ⟨fun hc => absurd hc.1 cs, (he k hk).2⟩⟩ (by dsimp only; rw [nI_1, nI_clamp (by omega), nI_clamp (by omega)]; omega)
  refine wloop_of (fun v : Int32 × wS => ∃ (j : Nat) (e : Nat → Int64), j ≤ 53 ∧ v.1 = nI j ∧ v.2 = sBF τ 1 e ∧ ∀ k, k < j → (e k).toInt = noI) (fun v => 53 - v.1.toNatClampNeg) ?_ _ ⟨0, τ.2.2.2 1, by omega, rfl, (sBF_self τ 1).symm, fun k hk => absurd hk (Nat.not_lt_zero k)⟩
  rintro K ⟨x2, υ⟩ ⟨j, e, hj, e2, eυ, he⟩ kk
  dsimp only at e2 eυ kk
  subst e2; subst eυ
  dsimp only [wm_X6_longer_L2]
  refine ⟨fun c a1 ea1 => ?_, fun c => ?_⟩
  · have h53 : 53 ≤ j := (nI_leI (a := 53) (by omega) (by omega)).mp c
    have ea1 : a1 = nI B.length := ea1.trans h6
    subst ea1
    exact mid e (fun k hk => ⟨fun _ => ⟨fun i a hi => absurd hi (Nat.not_lt_zero i), Or.inl (he k (by omega))⟩, fun _ => he k (by omega)⟩)
  · have hlt : j < 53 := Nat.lt_of_not_le (fun z => c ((nI_leI (a := 53) (by omega) (by omega)).mpr z))
    refine ⟨nI_in hlt (by decide), fun σ2 e2 a3 e3 => ?_⟩
    subst e3; subst e2
    rw [sB_sBF, nI_clamp (by omega)]
    refine kk _ ⟨j + 1, _, by omega, nI_1 j, rfl, fun k hk => ?_⟩ (by dsimp only; rw [nI_1, nI_clamp (by omega), nI_clamp (by omega)]; omega)
    by_cases e : k = j
    · rw [e, pk_uLs]; exact no_toInt
    · rw [pk_uLn e]; exact he k (by omega)
