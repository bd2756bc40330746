/-- the wishes of the first P plates, as numbers -/
def cpX (P : Nat) (w h l : Nat → Nat) (a1 a2 a3 : Nat → Int32) : Prop := (∀ p, w p ≤ 99 ∧ 1 ≤ h p ∧ h p ≤ 50 ∧ 1 ≤ l p ∧ l p ≤ 500) ∧ ∀ p, p < P → a1 p = nI (w p) ∧ a2 p = nI (h p) ∧ a3 p = nI (l p)
def oS (l : Nat → Nat) (P : Nat) : Nat → Nat := sAll (fun p => (l p : Int)) P
def vX (w : Nat → Nat) (p : Nat) : Nat := w p * 2 ^ 20 + 2 ^ (19 - p)
theorem mn_nI {a b : Nat} (ha : a < 2 ^ 31) (hb : b < 2 ^ 31) : mn (nI a) (nI b) = nI (min a b) := by
  unfold mn
  by_cases h : b < a
  · rw [if_pos ((nI_ltI hb ha).mpr h), Nat.min_eq_right (by omega)]
  · rw [if_neg (fun z => h ((nI_ltI hb ha).mp z)), Nat.min_eq_left (by omega)]
theorem vX_le {w : Nat → Nat} (hw : ∀ p, w p ≤ 99) (p : Nat) : vX w p ≤ 104857600 := by
  unfold vX
  have := hw p
  have h2 : 2 ^ (19 - p) ≤ 2 ^ 19 := Nat.pow_le_pow_right (by omega) (by omega)
  omega
abbrev tt : Nat → Bool := fun _ => true
theorem dp_tt {H L : Nat → Nat} {V : Nat → Int} (k t : Nat) : dpT H L V tt tt (k + 1) t = max (dpT H L V tt tt k t) (if t ≤ L k ∧ H k ≤ t ∧ 0 ≤ dpT H L V tt tt k (t - H k) then dpT H L V tt tt k (t - H k) + V k else -1) := by
  conv => lhs; unfold dpT
  rw [if_pos (show tt k = true from rfl)]
  congr 1
  by_cases c : t ≤ L k ∧ H k ≤ t ∧ 0 ≤ dpT H L V tt tt k (t - H k)
  · rw [if_pos c, if_pos ⟨rfl, c⟩]
  · rw [if_neg c, if_neg (fun z => c z.2)]
theorem sL_sL (σ : wS) (k : Nat) (x y : Int64) : sL (sL σ k x) k y = sL σ k y := by
  have h : va_up (va_up σ.2.1 k x) k y = va_up σ.2.1 k y := by
    funext q
    by_cases e : q = k
    · subst e; rw [va_up_self, va_up_self]
    · rw [va_up_ne _ _ e, va_up_ne _ _ e, va_up_ne _ _ e]
  show (σ.1, va_up (va_up σ.2.1 k x) k y, σ.2.2) = (σ.1, va_up σ.2.1 k y, σ.2.2)
  rw [h]
theorem x_choose {Q : wS → Prop} {σ : wS} {P : Nat} {w h l : Nat → Nat} (hP : P ≤ 20) (hc : cpX P w h l (σ.2.2.1 1) (σ.2.2.1 2) (σ.2.2.1 3))
    (hq : ∀ (τ : wS) (M : Nat), keepX σ τ → (∀ k, k < P → τ.2.2.1 4 k = nI (oS l P k)) → τ.2.1 0 = lN M → M < 2 ^ 40 → isBst (fun k => h (oS l P k)) (fun k => l (oS l P k)) (fun k => (vX w (oS l P k) : Int)) tt tt P (M : Int) → Q τ) : wx_X0_choose Q (nI P) σ := by
  obtain ⟨c0, c1⟩ := hc
  intro m1 em1
  rw [show (20 : Int32) = nI 20 from rfl, mn_nI (by omega) (by omega), Nat.min_eq_left hP] at em1
  subst em1
  refine x_sort (l := fun p => (l p : Int)) hP (fun q hq2 => by rw [(c1 q hq2).2.2, nI_toInt (by have := (c0 q).2.2.2.2; omega)]) (fun τ ke ho => ?_)
  have hol : ∀ k, k < P → oS l P k < P := fun k hk => sAll_lt _ hk
  have hV : ∀ k, 0 ≤ ((vX w (oS l P k) : Nat) : Int) ∧ ((vX w (oS l P k) : Nat) : Int) ≤ 104857600 := fun k => by
    have := vX_le (fun p => (c0 p).1) (oS l P k)
    omega
  generalize hoe : oS l P = o at *
  -- the table filled
  have fill : ∀ g0 : Nat → Int64, ∃ n, wloop (wx_J7_fill_d0a16_worths_L6 (fun σ3 => vp_in 0 501 ∧ ∀ σ4 : wS, σ4 = sB σ3 0 0 0 → ∃ n, wloop (wx_X0_choose_L34 Q (nI P)) n (0, 0, σ4)) (-1) 501) n (0, τ) := by
    intro _
    refine wloop_of (fun v : Int32 × wS => ∃ (k : Nat) (g : Nat → Int64), k ≤ 501 ∧ v.1 = nI k ∧ v.2 = sBF τ 0 g ∧ ∀ t, t < k → (g t).toInt = -1) (fun v => 501 - v.1.toNatClampNeg) ?_ _ ⟨0, τ.2.2.2 0, by omega, rfl, (sBF_self τ 0).symm, fun t ht => absurd ht (Nat.not_lt_zero t)⟩
    rintro K ⟨x3, υ⟩ ⟨k, g, hk, e3, eυ, hg⟩ kk
    dsimp only at e3 eυ kk
    subst e3; subst eυ
    dsimp only [wx_J7_fill_d0a16_worths_L6]
    refine ⟨fun c => ?_, fun c => ?_⟩
    · have hk501 : 501 ≤ k := (nI_leI (a := 501) (by omega) (by omega)).mp c
      refine ⟨nI_in (c := 0) (by omega) (by decide), fun σ4 e4 => ?_⟩
      have e4' : σ4 = sBF τ 0 (vp_updL g 0 0) := by rw [e4, sB_sBF]; rfl
      subst e4'
      -- the plates offered
      refine wloop_of (fun v : Int32 × Int32 × wS => ∃ (k : Nat) (g : Nat → Int64), k ≤ P ∧ v.1 = nI (fb_sm (fun k => h (o k)) k) ∧ v.2.1 = nI k ∧ v.2.2 = sBF τ 0 g ∧ ∀ t, t ≤ 500 → (g t).toInt = dpT (fun k => h (o k)) (fun k => l (o k)) (fun k => (vX w (o k) : Int)) tt tt k t) (fun v => P - v.2.1.toNatClampNeg) ?_ _ ⟨0, _, Nat.zero_le _, rfl, rfl, rfl, fun t ht => ?_⟩
      · rintro K' ⟨y3, y4, υ⟩ ⟨k, g, hk, e3, e4, eυ, hg⟩ kk'
        dsimp only at e3 e4 eυ kk'
        subst e3; subst e4; subst eυ
        dsimp only [wx_X0_choose_L34]
        have hsum : fb_sm (fun k => h (o k)) k ≤ k * 50 := fb_sm_bound (fun j _ => (c0 (o j)).2.2.1)
        refine ⟨fun c σ1 e1 => ?_, fun c => ?_⟩
        · have hkP : k = P := by have : P ≤ k := (nI_leI (by omega) (by omega)).mp c; omega
          subst hkP
          subst e1
          -- the best of them
          have fin : ∀ (r : Int64), 0 ≤ r.toInt → (∀ t, t < 501 → dpT (fun k => h (o k)) (fun k => l (o k)) (fun k => (vX w (o k) : Int)) tt tt k t ≤ r.toInt) → (r.toInt = 0 ∨ ∃ t, t < 501 ∧ r.toInt = dpT (fun k => h (o k)) (fun k => l (o k)) (fun k => (vX w (o k) : Int)) tt tt k t) → Q (sL (sBF τ 0 g) 0 r) := by
            intro r r0 r1 r2
            obtain ⟨M, hM⟩ : ∃ M : Nat, r.toInt = (M : Int) := ⟨r.toInt.toNat, by omega⟩
            have d0 := dp_le (H := fun k => h (o k)) (L := fun k => l (o k)) (V := fun k => (vX w (o k) : Int)) (z := tt) (y := tt) (c := fun _ => false) (fun k => (hV k).1) k (fun i _ => ⟨fun z => (by cases z), fun _ => rfl⟩)
            have t0 : tm (fun k => h (o k)) (fun _ => false) k = 0 := by
              have : ∀ k, tm (fun k => h (o k)) (fun _ => false) k = 0 := by
                intro k
                induction k with
                | zero => rfl
                | succ k ih => unfold tm; rw [ih]; rfl
              exact this k
            rw [t0] at d0
            have vn := vl_nn (V := fun k => (vX w (o k) : Int)) (fun k => (hV k).1) (fun _ => false) k
            have dub := fun t => dp_ub (H := fun k => h (o k)) (L := fun k => l (o k)) (V := fun k => (vX w (o k) : Int)) (z := tt) (y := tt) hV k t
            have rr : ∃ t, t ≤ 500 ∧ r.toInt = dpT (fun k => h (o k)) (fun k => l (o k)) (fun k => (vX w (o k) : Int)) tt tt k t := by
              rcases r2 with z | ⟨t, ht, z⟩
              · have := r1 0 (by omega)
                exact ⟨0, by omega, by omega⟩
              · exact ⟨t, by omega, z⟩
            have Mlt : M < 2 ^ 40 := by
              obtain ⟨t, -, z⟩ := rr
              have := dub t
              omega
            refine hq _ M ?_ (fun j hj => by rw [← hoe]; exact ho j hj) ?_ Mlt ?_
            · exact ⟨fun j _ _ => congrFun ke.1 j, fun a ha _ => ke.2 a ha⟩
            · show r = lN M
              rw [fa_eq64, pk_lT (by omega)]; exact hM
            · rw [← hM]
              exact bst_of (fun k => (hV k).1) (fun i => (c0 (o i)).2.2.2.2) (fun t ht => r1 t (by omega)) (Or.inr rr)
          refine wloop_of (fun v : Int32 × wS => ∃ (j : Nat) (r : Int64), j ≤ 501 ∧ v.1 = nI j ∧ v.2 = sL (sBF τ 0 g) 0 r ∧ 0 ≤ r.toInt ∧ (∀ t, t < j → dpT (fun k => h (o k)) (fun k => l (o k)) (fun k => (vX w (o k) : Int)) tt tt k t ≤ r.toInt) ∧ (r.toInt = 0 ∨ ∃ t, t < j ∧ r.toInt = dpT (fun k => h (o k)) (fun k => l (o k)) (fun k => (vX w (o k) : Int)) tt tt k t)) (fun v => 501 - v.1.toNatClampNeg) ?_ _ ⟨0, 0, by omega, rfl, rfl, by decide, fun t ht => absurd ht (Nat.not_lt_zero t), Or.inl (by decide)⟩
          rintro K2 ⟨y, υ⟩ ⟨j, r, hj, ey, eυ, r0, r1, r2⟩ kk2
          dsimp only at ey eυ kk2
          subst ey; subst eυ
          dsimp only [wx_X0_choose_L90]
          refine ⟨fun c => ?_, fun c => ⟨?_, fun m1 em1 σ2 e2 a3 e3 => ?_⟩⟩
          · have : 500 < j := (nI_ltI (a := 500) (by omega) (by omega)).mp c
            have e : j = 501 := by omega
            subst e
            exact fin r r0 r1 r2
          · have : ¬ 500 < j := fun z => c ((nI_ltI (a := 500) (by omega) (by omega)).mpr z)
            exact nI_in (by omega) (by decide)
          · have hj5 : ¬ 500 < j := fun z => c ((nI_ltI (a := 500) (by omega) (by omega)).mpr z)
            subst e3
            have em : m1.toInt = max r.toInt (dpT (fun k => h (o k)) (fun k => l (o k)) (fun k => (vX w (o k) : Int)) tt tt k j) := by
              rw [em1, mxL_toInt]
              have e5 : aL (sL (sBF τ 0 g) 0 r) 0 (nI j) = g j := by
                show va_up τ.2.2.2 0 g 0 (nI j).toNatClampNeg = _
                rw [va_up_self, nI_clamp (by omega)]
              have e6 : (sL (sBF τ 0 g) 0 r).2.1 0 = r := by show va_up τ.2.1 0 r 0 = r; exact va_up_self _ _ _
              rw [e5, e6, hg j (by omega)]
            have e2' : σ2 = sL (sBF τ 0 g) 0 m1 := e2.trans (sL_sL _ 0 r m1)
            subst e2'
            refine kk2 _ ⟨j + 1, m1, by omega, nI_1 j, rfl, by omega, fun t ht => ?_, ?_⟩ (by dsimp only; rw [nI_1, nI_clamp (by omega), nI_clamp (by omega)]; omega)
            · by_cases e : t = j
              · subst e; omega
              · have := r1 t (by omega); omega
            · by_cases cm : r.toInt ≤ dpT (fun k => h (o k)) (fun k => l (o k)) (fun k => (vX w (o k) : Int)) tt tt k j
              · exact Or.inr ⟨j, by omega, by omega⟩
              · rcases r2 with z | ⟨t, ht, z⟩
                · exact Or.inl (by omega)
                · exact Or.inr ⟨t, by omega, by omega⟩
        have hlt : k < P := Nat.lt_of_not_le (fun z => c ((nI_leI (by omega) (by omega)).mpr z))
        have hok := hol k hlt
        obtain ⟨b1, b2, b3⟩ := c1 (o k) hok
        obtain ⟨d1, d2, d3, d4, d5⟩ := c0 (o k)
        have k4 : aI (sBF τ 0 g) 4 (nI k) = nI (o k) := by
          rw [aI_nI _ 4 (by omega)]; rw [← hoe]; exact ho k hlt
        refine ⟨nI_in (by omega) (by decide), fun a2 e2 => ?_⟩
        rw [k4] at e2
        subst e2
        have s1 : (sBF τ 0 g).2.2.1 1 (o k) = nI (w (o k)) := (congrFun (ke.2 1 (by omega)) (o k)).trans b1
        have s2 : (sBF τ 0 g).2.2.1 2 (o k) = nI (h (o k)) := (congrFun (ke.2 2 (by omega)) (o k)).trans b2
        have s3 : (sBF τ 0 g).2.2.1 3 (o k) = nI (l (o k)) := (congrFun (ke.2 3 (by omega)) (o k)).trans b3
        have hin : vp_in (nI (o k)) 20 := nI_in (by omega) (by decide)
        refine ⟨hin, fun a3 e3 => ⟨hin, fun m4 e4 => ?_⟩⟩
        rw [aI_nI _ 2 (by omega), s2, nI_add] at e3
        subst e3
        rw [aI_nI _ 3 (by omega), s3, mn_nI (by omega) (by omega)] at e4
        subst e4
        have hsu : fb_sm (fun k => h (o k)) (k + 1) = fb_sm (fun k => h (o k)) k + h (o k) := rfl
        refine x_offer (f := fun t => dpT (fun k => h (o k)) (fun k => l (o k)) (fun k => (vX w (o k) : Int)) tt tt k t) (F := fun t => dpT (fun k => h (o k)) (fun k => l (o k)) (fun k => (vX w (o k) : Int)) tt tt (k + 1) t) (m := min (fb_sm (fun k => h (o k)) k + h (o k)) (l (o k))) (w := w (o k)) (h := h (o k)) (l := l (o k)) (by omega) d1 d2 d3 (by omega) s1 s2 (fun t ht => ?_) (fun t => ?_) (fun t => ?_) (by omega) (fun t h1 h2 => ?_) (fun g2 hg2 a6 e6 => ?_) ?_
        · show (va_up τ.2.2.2 0 g 0 t).toInt = _
          rw [va_up_self]; exact hg t ht
        · have := dp_ge (H := fun k => h (o k)) (L := fun k => l (o k)) (V := fun k => (vX w (o k) : Int)) (z := tt) (y := tt) k t
          have := dp_ub (H := fun k => h (o k)) (L := fun k => l (o k)) (V := fun k => (vX w (o k) : Int)) (z := tt) (y := tt) hV k t
          omega
        · exact dp_tt k t
        · rw [dp_tt]
          have ge := dp_ge (H := fun k => h (o k)) (L := fun k => l (o k)) (V := fun k => (vX w (o k) : Int)) (z := tt) (y := tt) k t
          rw [if_neg]
          · omega
          · rintro ⟨q1, q2, q3⟩
            have big := dp_big (H := fun k => h (o k)) (L := fun k => l (o k)) (V := fun k => (vX w (o k) : Int)) (z := tt) (y := tt) (k := k) (t := t - h (o k)) (by omega)
            omega
        · subst e6
          rw [sBF_sBF]
          refine kk' _ ⟨k + 1, g2, by omega, by dsimp only; rw [hsu], nI_1 k, rfl, hg2⟩ (by dsimp only; rw [nI_1, nI_clamp (by omega), nI_clamp (by omega)]; omega)
        · rw [show (500 : Int32) = nI 500 from rfl, mn_nI (by omega) (by omega)]
          congr 1
          omega
      · unfold dpT
        by_cases e : t = 0
        · subst e; rw [pk_uLs]; decide
        · rw [pk_uLn e, if_neg e]; exact hg t (by omega)
    have hlt : k < 501 := Nat.lt_of_not_le (fun z => c ((nI_leI (a := 501) (by omega) (by omega)).mpr z))
    refine ⟨nI_in (by omega) (by decide), fun σ1 e1 a2 e2 => ?_⟩
    subst e1; subst e2
    rw [sB_sBF, nI_clamp (by omega)]
    refine kk _ ⟨k + 1, _, by omega, nI_1 k, rfl, fun t ht => ?_⟩ (by dsimp only; rw [nI_1, nI_clamp (by omega), nI_clamp (by omega)]; omega)
    by_cases e : t = k
    · subst e; rw [pk_uLs]; decide
    · rw [pk_uLn e]; exact hg t (by omega)
  exact fill (τ.2.2.2 0)
