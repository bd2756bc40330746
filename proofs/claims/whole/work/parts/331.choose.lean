/-! CHOOSE: the class's plan -/
def keepA (A : Nat) (σ τ : wS) : Prop := τ.1 = σ.1 ∧ ∀ b, b ≠ A → τ.2.2.1 b = σ.2.2.1 b
theorem keepA.trans {A : Nat} {a b c : wS} (h : keepA A a b) (h2 : keepA A b c) : keepA A a c := ⟨h2.1.trans h.1, fun k k1 => (h2.2 k k1).trans (h.2 k k1)⟩
theorem keepA.sA (A : Nat) (σ : wS) (i v : Int32) : keepA A σ (sA σ A i v) := ⟨rfl, fun _ h => va_up_ne _ _ h⟩
theorem aI_nI (σ : wS) (a : Nat) {k : Nat} (hk : k < 2 ^ 31) : aI σ a (nI k) = σ.2.2.1 a k := by
  show σ.2.2.1 a (nI k).toNatClampNeg = _
  rw [nI_clamp hk]
theorem srt_in {A B p : Nat} {σ0 : wS} {K2 : Int32 × wS → Prop} {inner : ((Int32 × wS) → Prop) → (Int32 × wS) → Prop} (hAB : B ≠ A) (hp : p < 20)
    (hb : ∀ K x τ, inner K (x, τ) ↔ ((x ≤ 0 → vp_in x 20 ∧ ∀ σ1 : wS, σ1 = sA τ A x (nI p) → ∀ a2 : Int32, a2 = nI p + 1 → K2 (a2, σ1)) ∧ (¬ x ≤ 0 → vp_in (x - 1) 20 ∧ vp_in (aI τ A (x - 1)) 20 ∧ vp_in (nI p) 20 ∧ ((aI τ B (aI τ A (x - 1)) ≤ aI τ B (nI p) → vp_in x 20 ∧ ∀ σ1 : wS, σ1 = sA τ A x (nI p) → ∀ a2 : Int32, a2 = nI p + 1 → K2 (a2, σ1)) ∧ (¬ aI τ B (aI τ A (x - 1)) ≤ aI τ B (nI p) → vp_in (x - 1) 20 ∧ vp_in x 20 ∧ ∀ σ1 : wS, σ1 = sA τ A x (aI τ A (x - 1)) → ∀ a2 : Int32, a2 = x + (-1) → K (a2, σ1))))))
    {l : Nat → Int} (hl : ∀ q, q ≤ p → (σ0.2.2.1 B q).toInt = l q) {t : Nat → Nat} (ht : ∀ k, k < p → σ0.2.2.1 A k = nI (t k) ∧ t k < p)
    (hq : ∀ τ : wS, keepA A σ0 τ → (∀ k, k ≤ p → τ.2.2.1 A k = nI (sIn l p p t k)) → K2 (nI p + 1, τ)) : ∃ n, wloop inner n (nI p, σ0) := by
  refine wloop_of (fun w : Int32 × wS => ∃ (a : Nat) (tp : Nat → Nat), a ≤ p ∧ w.1 = nI a ∧ keepA A σ0 w.2 ∧ (∀ k, k ≤ p → k ≠ a → w.2.2.2.1 A k = nI (tp k) ∧ tp k < p) ∧ sIn l p a tp = sIn l p p t) (fun w => w.1.toNatClampNeg) ?_ _ ⟨p, t, Nat.le_refl _, rfl, ⟨rfl, fun _ _ => rfl⟩, fun k h1 h2 => ht k (by omega), rfl⟩
  rintro K ⟨x, τ⟩ ⟨a, tp, ha, ex, ke, h1, h2⟩ kk
  dsimp only at ex ke h1 h2 kk
  subst ex
  rw [hb]
  have stop : (∀ k, k ≤ p → (if k = a then p else tp k) = sIn l p p t k) → vp_in (nI a) 20 ∧ ∀ σ1 : wS, σ1 = sA τ A (nI a) (nI p) → ∀ a2 : Int32, a2 = nI p + 1 → K2 (a2, σ1) := by
    intro hs
    refine ⟨nI_in (by omega) (by decide), fun σ1 e1 a2 e2 => ?_⟩
    subst e1; subst e2
    refine hq _ (ke.trans (keepA.sA A τ _ _)) (fun k hk => ?_)
    rw [a_sA τ A (by omega), ← hs k hk]
    by_cases e : k = a
    · rw [if_pos ⟨rfl, e⟩, if_pos e]
    · rw [if_neg (fun z => e z.2), if_neg e]; exact (h1 k hk e).1
  refine ⟨fun c => ?_, fun c => ?_⟩
  · have ha0 : a = 0 := by
      have : a ≤ 0 := (nI_leI (b := 0) (by omega) (by omega)).mp c
      omega
    subst ha0
    refine stop (fun k hk => ?_)
    rw [← h2]; rfl
  obtain ⟨b, rfl⟩ : ∃ b, a = b + 1 := ⟨a - 1, by
    have : a ≠ 0 := fun z => c (by rw [z]; exact (nI_leI (b := 0) (by omega) (by omega)).mpr (Nat.le_refl _))
    omega⟩
  obtain ⟨g1, g2⟩ := h1 b (by omega) (by omega)
  rw [nI_pred, aI_nI τ A (by omega), g1, aI_nI τ B (by omega), aI_nI τ B (by omega), ke.2 B hAB, fa_le, hl p (Nat.le_refl _), hl (tp b) (by omega)]
  refine ⟨nI_in (by omega) (by decide), nI_in (by omega) (by decide), nI_in hp (by decide), fun c1 => stop (fun k hk => ?_), fun c1 => ⟨nI_in (by omega) (by decide), nI_in (by omega) (by decide), fun σ1 e1 a2 e2 => ?_⟩⟩
  · rw [← h2]
    unfold sIn
    rw [if_pos c1]
  · rw [pk_m1] at e2
    subst e1; subst e2
    refine kk _ ⟨b, fun k => if k = b + 1 then tp b else tp k, by omega, rfl, ke.trans (keepA.sA A τ _ _), fun k hk hkb => ?_, ?_⟩ ?_
    · dsimp only
      rw [a_sA τ A (by omega)]
      by_cases e : k = b + 1
      · rw [if_pos ⟨rfl, e⟩, if_pos e]; exact ⟨rfl, g2⟩
      · rw [if_neg (fun z => e z.2), if_neg e]; exact h1 k hk e
    · rw [← h2]
      conv => rhs; unfold sIn
      rw [if_neg c1]
    · dsimp only
      rw [nI_clamp (by omega), nI_clamp (by omega)]; omega
theorem x_sort {Q : wS → Prop} {σ : wS} {P : Nat} (hP : P ≤ 20) {l : Nat → Int} (hl : ∀ q, q < P → (σ.2.2.1 3 q).toInt = l q) (hq : ∀ τ : wS, keepA 4 σ τ → (∀ k, k < P → τ.2.2.1 4 k = nI (sAll l P k)) → Q τ) : wx_X0_sortTurns Q (nI P) σ := by
  refine wloop_of (fun w : Int32 × wS => ∃ p : Nat, p ≤ P ∧ w.1 = nI p ∧ keepA 4 σ w.2 ∧ ∀ k, k < p → w.2.2.2.1 4 k = nI (sAll l p k)) (fun w => P - w.1.toNatClampNeg) ?_ _ ⟨0, Nat.zero_le _, rfl, ⟨rfl, fun _ _ => rfl⟩, fun k hk => absurd hk (Nat.not_lt_zero k)⟩
  rintro K ⟨x, τ⟩ ⟨p, hp, ex, ke, h1⟩ kk
  dsimp only at ex ke h1 kk
  subst ex
  dsimp only [wx_X0_sortTurns_L2]
  refine ⟨fun c => ?_, fun c => ?_⟩
  · have : P ≤ p := (nI_leI (by omega) (by omega)).mp c
    have e : p = P := by omega
    subst e
    exact hq τ ke h1
  have hlt : p < P := Nat.lt_of_not_le (fun z => c ((nI_leI (by omega) (by omega)).mpr z))
  refine srt_in (A := 4) (B := 3) (K2 := K) (by omega) (by omega) (fun K x τ => Iff.rfl) (l := l) (fun q hq2 => by rw [ke.2 3 (by omega)]; exact hl q (by omega)) (t := sAll l p) (fun k hk => ⟨h1 k hk, sAll_lt l hk⟩) (fun υ ku hu => ?_)
  refine kk _ ⟨p + 1, by omega, nI_1 p, ke.trans ku, fun k hk => hu k (by omega)⟩ ?_
  dsimp only
  rw [nI_1, nI_clamp (by omega), nI_clamp (by omega)]; omega
theorem m_sort {Q : wS → Prop} {σ : wS} {P : Nat} (hP : P ≤ 20) (h2 : σ.1 2 = nI P) {l : Nat → Int} (hl : ∀ q, q < P → (σ.2.2.1 16 q).toInt = l q) (hq : ∀ τ : wS, keepA 17 σ τ → (∀ k, k < P → τ.2.2.1 17 k = nI (sAll l P k)) → Q τ) : wm_X6_orders Q σ := by
  refine wloop_of (fun w : Int32 × wS => ∃ p : Nat, p ≤ P ∧ w.1 = nI p ∧ keepA 17 σ w.2 ∧ ∀ k, k < p → w.2.2.2.1 17 k = nI (sAll l p k)) (fun w => P - w.1.toNatClampNeg) ?_ _ ⟨0, Nat.zero_le _, rfl, ⟨rfl, fun _ _ => rfl⟩, fun k hk => absurd hk (Nat.not_lt_zero k)⟩
  rintro K ⟨x, τ⟩ ⟨p, hp, ex, ke, h1⟩ kk
  dsimp only at ex ke h1 kk
  subst ex
  dsimp only [wm_X6_orders_L2]
  rw [show τ.1 2 = nI P by rw [ke.1]; exact h2]
  refine ⟨fun c => ?_, fun c => ?_⟩
  · have : P ≤ p := (nI_leI (by omega) (by omega)).mp c
    have e : p = P := by omega
    subst e
    exact hq τ ke h1
  have hlt : p < P := Nat.lt_of_not_le (fun z => c ((nI_leI (by omega) (by omega)).mpr z))
  refine srt_in (A := 17) (B := 16) (K2 := K) (by omega) (by omega) (fun K x τ => Iff.rfl) (l := l) (fun q hq2 => by rw [ke.2 16 (by omega)]; exact hl q (by omega)) (t := sAll l p) (fun k hk => ⟨h1 k hk, sAll_lt l hk⟩) (fun υ ku hu => ?_)
  refine kk _ ⟨p + 1, by omega, nI_1 p, ke.trans ku, fun k hk => hu k (by omega)⟩ ?_
  dsimp only
  rw [nI_1, nI_clamp (by omega), nI_clamp (by omega)]; omega
theorem dp_ub {H L : Nat → Nat} {V : Nat → Int} {z y : Nat → Bool} (hV : ∀ k, 0 ≤ V k ∧ V k ≤ 104857600) : ∀ (k t : Nat), dpT H L V z y k t ≤ 104857600 * (k : Int)
  | 0, t => by unfold dpT; split <;> omega
  | k + 1, t => by
    unfold dpT
    have h1 := dp_ub (H := H) (L := L) (z := z) (y := y) hV k t
    have h2 := dp_ub (H := H) (L := L) (z := z) (y := y) hV k (t - H k)
    have h3 := hV k
    split <;> split <;> omega
theorem mxL_toInt (x y : Int64) : (mxL x y).toInt = max x.toInt y.toInt := by
  unfold mxL
  by_cases h : y < x
  · rw [if_pos h]; rw [fa_lt64] at h; omega
  · rw [if_neg h]; rw [fa_lt64] at h; omega
theorem mx_toInt (x y : Int32) : (mx x y).toInt = max x.toInt y.toInt := by
  unfold mx
  by_cases h : x < y
  · rw [if_pos h]; rw [fa_lt] at h; omega
  · rw [if_neg h]; rw [fa_lt] at h; omega
theorem bitOf_eq {p : Nat} (hp : p < 20) : ((1 : Int64) <<< (Int32.toInt64 (19 - nI p) &&& 63)) = lN (2 ^ (19 - p)) := by
  rw [show (19 : Int32) = nI 19 from rfl, pk_sub (by omega), show (1 : Int64) = lN 1 from rfl, wb_shl 1 (by omega), Nat.one_mul]
theorem worth_eq {p w : Nat} (hp : p < 20) (hw : w ≤ 99) : ((Int32.toInt64 (nI w)) <<< (Int32.toInt64 20 &&& 63)) + ((1 : Int64) <<< (Int32.toInt64 (19 - nI p) &&& 63)) = lN (w * 2 ^ 20 + 2 ^ (19 - p)) := by
  rw [bitOf_eq hp, nI_l (by omega), show (20 : Int32) = nI 20 from rfl, wb_shl w (by omega), lN_add]
theorem pw_le {p : Nat} (hp : p < 20) : 2 ^ (19 - p) ≤ 2 ^ 19 := Nat.pow_le_pow_right (by omega) (by omega)
theorem x_worthOf {Q : Int64 → Prop} {σ : wS} {p w : Nat} (hp : p < 20) (hw : w ≤ 99) (a1 : σ.2.2.1 1 p = nI w) (hq : Q (lN (w * 2 ^ 20 + 2 ^ (19 - p)))) : wx_X0_worthOf Q (nI p) σ := by
  refine ⟨nI_in hp (by decide), ?_⟩
  unfold wx_X0_bitOf
  rw [aI_nI σ 1 (by omega), a1]
  exact (congrArg Q (worth_eq hp hw)).mpr hq
/-- one plate offered: f before, F after -/
theorem x_offer {Q : wS → Prop} {σ : wS} {p w h l m : Nat} {f F : Nat → Int} (hp : p < 20) (hw : w ≤ 99) (h1 : 1 ≤ h) (h50 : h ≤ 50) (hm : m ≤ 500) (a1 : σ.2.2.1 1 p = nI w) (a2 : σ.2.2.1 2 p = nI h)
    (hf : ∀ t, t ≤ 500 → (σ.2.2.2 0 t).toInt = f t) (hb : ∀ t, -1 ≤ f t ∧ f t ≤ 3000000000)
    (hF : ∀ t, F t = max (f t) (if t ≤ l ∧ h ≤ t ∧ 0 ≤ f (t - h) then f (t - h) + ((w * 2 ^ 20 + 2 ^ (19 - p) : Nat) : Int) else -1))
    (hml : m ≤ l) (hbig : ∀ t, m < t → t ≤ 500 → F t = f t)
    (hq : ∀ g : Nat → Int64, (∀ t, t ≤ 500 → (g t).toInt = F t) → Q (sBF σ 0 g)) {x2 : Int32} (hx2 : mn x2 500 = nI m) : wx_X0_offer Q (nI p) x2 σ := by
  intro m1 em1
  rw [hx2] at em1
  subst em1
  have hin : vp_in (nI p) 20 := nI_in hp (by decide)
  refine wloop_of (fun v : Int32 × wS => ∃ (e : Nat) (g : Nat → Int64), e ≤ m ∧ v.1 = nI e ∧ v.2 = sBF σ 0 g ∧ ∀ t, t ≤ 500 → (g t).toInt = if e < t then F t else f t) (fun v => v.1.toNatClampNeg) ?_ _ ⟨m, σ.2.2.2 0, Nat.le_refl _, rfl, (sBF_self σ 0).symm, fun t ht => ?_⟩
  · rintro K ⟨x3, τ⟩ ⟨e, g, he, e3, eτ, hg⟩ kk
    dsimp only at e3 eτ kk
    subst e3; subst eτ
    dsimp only [wx_X0_offer_L8]
    refine ⟨hin, ?_⟩
    have r2 : aI (sBF σ 0 g) 2 (nI p) = nI h := (aI_nI _ 2 (by omega)).trans a2
    rw [r2]
    have hcase : (nI e < nI h → e < h) ∧ (¬ nI e < nI h → h ≤ e) := ⟨fun z => (nI_ltI (by omega) (by omega)).mp z, fun z => Nat.le_of_not_lt (fun y => z ((nI_ltI (by omega) (by omega)).mpr y))⟩
    refine ⟨fun c => ?_, fun c => ?_⟩
    · have hlt := hcase.1 c
      refine hq g (fun t ht => ?_)
      rw [hg t ht]
      split
      · rfl
      · rw [hF t, if_neg (by omega)]
        have := (hb t).1
        omega
    have hle := hcase.2 c
    rw [pk_sub hle]
    have hcl : aL (sBF σ 0 g) 0 (nI (e - h)) = g (e - h) := aL_sBF_nI σ 0 g (by omega)
    refine ⟨hin, nI_in (by omega) (by decide), fun a1' ea1 => ?_⟩
    rw [hcl] at ea1
    subst ea1
    have hv : (g (e - h)).toInt = f (e - h) := by rw [hg _ (by omega), if_neg (by omega)]
    have hve : (g e).toInt = f e := by rw [hg _ (by omega), if_neg (by omega)]
    have zm1 : (-1 : Int64).toInt = -1 := by decide
    have be := hb e
    have beh := hb (e - h)
    obtain ⟨e', rfl⟩ : ∃ e', e = e' + 1 := ⟨e - 1, by omega⟩
    refine ⟨fun c1 a2' ea2 => ?_, fun c1 => ⟨nI_in (by omega) (by decide), x_worthOf (σ := sBF σ 0 g) hp hw a1 ?_⟩⟩
    · rw [pk_m1] at ea2
      subst ea2
      refine kk _ ⟨e', g, by omega, rfl, rfl, fun t ht => ?_⟩ (by dsimp only; rw [nI_clamp (by omega), nI_clamp (by omega)]; omega)
      by_cases ct : t = e' + 1
      · subst ct
        rw [if_pos (by omega), hve, hF, if_neg (by rw [fa_eq64, hv, zm1] at c1; omega)]
        omega
      · rw [hg t ht]
        by_cases c2 : e' + 1 < t
        · rw [if_pos c2, if_pos (by omega)]
        · rw [if_neg c2, if_neg (by omega)]
    · intro m5 em5
      have pw := pw_le hp
      have vb : w * 2 ^ 20 + 2 ^ (19 - p) ≤ 104857600 := by omega
      generalize w * 2 ^ 20 + 2 ^ (19 - p) = v at *
      have hnn : 0 ≤ f (e' + 1 - h) := by rw [fa_eq64, hv, zm1] at c1; omega
      have vT : (lN v).toInt = (v : Int) := pk_lT (by omega)
      have m5T : m5.toInt = F (e' + 1) := by
        rw [em5, mxL_toInt, aL_sBF_nI σ 0 g (by omega), hve, fb_addL (by rw [hv, vT]; omega) (by rw [hv, vT]; omega), hv, vT, hF, if_pos ⟨by omega, by omega, hnn⟩]
      refine ⟨nI_in (by omega) (by decide), fun σ6 e6 a7 e7 => ?_⟩
      rw [pk_m1] at e7
      subst e7; subst e6
      rw [sB_sBF, nI_clamp (by omega)]
      refine kk _ ⟨e', _, by omega, rfl, rfl, fun t ht => ?_⟩ (by dsimp only; rw [nI_clamp (by omega), nI_clamp (by omega)]; omega)
      by_cases ct : t = e' + 1
      · subst ct
        rw [pk_uLs, if_pos (by omega)]; exact m5T
      · rw [pk_uLn ct, hg t ht]
        by_cases c2 : e' + 1 < t
        · rw [if_pos c2, if_pos (by omega)]
        · rw [if_neg c2, if_neg (by omega)]
  · rw [hf t ht]
    split
    · exact (hbig t (by assumption) ht).symm
    · rfl
