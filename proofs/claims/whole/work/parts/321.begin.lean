/-! BEGIN: the new objects -/
def QE (τ : wS) : Prop := keepE w0 τ ∧ ∀ p, p < 20 → rSet (w0.2.2.1 5) (w0.2.2.1 6) p (τ.2.2.1 7 p) (τ.2.2.1 8 p) (τ.2.2.1 9 p)
def QC (τ : wS) : Prop := (∀ k, k < 20 → τ.2.2.1 1 k = 0) ∧ (∀ k, k < 20 → τ.2.2.1 2 k = 1) ∧ ∀ k, k < 20 → τ.2.2.1 3 k = 500
theorem b_QE : we_X1_init QE w0 := by
  unfold we_X1_init
  exact x_all (fun K x τ => Iff.rfl) (fun τ ke hset => ⟨ke, hset⟩)
theorem b_fill {Q : wS → Prop} {σ : wS} {a : Nat} {v : Int32} {body : ((Int32 × wS) → Prop) → (Int32 × wS) → Prop} (hb : ∀ K x τ, body K (x, τ) ↔ ((20 ≤ x → Q τ) ∧ (¬ 20 ≤ x → vp_in x 20 ∧ ∀ σ1 : wS, σ1 = sA τ a x v → ∀ a2 : Int32, a2 = x + 1 → K (a2, σ1))))
    (hq : ∀ τ : wS, (∀ b, b ≠ a → τ.2.2.1 b = σ.2.2.1 b) → (∀ k, k < 20 → τ.2.2.1 a k = v) → Q τ) : ∃ n, wloop body n (0, σ) := by
  refine wloop_of (fun w : Int32 × wS => ∃ k : Nat, k ≤ 20 ∧ w.1 = nI k ∧ (∀ b, b ≠ a → w.2.2.2.1 b = σ.2.2.1 b) ∧ ∀ j, j < k → w.2.2.2.1 a j = v) (fun w => 20 - w.1.toNatClampNeg) ?_ _ ⟨0, by omega, rfl, fun _ _ => rfl, fun j hj => absurd hj (Nat.not_lt_zero j)⟩
  rintro K ⟨x, τ⟩ ⟨k, hk, ex, k1, k2⟩ kk
  dsimp only at ex k1 k2 kk
  subst ex
  rw [hb]
  refine ⟨fun c => ?_, fun c => ?_⟩
  · have : 20 ≤ k := (nI_leI (a := 20) (by omega) (by omega)).mp c
    exact hq τ k1 (fun j hj => k2 j (by omega))
  have hlt : k < 20 := Nat.lt_of_not_le (fun z => c ((nI_leI (a := 20) (by omega) (by omega)).mpr z))
  refine ⟨nI_in hlt (by decide), fun σ1 e1 a2 e2 => ?_⟩
  subst e1; subst e2
  refine kk _ ⟨k + 1, by omega, nI_1 k, fun b hb => ?_, fun j hj => ?_⟩ ?_
  · exact (va_up_ne _ _ hb).trans (k1 b hb)
  · dsimp only
    rw [a_sA τ a (by omega)]
    by_cases e : j = k
    · rw [if_pos ⟨rfl, e⟩]
    · rw [if_neg (fun z => e z.2)]; exact k2 j (by omega)
  · dsimp only
    rw [nI_1, nI_clamp (by omega), nI_clamp (by omega)]; omega
theorem b_QC : wc_X0_init QC w0 := by
  unfold wc_X0_init wc_J7_fill_53178_hours
  refine b_fill (a := 2) (v := 1) (fun K x τ => Iff.rfl) (fun τ h1 h2 => ?_)
  unfold wc_J7_fill_53178_lost
  refine b_fill (a := 3) (v := 500) (fun K x τ => Iff.rfl) (fun υ h3 h4 => ⟨fun k hk => ?_, fun k hk => ?_, h4⟩)
  · rw [h3 1 (by omega), h1 1 (by omega)]; rfl
  · rw [h3 2 (by omega)]; exact h2 k hk
theorem b_Rel (σE σC : wS) (hE : QE σE) (hC : QC σC) : Rel (xInit σE σC) w0 := by
  obtain ⟨ke, hset⟩ := hE
  obtain ⟨c1, c2, c3⟩ := hC
  have z5 : σE.2.2.1 5 = w0.2.2.1 5 := ke.2 5 (by omega) (by omega) (by omega)
  have z6 : σE.2.2.1 6 = w0.2.2.1 6 := ke.2 6 (by omega) (by omega) (by omega)
  have z0 : (0 : Int32).toInt = 0 := by decide
  refine ⟨rfl, 0, 0, by omega, by omega, rfl, rfl, rfl, rfl, ⟨0, by omega, rfl, rfl, fun k hk => absurd hk (Nat.not_lt_zero k)⟩, ⟨0, by omega, rfl, rfl, fun f _ _ => rfl, fun f hf => absurd hf (Nat.not_lt_zero f)⟩, ⟨fun p hp => absurd hp (Nat.not_lt_zero p), fun p hp => ?_, fun p _ hp => ?_, fun p hp => ?_⟩, ⟨fun p hp => absurd hp (Nat.not_lt_zero p), fun p _ hp => ⟨c1 p hp, c2 p hp, c3 p hp⟩⟩, ⟨0, 0, by omega, by omega, rfl, rfl, rfl, rfl, fun k hk => absurd hk (Nat.not_lt_zero k), fun k hk => absurd hk (Nat.not_lt_zero k)⟩⟩
  · show 0 ≤ (σE.2.2.1 5 p).toInt ∧ (σE.2.2.1 5 p).toInt ≤ 99 ∧ 0 ≤ (σE.2.2.1 6 p).toInt ∧ (σE.2.2.1 6 p).toInt ≤ 99
    rw [z5, z6]
    show 0 ≤ (0 : Int32).toInt ∧ (0 : Int32).toInt ≤ 99 ∧ 0 ≤ (0 : Int32).toInt ∧ (0 : Int32).toInt ≤ 99
    omega
  · show σE.2.2.1 5 p = 0 ∧ σE.2.2.1 6 p = 0
    rw [z5, z6]; exact ⟨rfl, rfl⟩
  · show rSet (σE.2.2.1 5) (σE.2.2.1 6) p (σE.2.2.1 7 p) (σE.2.2.1 8 p) (σE.2.2.1 9 p)
    rw [z5, z6]; exact hset p hp
