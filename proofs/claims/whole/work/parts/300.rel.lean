/-! REL: what ties the class's state to the reference's -/
def rO (x0 : Int32) (xa0 : Nat → Int32) (m7 : Int32) (ma10 : Nat → Int32) : Prop := ∃ O : Nat, O ≤ 20 ∧ x0 = nI O ∧ m7 = nI O ∧ ∀ k, k < O → xa0 k = ma10 k
/-- one fact: the class's kind, days, number of limits and two limits; the reference's kind, three numbers, days -/
def rFact (P Mo : Nat) (k t c n t0 h0 l0 t1 h1 l1 mk a b d mt mc : Int32) : Prop :=
  k = mk ∧ t = mt ∧ c = mc ∧ (0 ≤ t.toInt ∧ t.toInt ≤ 9999) ∧ (-1 ≤ c.toInt ∧ c.toInt ≤ 9999) ∧
  ((k = 0 ∧ n = 2 ∧ ∃ p q : Nat, p < P ∧ q < Mo ∧ a = nI p ∧ b = nI q ∧ t0 = nI (1 + p) ∧ h0 = nI (21 + 2 * q) ∧ l0 = 0 ∧ t1 = nI (22 + 2 * q) ∧ h1 = nI (1 + p) ∧ l1 = 0) ∨
   (k = 1 ∧ n = 1 ∧ ∃ p q : Nat, p < P ∧ q < P ∧ p ≠ q ∧ a = nI p ∧ b = nI q ∧ -100000 ≤ d.toInt ∧ d.toInt ≤ 100000 ∧ t0 = nI (1 + q) ∧ h0 = nI (1 + p) ∧ l0 = -d) ∨
   (((k = 2 ∧ ∃ p : Nat, p < P ∧ a = nI p ∧ t0 = nI (1 + p)) ∨ (k = 3 ∧ ∃ q : Nat, q < Mo ∧ a = nI q ∧ t0 = nI (21 + 2 * q)) ∨ (k = 4 ∧ ∃ q : Nat, q < Mo ∧ a = nI q ∧ t0 = nI (22 + 2 * q))) ∧ n = 2 ∧ 0 ≤ b.toInt ∧ b.toInt ≤ d.toInt ∧ d.toInt ≤ 100000 ∧ h0 = 0 ∧ l0 = -b ∧ t1 = 0 ∧ h1 = t0 ∧ l1 = d) ∨
   (k = 5 ∧ n = 2 ∧ ∃ p q : Nat, p < P ∧ q < P ∧ p ≠ q ∧ a = nI p ∧ b = nI q ∧ t0 = nI (1 + p) ∧ h0 = nI (1 + q) ∧ l0 = 0 ∧ t1 = nI (1 + q) ∧ h1 = nI (1 + p) ∧ l1 = 0))
def rF (P Mo : Nat) (x4 : Int32) (x10 x11 x12 x13 x14 x15 x16 : Nat → Int32) (m4 : Int32) (m0 m1 m2 m3 m4a m5 : Nat → Int32) : Prop :=
  ∃ F : Nat, F ≤ 100 ∧ x4 = nI F ∧ m4 = nI F ∧ (∀ f, F ≤ f → f < 100 → x13 f = 0) ∧
    ∀ f, f < F → rFact P Mo (x10 f) (x11 f) (x12 f) (x13 f) (x14 (2 * f)) (x15 (2 * f)) (x16 (2 * f)) (x14 (2 * f + 1)) (x15 (2 * f + 1)) (x16 (2 * f + 1)) (m0 f) (m1 f) (m2 f) (m3 f) (m4a f) (m5 f)
/-- the sets of plates that the class keeps beside the edges, of one plate -/
def rSet (l r : Nat → Int32) (p : Nat) (like lo ro : Int32) : Prop :=
  ∀ q, bt like q = decide (q < 20 ∧ (q = p ∨ (l p ≠ 0 ∧ l q = l p))) ∧ bt lo q = decide (q < 20 ∧ l p ≠ 0 ∧ r q = l p) ∧ bt ro q = decide (q < 20 ∧ r p ≠ 0 ∧ l q = r p)
def rE (P : Nat) (x5 x6 x7 x8 x9 : Nat → Int32) (m8 m9 : Nat → Int32) : Prop :=
  (∀ p, p < P → x5 p = m8 p ∧ x6 p = m9 p) ∧ (∀ p, p < 20 → 0 ≤ (x5 p).toInt ∧ (x5 p).toInt ≤ 99 ∧ 0 ≤ (x6 p).toInt ∧ (x6 p).toInt ≤ 99) ∧ (∀ p, P ≤ p → p < 20 → x5 p = 0 ∧ x6 p = 0) ∧ ∀ p, p < 20 → rSet x5 x6 p (x7 p) (x8 p) (x9 p)
def rC (P : Nat) (x1 x2 x3 : Nat → Int32) (m14 m15 m16 : Nat → Int32) : Prop :=
  (∀ p, p < P → x1 p = m14 p ∧ x2 p = m15 p ∧ x3 p = m16 p ∧ 0 ≤ (x1 p).toInt ∧ (x1 p).toInt ≤ 99 ∧ 1 ≤ (x2 p).toInt ∧ (x2 p).toInt ≤ 50 ∧ 1 ≤ (x3 p).toInt ∧ (x3 p).toInt ≤ 500) ∧ ∀ p, P ≤ p → p < 20 → x1 p = 0 ∧ x2 p = 1 ∧ x3 p = 500
def rR (P : Nat) (x5 x6 : Int32) (x17 x18 x19 x20 x21 : Nat → Int32) (m9 m10 : Int32) (m21 m22 m23 m24 m25 : Nat → Int32) : Prop :=
  ∃ Lw De : Nat, Lw ≤ 10 ∧ De ≤ 60 ∧ x5 = nI Lw ∧ m9 = nI Lw ∧ x6 = nI De ∧ m10 = nI De ∧ (∀ k, k < Lw → x17 k = m21 k ∧ x18 k = m22 k) ∧ (∀ k, k < De → x19 k = m23 k ∧ x20 k = m24 k ∧ x21 k = m25 k)
def Rel0 (P Mo : Nat) (σx σm : wS) : Prop := P ≤ 20 ∧ Mo ≤ 16 ∧ σx.1 1 = nI P ∧ σm.1 2 = nI P ∧ σx.1 2 = nI Mo ∧ σm.1 3 = nI Mo ∧
  rO (σx.1 0) (σx.2.2.1 0) (σm.1 7) (σm.2.2.1 10) ∧
  rF P Mo (σx.1 4) (σx.2.2.1 10) (σx.2.2.1 11) (σx.2.2.1 12) (σx.2.2.1 13) (σx.2.2.1 14) (σx.2.2.1 15) (σx.2.2.1 16) (σm.1 4) (σm.2.2.1 0) (σm.2.2.1 1) (σm.2.2.1 2) (σm.2.2.1 3) (σm.2.2.1 4) (σm.2.2.1 5) ∧
  rE P (σx.2.2.1 5) (σx.2.2.1 6) (σx.2.2.1 7) (σx.2.2.1 8) (σx.2.2.1 9) (σm.2.2.1 8) (σm.2.2.1 9) ∧
  rC P (σx.2.2.1 1) (σx.2.2.1 2) (σx.2.2.1 3) (σm.2.2.1 14) (σm.2.2.1 15) (σm.2.2.1 16) ∧
  rR P (σx.1 5) (σx.1 6) (σx.2.2.1 17) (σx.2.2.1 18) (σx.2.2.1 19) (σx.2.2.1 20) (σx.2.2.1 21) (σm.1 9) (σm.1 10) (σm.2.2.1 21) (σm.2.2.1 22) (σm.2.2.1 23) (σm.2.2.1 24) (σm.2.2.1 25)
def Rel (σx σm : wS) : Prop := σx.1 3 = σm.1 0 ∧ ∃ P Mo : Nat, Rel0 P Mo σx σm
/-- what no look-up changes -/
def keepX (σ σ1 : wS) : Prop := (∀ k, k ≠ 3 → k ≠ 7 → σ1.1 k = σ.1 k) ∧ ∀ a, a ≠ 4 → (a < 22 ∨ 26 < a) → σ1.2.2.1 a = σ.2.2.1 a
def keepM (σ σ1 : wS) : Prop := (∀ k, k ≠ 0 → k ≠ 1 → k ≠ 5 → k ≠ 6 → k ≠ 8 → σ1.1 k = σ.1 k) ∧ ∀ a, (a < 6 ∨ 7 < a) → (a < 11 ∨ 13 < a) → (a < 17 ∨ 20 < a) → σ1.2.2.1 a = σ.2.2.1 a
theorem keepX.rf (σ : wS) : keepX σ σ := ⟨fun _ _ _ => rfl, fun _ _ _ => rfl⟩
theorem keepM.rf (σ : wS) : keepM σ σ := ⟨fun _ _ _ _ _ _ => rfl, fun _ _ _ _ => rfl⟩
theorem keepX.trans {a b c : wS} (h : keepX a b) (h2 : keepX b c) : keepX a c := ⟨fun k k1 k2 => (h2.1 k k1 k2).trans (h.1 k k1 k2), fun k k1 k2 => (h2.2 k k1 k2).trans (h.2 k k1 k2)⟩
theorem keepM.trans {a b c : wS} (h : keepM a b) (h2 : keepM b c) : keepM a c := ⟨fun k k1 k2 k3 k4 k5 => (h2.1 k k1 k2 k3 k4 k5).trans (h.1 k k1 k2 k3 k4 k5), fun k k1 k2 k3 => (h2.2 k k1 k2 k3).trans (h.2 k k1 k2 k3)⟩
theorem keepX.st (σ : wS) (v : Int32) : keepX σ (sI σ 3 v) := ⟨fun k h _ => va_up_ne _ _ h, fun _ _ _ => rfl⟩
theorem keepX.st7 (σ : wS) (v : Int32) : keepX σ (sI σ 7 v) := ⟨fun k _ h => va_up_ne _ _ h, fun _ _ _ => rfl⟩
theorem keepX.arr (σ : wS) (a : Nat) (f : Nat → Int32) (h : a = 4 ∨ (22 ≤ a ∧ a ≤ 26)) : keepX σ (sAF σ a f) := ⟨fun _ _ _ => rfl, fun k h1 h2 => va_up_ne _ _ (by omega)⟩
theorem keepX.lng (σ : wS) (k : Nat) (v : Int64) : keepX σ (sL σ k v) := ⟨fun _ _ _ => rfl, fun _ _ _ => rfl⟩
theorem keepX.larr (σ : wS) (k : Nat) (f : Nat → Int64) : keepX σ (sBF σ k f) := ⟨fun _ _ _ => rfl, fun _ _ _ => rfl⟩
theorem keepM.int (σ : wS) (k : Nat) (v : Int32) (h : k = 0 ∨ k = 1 ∨ k = 5 ∨ k = 6 ∨ k = 8) : keepM σ (sI σ k v) := ⟨fun j h0 h1 h2 h3 h4 => va_up_ne _ _ (by omega), fun _ _ _ _ => rfl⟩
theorem keepM.arr (σ : wS) (a : Nat) (f : Nat → Int32) (h : a = 6 ∨ a = 7 ∨ (11 ≤ a ∧ a ≤ 13) ∨ (17 ≤ a ∧ a ≤ 20)) : keepM σ (sAF σ a f) := ⟨fun _ _ _ _ _ _ => rfl, fun k h1 h2 h3 => va_up_ne _ _ (by omega)⟩
theorem keepM.larr (σ : wS) (k : Nat) (f : Nat → Int64) : keepM σ (sBF σ k f) := ⟨fun _ _ _ _ _ _ => rfl, fun _ _ _ _ => rfl⟩
theorem rel0_keep {P Mo : Nat} {σx σm σx1 σm1 : wS} (h : Rel0 P Mo σx σm) (hx : keepX σx σx1) (hm : keepM σm σm1) : Rel0 P Mo σx1 σm1 := by
  obtain ⟨hx1, hx2⟩ := hx
  obtain ⟨hm1, hm2⟩ := hm
  unfold Rel0
  rw [hx1 0 (by omega) (by omega), hx1 1 (by omega) (by omega), hx1 2 (by omega) (by omega), hx1 4 (by omega) (by omega), hx1 5 (by omega) (by omega), hx1 6 (by omega) (by omega)]
  rw [hm1 2 (by omega) (by omega) (by omega) (by omega) (by omega), hm1 3 (by omega) (by omega) (by omega) (by omega) (by omega), hm1 4 (by omega) (by omega) (by omega) (by omega) (by omega), hm1 7 (by omega) (by omega) (by omega) (by omega) (by omega), hm1 9 (by omega) (by omega) (by omega) (by omega) (by omega), hm1 10 (by omega) (by omega) (by omega) (by omega) (by omega)]
  rw [hx2 0 (by omega) (by omega), hx2 1 (by omega) (by omega), hx2 2 (by omega) (by omega), hx2 3 (by omega) (by omega), hx2 5 (by omega) (by omega), hx2 6 (by omega) (by omega), hx2 7 (by omega) (by omega), hx2 8 (by omega) (by omega), hx2 9 (by omega) (by omega), hx2 10 (by omega) (by omega), hx2 11 (by omega) (by omega), hx2 12 (by omega) (by omega), hx2 13 (by omega) (by omega), hx2 14 (by omega) (by omega), hx2 15 (by omega) (by omega), hx2 16 (by omega) (by omega), hx2 17 (by omega) (by omega), hx2 18 (by omega) (by omega), hx2 19 (by omega) (by omega), hx2 20 (by omega) (by omega), hx2 21 (by omega) (by omega)]
  rw [hm2 0 (by omega) (by omega) (by omega), hm2 1 (by omega) (by omega) (by omega), hm2 2 (by omega) (by omega) (by omega), hm2 3 (by omega) (by omega) (by omega), hm2 4 (by omega) (by omega) (by omega), hm2 5 (by omega) (by omega) (by omega), hm2 8 (by omega) (by omega) (by omega), hm2 9 (by omega) (by omega) (by omega), hm2 10 (by omega) (by omega) (by omega), hm2 14 (by omega) (by omega) (by omega), hm2 15 (by omega) (by omega) (by omega), hm2 16 (by omega) (by omega) (by omega), hm2 21 (by omega) (by omega) (by omega), hm2 22 (by omega) (by omega) (by omega), hm2 23 (by omega) (by omega) (by omega), hm2 24 (by omega) (by omega) (by omega), hm2 25 (by omega) (by omega) (by omega)]
  exact h
theorem rel_keep {σx σm σx1 σm1 : wS} (h : Rel σx σm) (hx : keepX σx σx1) (hm : keepM σm σm1) (hs : σx1.1 3 = σm1.1 0) : Rel σx1 σm1 := by
  obtain ⟨-, P, Mo, h0⟩ := h
  exact ⟨hs, P, Mo, rel0_keep h0 hx hm⟩
theorem keepM.ini (σ : wS) : keepM σ (sI (sI σ 1 0) 0 0) := (keepM.int σ 1 0 (by omega)).trans (keepM.int _ 0 0 (by omega))
/-- both refuse -/
theorem rel_no {σx σm : wS} (h : Rel σx σm) (v : Int32) : Rel (sI σx 3 v) (sI (sI (sI σm 1 0) 0 0) 0 v) := rel_keep h (keepX.st σx v) ((keepM.ini σm).trans (keepM.int _ 0 v (by omega))) rfl
/-- both are fine, and nothing else has changed -/
theorem rel_ok {σx σm : wS} (h : Rel σx σm) : Rel (sI σx 3 0) (sI (sI σm 1 0) 0 0) := rel_keep h (keepX.st σx 0) (keepM.ini σm) rfl
theorem r_status : rT_status Rel := by
  intro σx σm h
  refine fun σ1 e1 => ⟨?_, ?_⟩
  · subst e1; exact h.1
  · subst e1; exact rel_keep h (keepX.rf σx) (keepM.int σm 1 0 (by omega)) h.1
