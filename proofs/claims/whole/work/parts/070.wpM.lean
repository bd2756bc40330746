def wm_X6_status (Q : Int32 → wS → Prop) (σ : wS) : Prop :=
  ∀ σ1 : wS, σ1 = sI σ 1 0 → Q (σ1.1 0) σ1
def wm_X6_refuse (Q : Int32 → wS → Prop) (x1 : Int32) (σ : wS) : Prop :=
  ∀ σ1 : wS, σ1 = sI σ 0 x1 → Q (-1) σ1
def wm_X6_plate (Q : Int32 → wS → Prop) (σ : wS) : Prop :=
  ∀ σ1 : wS, σ1 = sI σ 1 0 → ∀ σ2 : wS, σ2 = sI σ1 0 0 → ((¬ (σ2.1 2) = 20 → vp_in (σ2.1 2) 20 ∧ ∀ σ3 : wS, σ3 = sA σ2 8 (σ2.1 2) 0 → vp_in (σ3.1 2) 20 ∧ ∀ σ4 : wS, σ4 = sA σ3 9 (σ3.1 2) 0 → vp_in (σ4.1 2) 20 ∧ ∀ σ5 : wS, σ5 = sA σ4 14 (σ4.1 2) 0 → vp_in (σ5.1 2) 20 ∧ ∀ σ6 : wS, σ6 = sA σ5 15 (σ5.1 2) 1 → vp_in (σ6.1 2) 20 ∧ ∀ σ7 : wS, σ7 = sA σ6 16 (σ6.1 2) 500 → ∀ σ8 : wS, σ8 = sI σ7 2 ((σ7.1 2) + 1) → Q ((σ8.1 2) - 1) σ8) ∧ ((σ2.1 2) = 20 → wm_X6_refuse (fun r9 σ10 => Q r9 σ10) 3 σ2))
def wm_X6_motif (Q : Int32 → wS → Prop) (σ : wS) : Prop :=
  ∀ σ1 : wS, σ1 = sI σ 1 0 → ∀ σ2 : wS, σ2 = sI σ1 0 0 → ((¬ (σ2.1 3) = 16 → ∀ σ3 : wS, σ3 = sI σ2 3 ((σ2.1 3) + 1) → Q ((σ3.1 3) - 1) σ3) ∧ ((σ2.1 3) = 16 → wm_X6_refuse (fun r4 σ5 => Q r4 σ5) 3 σ2))
def wm_X6_isPlate (Q : Int32 → Prop) (x1 : Int32) (σ : wS) : Prop :=
  ((x1 < 0 → Q 0) ∧ (¬ x1 < 0 → (((σ.1 2) ≤ x1 → Q 0) ∧ (¬ (σ.1 2) ≤ x1 → Q 1))))
def wm_X6_isMotif (Q : Int32 → Prop) (x1 : Int32) (σ : wS) : Prop :=
  ((x1 < 0 → Q 0) ∧ (¬ x1 < 0 → (((σ.1 3) ≤ x1 → Q 0) ∧ (¬ (σ.1 3) ≤ x1 → Q 1))))
def wm_X6_isDay (Q : Int32 → Prop) (x0 : Int32) : Prop :=
  ((x0 < 0 → Q 0) ∧ (¬ x0 < 0 → ((9999 < x0 → Q 0) ∧ (¬ 9999 < x0 → Q 1))))
def wm_X6_adds (Q : Int32 → wS → Prop) (x1 : Int32) (x2 : Int32) (x3 : Int32) (x4 : Int32) (x5 : Int32) (σ : wS) : Prop :=
  ((¬ (σ.1 4) = 100 → vp_in (σ.1 4) 100 ∧ ∀ σ1 : wS, σ1 = sA σ 0 (σ.1 4) x1 → vp_in (σ1.1 4) 100 ∧ ∀ σ2 : wS, σ2 = sA σ1 1 (σ1.1 4) x2 → vp_in (σ2.1 4) 100 ∧ ∀ σ3 : wS, σ3 = sA σ2 2 (σ2.1 4) x3 → vp_in (σ3.1 4) 100 ∧ ∀ σ4 : wS, σ4 = sA σ3 3 (σ3.1 4) x4 → vp_in (σ4.1 4) 100 ∧ ∀ σ5 : wS, σ5 = sA σ4 4 (σ4.1 4) x5 → vp_in (σ5.1 4) 100 ∧ ∀ σ6 : wS, σ6 = sA σ5 5 (σ5.1 4) (-1) → ∀ σ7 : wS, σ7 = sI σ6 4 ((σ6.1 4) + 1) → Q ((σ7.1 4) - 1) σ7) ∧ ((σ.1 4) = 100 → wm_X6_refuse (fun r8 σ9 => Q r8 σ9) 3 σ))
def wm_X6_shows (Q : Int32 → wS → Prop) (x1 : Int32) (x2 : Int32) (x3 : Int32) (σ : wS) : Prop :=
  ∀ σ1 : wS, σ1 = sI σ 1 0 → ∀ σ2 : wS, σ2 = sI σ1 0 0 → wm_X6_isPlate (fun r3 => ((r3 = 0 → wm_X6_refuse (fun r5 σ6 => Q r5 σ6) 1 σ2) ∧ (¬ r3 = 0 → wm_X6_isMotif (fun r7 => ((¬ r7 = 0 → wm_X6_isDay (fun r9 => ((r9 = 0 → wm_X6_refuse (fun r11 σ12 => Q r11 σ12) 2 σ2) ∧ (¬ r9 = 0 → wm_X6_adds (fun r13 σ14 => Q r13 σ14) 0 x1 x2 0 x3 σ2))) x3) ∧ (r7 = 0 → wm_X6_refuse (fun r15 σ16 => Q r15 σ16) 1 σ2))) x2 σ2))) x1 σ2
def wm_X6_ahead (Q : Int32 → wS → Prop) (x1 : Int32) (x2 : Int32) (x3 : Int32) (x4 : Int32) (σ : wS) : Prop :=
  ∀ σ1 : wS, σ1 = sI σ 1 0 → ∀ σ2 : wS, σ2 = sI σ1 0 0 → wm_X6_isPlate (fun r3 => ((r3 = 0 → wm_X6_refuse (fun r5 σ6 => Q r5 σ6) 1 σ2) ∧ (¬ r3 = 0 → wm_X6_isPlate (fun r7 => ((r7 = 0 → wm_X6_refuse (fun r9 σ10 => Q r9 σ10) 1 σ2) ∧ (¬ r7 = 0 → ((¬ x1 = x2 → wm_X6_isDay (fun r11 => ((r11 = 0 → wm_X6_refuse (fun r13 σ14 => Q r13 σ14) 2 σ2) ∧ (¬ r11 = 0 → ((x3 < (-100000) → wm_X6_refuse (fun r15 σ16 => Q r15 σ16) 2 σ2) ∧ (¬ x3 < (-100000) → ((100000 < x3 → wm_X6_refuse (fun r17 σ18 => Q r17 σ18) 2 σ2) ∧ (¬ 100000 < x3 → wm_X6_adds (fun r19 σ20 => Q r19 σ20) 1 x1 x2 x3 x4 σ2))))))) x4) ∧ (x1 = x2 → wm_X6_refuse (fun r21 σ22 => Q r21 σ22) 1 σ2))))) x2 σ2))) x1 σ2
def wm_X6_same (Q : Int32 → wS → Prop) (x1 : Int32) (x2 : Int32) (x3 : Int32) (σ : wS) : Prop :=
  ∀ σ1 : wS, σ1 = sI σ 1 0 → ∀ σ2 : wS, σ2 = sI σ1 0 0 → wm_X6_isPlate (fun r3 => ((r3 = 0 → wm_X6_refuse (fun r5 σ6 => Q r5 σ6) 1 σ2) ∧ (¬ r3 = 0 → wm_X6_isPlate (fun r7 => ((r7 = 0 → wm_X6_refuse (fun r9 σ10 => Q r9 σ10) 1 σ2) ∧ (¬ r7 = 0 → ((¬ x1 = x2 → wm_X6_isDay (fun r11 => ((r11 = 0 → wm_X6_refuse (fun r13 σ14 => Q r13 σ14) 2 σ2) ∧ (¬ r11 = 0 → wm_X6_adds (fun r15 σ16 => Q r15 σ16) 5 x1 x2 0 x3 σ2))) x3) ∧ (x1 = x2 → wm_X6_refuse (fun r17 σ18 => Q r17 σ18) 1 σ2))))) x2 σ2))) x1 σ2
def wm_X6_isTime (Q : Int32 → Prop) (x0 : Int32) : Prop :=
  ((x0 < 0 → Q 0) ∧ (¬ x0 < 0 → ((100000 < x0 → Q 0) ∧ (¬ 100000 < x0 → Q 1))))
def wm_X6_taken (Q : Int32 → wS → Prop) (x1 : Int32) (x2 : Int32) (x3 : Int32) (x4 : Int32) (σ : wS) : Prop :=
  ∀ σ1 : wS, σ1 = sI σ 1 0 → ∀ σ2 : wS, σ2 = sI σ1 0 0 → wm_X6_isPlate (fun r3 => ((¬ r3 = 0 → wm_X6_isTime (fun r5 => ((r5 = 0 → wm_X6_refuse (fun r7 σ8 => Q r7 σ8) 2 σ2) ∧ (¬ r5 = 0 → wm_X6_isTime (fun r9 => ((r9 = 0 → wm_X6_refuse (fun r11 σ12 => Q r11 σ12) 2 σ2) ∧ (¬ r9 = 0 → ((x3 < x2 → wm_X6_refuse (fun r13 σ14 => Q r13 σ14) 2 σ2) ∧ (¬ x3 < x2 → wm_X6_isDay (fun r15 => ((r15 = 0 → wm_X6_refuse (fun r17 σ18 => Q r17 σ18) 2 σ2) ∧ (¬ r15 = 0 → wm_X6_adds (fun r19 σ20 => Q r19 σ20) 2 x1 x2 x3 x4 σ2))) x4))))) x3))) x2) ∧ (r3 = 0 → wm_X6_refuse (fun r21 σ22 => Q r21 σ22) 1 σ2))) x1 σ2
def wm_X6_stood_J63 (Q : Int32 → wS → Prop) (x1 : Int32) (x3 : Int32) (x4 : Int32) (x5 : Int32) (s1 : Int32) (σ : wS) : Prop :=
  wm_X6_adds (fun r1 σ2 => Q r1 σ2) s1 x1 x3 x4 x5 σ
def wm_X6_stood (Q : Int32 → wS → Prop) (x1 : Int32) (x2 : Int32) (x3 : Int32) (x4 : Int32) (x5 : Int32) (σ : wS) : Prop :=
  ∀ σ1 : wS, σ1 = sI σ 1 0 → ∀ σ2 : wS, σ2 = sI σ1 0 0 → wm_X6_isMotif (fun r3 => ((¬ r3 = 0 → wm_X6_isTime (fun r5 => ((r5 = 0 → wm_X6_refuse (fun r7 σ8 => Q r7 σ8) 2 σ2) ∧ (¬ r5 = 0 → wm_X6_isTime (fun r9 => ((r9 = 0 → wm_X6_refuse (fun r11 σ12 => Q r11 σ12) 2 σ2) ∧ (¬ r9 = 0 → ((x4 < x3 → wm_X6_refuse (fun r13 σ14 => Q r13 σ14) 2 σ2) ∧ (¬ x4 < x3 → wm_X6_isDay (fun r15 => ((r15 = 0 → wm_X6_refuse (fun r17 σ18 => Q r17 σ18) 2 σ2) ∧ (¬ r15 = 0 → ((x2 = 0 → wm_X6_stood_J63 Q x1 x3 x4 x5 3 σ2) ∧ (¬ x2 = 0 → wm_X6_stood_J63 Q x1 x3 x4 x5 4 σ2))))) x5))))) x4))) x3) ∧ (r3 = 0 → wm_X6_refuse (fun r19 σ20 => Q r19 σ20) 1 σ2))) x1 σ2
def wm_X6_isFact (Q : Int32 → Prop) (x1 : Int32) (σ : wS) : Prop :=
  ((x1 < 0 → Q 0) ∧ (¬ x1 < 0 → (((σ.1 4) ≤ x1 → Q 0) ∧ (¬ (σ.1 4) ≤ x1 → Q 1))))
def wm_X6_no (Q : Int32 → wS → Prop) (x1 : Int32) (σ : wS) : Prop :=
  ∀ σ1 : wS, σ1 = sI σ 0 x1 → Q 0 σ1
def wm_X6_cross (Q : Int32 → wS → Prop) (x1 : Int32) (x2 : Int32) (σ : wS) : Prop :=
  ∀ σ1 : wS, σ1 = sI σ 1 0 → ∀ σ2 : wS, σ2 = sI σ1 0 0 → wm_X6_isFact (fun r3 => ((¬ r3 = 0 → wm_X6_isDay (fun r5 => ((¬ r5 = 0 → vp_in x1 100 ∧ (((aI σ2 5 x1) < 0 → vp_in x1 100 ∧ ∀ σ7 : wS, σ7 = sA σ2 5 x1 x2 → Q 1 σ7) ∧ (¬ (aI σ2 5 x1) < 0 → wm_X6_no (fun r8 σ9 => isB r8 ∧ Q r8 σ9) 4 σ2))) ∧ (r5 = 0 → wm_X6_no (fun r10 σ11 => isB r10 ∧ Q r10 σ11) 2 σ2))) x2) ∧ (r3 = 0 → wm_X6_no (fun r12 σ13 => isB r12 ∧ Q r12 σ13) 1 σ2))) x1 σ2
def wm_X6_fact (Q : Int32 → wS → Prop) (x1 : Int32) (x2 : Int32) (σ : wS) : Prop :=
  ∀ σ1 : wS, σ1 = sI σ 1 0 → ∀ σ2 : wS, σ2 = sI σ1 0 0 → wm_X6_isFact (fun r3 => ((¬ r3 = 0 → (x2 = 0 → vp_in x1 100 ∧ Q (aI σ2 0 x1) σ2) ∧ (x2 = 1 → vp_in x1 100 ∧ Q (aI σ2 4 x1) σ2) ∧ (x2 = 2 → vp_in x1 100 ∧ Q (aI σ2 5 x1) σ2) ∧ (x2 = 3 → vp_in x1 100 ∧ ((¬ (aI σ2 0 x1) = 1 → Q 2 σ2) ∧ ((aI σ2 0 x1) = 1 → Q 1 σ2))) ∧ (¬ x2 = 0 → ¬ x2 = 1 → ¬ x2 = 2 → ¬ x2 = 3 → wm_X6_refuse (fun r5 σ6 => Q r5 σ6) 2 σ2)) ∧ (r3 = 0 → wm_X6_refuse (fun r7 σ8 => Q r7 σ8) 1 σ2))) x1 σ2
def wm_X6_placeOf (Q : Int32 → Prop) (x0 : Int32) : Prop :=
  Q (1 + x0)
def wm_X6_way (Q : wS → Prop) (x1 : Int32) (x2 : Int32) (x3 : Int64) (σ : wS) : Prop :=
  vp_in (σ.1 5) 400 ∧ ∀ σ1 : wS, σ1 = sA σ 6 (σ.1 5) x1 → vp_in (σ1.1 5) 400 ∧ ∀ σ2 : wS, σ2 = sA σ1 7 (σ1.1 5) x2 → vp_in (σ2.1 5) 400 ∧ ∀ σ3 : wS, σ3 = sB σ2 0 (σ2.1 5) x3 → ∀ σ4 : wS, σ4 = sI σ3 5 ((σ3.1 5) + 1) → Q σ4
def wm_X6_bound (Q : wS → Prop) (x1 : Int32) (σ : wS) : Prop :=
  wm_X6_way (fun σ1 => wm_X6_way (fun σ2 => Q σ2) x1 0 (-100000) σ1) 0 x1 0 σ
def wm_X6_begins (Q : Int32 → Prop) (x0 : Int32) : Prop :=
  Q (21 + (2 * x0))
def wm_X6_endsAt (Q : Int32 → Prop) (x0 : Int32) : Prop :=
  Q (22 + (2 * x0))
def wm_X6_isKnown (Q : Int32 → Prop) (x1 : Int32) (x2 : Int32) (σ : wS) : Prop :=
  vp_in x1 100 ∧ ((x2 < (aI σ 4 x1) → Q 0) ∧ (¬ x2 < (aI σ 4 x1) → vp_in x1 100 ∧ (((aI σ 5 x1) < 0 → Q 1) ∧ (¬ (aI σ 5 x1) < 0 → vp_in x1 100 ∧ (((aI σ 5 x1) ≤ x2 → Q 0) ∧ (¬ (aI σ 5 x1) ≤ x2 → Q 1))))))
def wm_X6_within (Q : wS → Prop) (x1 : Int32) (x2 : Int32) (x3 : Int32) (σ : wS) : Prop :=
  wm_X6_way (fun σ1 => wm_X6_way (fun σ2 => Q σ2) x1 0 (Int32.toInt64 (-x3)) σ1) 0 x1 (Int32.toInt64 x2) σ
def wm_X6_net_L84 (Q : wS → Prop) (x1 : Int32) (x2 : Int32) (K84 : (Int32 × wS) → Prop) (v : Int32 × wS) : Prop :=
  match v with
  | (x3, σ) => (((σ.1 4) ≤ x3 → Q σ) ∧ (¬ (σ.1 4) ≤ x3 → wm_X6_isKnown (fun r1 => ((r1 = 0 → ∀ a3 : Int32, a3 = x3 + 1 → K84 (a3, σ)) ∧ (¬ r1 = 0 → ((¬ x3 = x2 → vp_in x3 100 ∧ ∀ a4 : Int32, a4 = (aI σ 1 x3) → vp_in x3 100 ∧ ∀ a5 : Int32, a5 = (aI σ 2 x3) → vp_in x3 100 ∧ ((aI σ 0 x3) = 0 → wm_X6_begins (fun r6 => wm_X6_placeOf (fun r8 => wm_X6_way (fun σ10 => wm_X6_placeOf (fun r11 => wm_X6_endsAt (fun r13 => wm_X6_way (fun σ15 => ∀ a16 : Int32, a16 = x3 + 1 → K84 (a16, σ15)) r11 r13 0 σ10) a5) a4) r6 r8 0 σ) a4) a5) ∧ ((aI σ 0 x3) = 1 → wm_X6_placeOf (fun r17 => wm_X6_placeOf (fun r19 => vp_in x3 100 ∧ wm_X6_way (fun σ21 => ∀ a22 : Int32, a22 = x3 + 1 → K84 (a22, σ21)) r17 r19 (Int32.toInt64 (aI σ 3 x3)) σ) a5) a4) ∧ ((aI σ 0 x3) = 2 → wm_X6_placeOf (fun r23 => vp_in x3 100 ∧ wm_X6_within (fun σ25 => ∀ a26 : Int32, a26 = x3 + 1 → K84 (a26, σ25)) r23 a5 (aI σ 3 x3) σ) a4) ∧ ((aI σ 0 x3) = 3 → wm_X6_begins (fun r27 => vp_in x3 100 ∧ wm_X6_within (fun σ29 => ∀ a30 : Int32, a30 = x3 + 1 → K84 (a30, σ29)) r27 a5 (aI σ 3 x3) σ) a4) ∧ ((aI σ 0 x3) = 4 → wm_X6_endsAt (fun r31 => vp_in x3 100 ∧ wm_X6_within (fun σ33 => ∀ a34 : Int32, a34 = x3 + 1 → K84 (a34, σ33)) r31 a5 (aI σ 3 x3) σ) a4) ∧ (¬ (aI σ 0 x3) = 0 → ¬ (aI σ 0 x3) = 1 → ¬ (aI σ 0 x3) = 2 → ¬ (aI σ 0 x3) = 3 → ¬ (aI σ 0 x3) = 4 → wm_X6_placeOf (fun r35 => wm_X6_placeOf (fun r37 => wm_X6_way (fun σ39 => wm_X6_placeOf (fun r40 => wm_X6_placeOf (fun r42 => wm_X6_way (fun σ44 => ∀ a45 : Int32, a45 = x3 + 1 → K84 (a45, σ44)) r40 r42 0 σ39) a4) a5) r35 r37 0 σ) a5) a4)) ∧ (x3 = x2 → ∀ a46 : Int32, a46 = x3 + 1 → K84 (a46, σ)))))) x3 x1 σ))
def wm_X6_net_L31 (Q : wS → Prop) (x1 : Int32) (x2 : Int32) (K31 : (Int32 × wS) → Prop) (v : Int32 × wS) : Prop :=
  match v with
  | (x3, σ) => (((σ.1 3) ≤ x3 → ∀ σ1 : wS, σ1 = sI σ 6 (σ.1 5) → ∃ n, wloop (wm_X6_net_L84 Q x1 x2) n (0, σ1)) ∧ (¬ (σ.1 3) ≤ x3 → wm_X6_begins (fun r2 => wm_X6_bound (fun σ4 => wm_X6_endsAt (fun r5 => wm_X6_bound (fun σ7 => wm_X6_begins (fun r8 => wm_X6_endsAt (fun r10 => wm_X6_way (fun σ12 => ∀ a13 : Int32, a13 = x3 + 1 → K31 (a13, σ12)) r8 r10 0 σ7) x3) x3) r5 σ4) x3) r2 σ) x3))
def wm_X6_net_L7 (Q : wS → Prop) (x1 : Int32) (x2 : Int32) (K7 : (Int32 × wS) → Prop) (v : Int32 × wS) : Prop :=
  match v with
  | (x3, σ) => (((σ.1 2) ≤ x3 → ∃ n, wloop (wm_X6_net_L31 Q x1 x2) n (0, σ)) ∧ (¬ (σ.1 2) ≤ x3 → wm_X6_placeOf (fun r1 => wm_X6_bound (fun σ3 => ∀ a4 : Int32, a4 = x3 + 1 → K7 (a4, σ3)) r1 σ) x3))
def wm_X6_net (Q : wS → Prop) (x1 : Int32) (x2 : Int32) (σ : wS) : Prop :=
  ∀ σ1 : wS, σ1 = sI σ 5 0 → ∃ n, wloop (wm_X6_net_L7 Q x1 x2) n (0, σ1)
def wm_X6_goes_J164 (Q : Int32 → wS → Prop) (x2 : Int32) (σ : wS) : Prop :=
  ((¬ x2 = 0 → Q 0 σ) ∧ (x2 = 0 → Q 1 σ))
def wm_X6_goes_L51 (Q : Int32 → wS → Prop) (K36 : (Int32 × Int32 × wS) → Prop) (x3 : Int32) (K51 : (Int32 × Int32 × wS) → Prop) (v : Int32 × Int32 × wS) : Prop :=
  match v with
  | (x2, x4, σ) => (((σ.1 5) ≤ x4 → ∀ a1 : Int32, a1 = x3 + 1 → K36 (x2, a1, σ)) ∧ (¬ (σ.1 5) ≤ x4 → vp_in x4 400 ∧ vp_in (aI σ 6 x4) 53 ∧ (((aL σ 1 (aI σ 6 x4)) = (-4000000000000) → ∀ a2 : Int32, a2 = x4 + 1 → K51 (x2, a2, σ)) ∧ (¬ (aL σ 1 (aI σ 6 x4)) = (-4000000000000) → vp_in x4 400 ∧ vp_in (aI σ 6 x4) 53 ∧ vp_in x4 400 ∧ vp_in x4 400 ∧ vp_in (aI σ 7 x4) 53 ∧ (((aL σ 1 (aI σ 7 x4)) < ((aL σ 1 (aI σ 6 x4)) + (aL σ 0 x4)) → vp_in x4 400 ∧ vp_in x4 400 ∧ vp_in (aI σ 6 x4) 53 ∧ vp_in x4 400 ∧ vp_in (aI σ 7 x4) 53 ∧ ∀ σ3 : wS, σ3 = sB σ 1 (aI σ 7 x4) ((aL σ 1 (aI σ 6 x4)) + (aL σ 0 x4)) → ∀ a4 : Int32, a4 = x4 + 1 → K51 (1, a4, σ3)) ∧ (¬ (aL σ 1 (aI σ 7 x4)) < ((aL σ 1 (aI σ 6 x4)) + (aL σ 0 x4)) → ∀ a5 : Int32, a5 = x4 + 1 → K51 (x2, a5, σ)))))))
def wm_X6_goes_L36 (Q : Int32 → wS → Prop) (K36 : (Int32 × Int32 × wS) → Prop) (v : Int32 × Int32 × wS) : Prop :=
  match v with
  | (x2, x3, σ) => ((53 < x3 → wm_X6_goes_J164 Q x2 σ) ∧ (¬ 53 < x3 → ((x2 = 0 → wm_X6_goes_J164 Q x2 σ) ∧ (¬ x2 = 0 → ∃ n, wloop (wm_X6_goes_L51 Q K36 x3) n (0, 0, σ)))))
def wm_X6_goes_L2 (Q : Int32 → wS → Prop) (x1 : Int32) (K2 : (Int32 × wS) → Prop) (v : Int32 × wS) : Prop :=
  match v with
  | (x2, σ) => ((53 ≤ x2 → ∃ n, wloop (wm_X6_goes_L36 Q) n (1, 0, σ)) ∧ (¬ 53 ≤ x2 → ((¬ x2 = x1 → vp_in x2 53 ∧ ∀ σ1 : wS, σ1 = sB σ 1 x2 (-4000000000000) → ∀ a2 : Int32, a2 = x2 + 1 → K2 (a2, σ1)) ∧ (x2 = x1 → vp_in x2 53 ∧ ∀ σ3 : wS, σ3 = sB σ 1 x2 0 → ∀ a4 : Int32, a4 = x2 + 1 → K2 (a4, σ3)))))
def wm_X6_goes (Q : Int32 → wS → Prop) (x1 : Int32) (σ : wS) : Prop :=
  ∃ n, wloop (wm_X6_goes_L2 Q x1) n (0, σ)
def wm_X6_spanOf (Q : Int32 → wS → Prop) (x1 : Int32) (x2 : Int32) (x3 : Int32) (σ : wS) : Prop :=
  wm_X6_isDay (fun r1 => ((¬ r1 = 0 → wm_X6_net (fun σ3 => wm_X6_goes (fun r4 σ5 => ((¬ r4 = 0 → ((¬ x2 = 0 → wm_X6_goes (fun r6 σ7 => vp_in 0 53 ∧ Q (Int64.toInt32 (-(aL σ7 1 0))) σ7) x1 σ5) ∧ (x2 = 0 → vp_in x1 53 ∧ Q (Int64.toInt32 (aL σ5 1 x1)) σ5))) ∧ (r4 = 0 → wm_X6_refuse (fun r8 σ9 => Q r8 σ9) 5 σ5))) 0 σ3) x3 (-1) σ) ∧ (r1 = 0 → wm_X6_refuse (fun r10 σ11 => Q r10 σ11) 2 σ))) x3
def wm_X6_span (Q : Int32 → wS → Prop) (x1 : Int32) (x2 : Int32) (x3 : Int32) (σ : wS) : Prop :=
  ∀ σ1 : wS, σ1 = sI σ 1 0 → ∀ σ2 : wS, σ2 = sI σ1 0 0 → wm_X6_isPlate (fun r3 => ((r3 = 0 → wm_X6_refuse (fun r5 σ6 => Q r5 σ6) 1 σ2) ∧ (¬ r3 = 0 → wm_X6_placeOf (fun r7 => wm_X6_spanOf (fun r9 σ10 => Q r9 σ10) r7 x2 x3 σ2) x1))) x1 σ2
def wm_X6_times (Q : Int32 → wS → Prop) (x1 : Int32) (x2 : Int32) (x3 : Int32) (x4 : Int32) (σ : wS) : Prop :=
  ∀ σ1 : wS, σ1 = sI σ 1 0 → ∀ σ2 : wS, σ2 = sI σ1 0 0 → wm_X6_isMotif (fun r3 => ((r3 = 0 → wm_X6_refuse (fun r5 σ6 => Q r5 σ6) 1 σ2) ∧ (¬ r3 = 0 → ((x2 = 0 → wm_X6_begins (fun r7 => wm_X6_spanOf (fun r9 σ10 => Q r9 σ10) r7 x3 x4 σ2) x1) ∧ (¬ x2 = 0 → wm_X6_endsAt (fun r11 => wm_X6_spanOf (fun r13 σ14 => Q r13 σ14) r11 x3 x4 σ2) x1))))) x1 σ2
def wm_X6_longer_L157 (Q : wS → Prop) (x1 : Int32) (K157 : (Int32 × wS) → Prop) (v : Int32 × wS) : Prop :=
  match v with
  | (x2, σ) => ((53 ≤ x2 → Q σ) ∧ (¬ 53 ≤ x2 → vp_in ((53 * x1) + x2) 2809 ∧ vp_in x2 53 ∧ ∀ m1 : Int64, m1 = mxL (aL σ 3 ((53 * x1) + x2)) (aL σ 1 x2) → vp_in ((53 * x1) + x2) 2809 ∧ ∀ σ2 : wS, σ2 = sB σ 3 ((53 * x1) + x2) m1 → ∀ a3 : Int32, a3 = x2 + 1 → K157 (a3, σ2)))
def wm_X6_longer_L76 (Q : wS → Prop) (K28 : (Int32 × wS) → Prop) (x1 : Int32) (x2 : Int32) (x3 : Int64) (K76 : (Int32 × wS) → Prop) (v : Int32 × wS) : Prop :=
  match v with
  | (x5, σ) => ((53 ≤ x5 → ∀ a1 : Int32, a1 = x2 + 1 → K28 (a1, σ)) ∧ (¬ 53 ≤ x5 → vp_in x2 400 ∧ vp_in ((53 * (aI σ 7 x2)) + x5) 2809 ∧ (((aL σ 2 ((53 * (aI σ 7 x2)) + x5)) = (-4000000000000) → ∀ a2 : Int32, a2 = x5 + 1 → K76 (a2, σ)) ∧ (¬ (aL σ 2 ((53 * (aI σ 7 x2)) + x5)) = (-4000000000000) → vp_in x5 53 ∧ vp_in x2 400 ∧ vp_in ((53 * (aI σ 7 x2)) + x5) 2809 ∧ ∀ m3 : Int64, m3 = mxL (aL σ 1 x5) (x3 + (aL σ 2 ((53 * (aI σ 7 x2)) + x5))) → vp_in x5 53 ∧ ∀ σ4 : wS, σ4 = sB σ 1 x5 m3 → ∀ a5 : Int32, a5 = x5 + 1 → K76 (a5, σ4)))))
def wm_X6_longer_L28 (Q : wS → Prop) (x1 : Int32) (K28 : (Int32 × wS) → Prop) (v : Int32 × wS) : Prop :=
  match v with
  | (x2, σ) => (((σ.1 5) ≤ x2 → ∃ n, wloop (wm_X6_longer_L157 Q x1) n (0, σ)) ∧ (¬ (σ.1 5) ≤ x2 → vp_in x2 400 ∧ vp_in ((53 * x1) + (aI σ 6 x2)) 2809 ∧ ∀ a1 : Int64, a1 = (aL σ 3 ((53 * x1) + (aI σ 6 x2))) → ((¬ a1 = (-4000000000000) → vp_in x2 400 ∧ ∀ a2 : Int64, a2 = (a1 + (aL σ 0 x2)) → ∃ n, wloop (wm_X6_longer_L76 Q K28 x1 x2 a2) n (0, σ)) ∧ (a1 = (-4000000000000) → ∀ a3 : Int32, a3 = x2 + 1 → K28 (a3, σ)))))
def wm_X6_longer_L2 (Q : wS → Prop) (x1 : Int32) (K2 : (Int32 × wS) → Prop) (v : Int32 × wS) : Prop :=
  match v with
  | (x2, σ) => ((53 ≤ x2 → ∀ a1 : Int32, a1 = (σ.1 6) → ∃ n, wloop (wm_X6_longer_L28 Q x1) n (a1, σ)) ∧ (¬ 53 ≤ x2 → vp_in x2 53 ∧ ∀ σ2 : wS, σ2 = sB σ 1 x2 (-4000000000000) → ∀ a3 : Int32, a3 = x2 + 1 → K2 (a3, σ2)))
def wm_X6_longer (Q : wS → Prop) (x1 : Int32) (σ : wS) : Prop :=
  ∃ n, wloop (wm_X6_longer_L2 Q x1) n (0, σ)
def wm_X6_quarrel_L150 (Q : Int32 → wS → Prop) (K138 : (Int32 × wS) → Prop) (x3 : Int32) (K150 : (Int32 × Int32 × wS) → Prop) (v : Int32 × Int32 × wS) : Prop :=
  match v with
  | (x4, x5, σ) => ((53 ≤ x5 → ((x4 = 0 → ∀ a1 : Int32, a1 = x3 + 1 → K138 (a1, σ)) ∧ (¬ x4 = 0 → Q x3 σ))) ∧ (¬ 53 ≤ x5 → ((¬ x4 = 0 → ((x4 = 0 → ∀ a2 : Int32, a2 = x3 + 1 → K138 (a2, σ)) ∧ (¬ x4 = 0 → Q x3 σ))) ∧ (x4 = 0 → wm_X6_longer (fun σ3 => vp_in ((53 * x5) + x5) 2809 ∧ (((aL σ3 3 ((53 * x5) + x5)) ≤ 0 → ∀ a4 : Int32, a4 = x5 + 1 → K150 (0, a4, σ3)) ∧ (¬ (aL σ3 3 ((53 * x5) + x5)) ≤ 0 → ∀ a5 : Int32, a5 = x5 + 1 → K150 (1, a5, σ3)))) x5 σ))))
def wm_X6_quarrel_L138 (Q : Int32 → wS → Prop) (K138 : (Int32 × wS) → Prop) (v : Int32 × wS) : Prop :=
  match v with
  | (x3, σ) => ((54 < x3 → wm_X6_refuse (fun r1 σ2 => Q r1 σ2) 6 σ) ∧ (¬ 54 < x3 → ∃ n, wloop (wm_X6_quarrel_L150 Q K138 x3) n (0, 0, σ)))
def wm_X6_quarrel_L74 (Q : Int32 → wS → Prop) (K59 : (Int32 × wS) → Prop) (x2 : Int32) (x3 : Int32) (K74 : (Int32 × wS) → Prop) (v : Int32 × wS) : Prop :=
  match v with
  | (x4, σ) => ((53 ≤ x4 → ∀ a1 : Int32, a1 = x3 + 1 → K59 (a1, σ)) ∧ (¬ 53 ≤ x4 → vp_in x4 53 ∧ vp_in ((53 * x3) + x4) 2809 ∧ ∀ σ2 : wS, σ2 = sB σ 2 ((53 * x3) + x4) (aL σ 1 x4) → vp_in x4 53 ∧ vp_in ((53 * x3) + x4) 2809 ∧ ∀ σ3 : wS, σ3 = sB σ2 3 ((53 * x3) + x4) (aL σ2 1 x4) → ∀ a4 : Int32, a4 = x4 + 1 → K74 (a4, σ3)))
def wm_X6_quarrel_L59 (Q : Int32 → wS → Prop) (x2 : Int32) (K59 : (Int32 × wS) → Prop) (v : Int32 × wS) : Prop :=
  match v with
  | (x3, σ) => ((53 ≤ x3 → ∀ σ1 : wS, σ1 = sI σ 5 x2 → ∃ n, wloop (wm_X6_quarrel_L138 Q) n (1, σ1)) ∧ (¬ 53 ≤ x3 → wm_X6_goes (fun r2 σ3 => ∃ n, wloop (wm_X6_quarrel_L74 Q K59 x2 x3) n (0, σ3)) x3 σ))
def wm_X6_quarrel (Q : Int32 → wS → Prop) (x1 : Int32) (σ : wS) : Prop :=
  ∀ σ1 : wS, σ1 = sI σ 1 0 → ∀ σ2 : wS, σ2 = sI σ1 0 0 → wm_X6_isDay (fun r3 => ((¬ r3 = 0 → wm_X6_net (fun σ5 => wm_X6_goes (fun r6 σ7 => ((r6 = 0 → ∀ a8 : Int32, a8 = (σ7.1 5) → ∀ σ9 : wS, σ9 = sI σ7 5 (σ7.1 6) → ∃ n, wloop (wm_X6_quarrel_L59 Q a8) n (0, σ9)) ∧ (¬ r6 = 0 → wm_X6_refuse (fun r10 σ11 => Q r10 σ11) 6 σ7))) 0 σ5) x1 (-1) σ2) ∧ (r3 = 0 → wm_X6_refuse (fun r12 σ13 => Q r12 σ13) 2 σ2))) x1
def wm_X6_frees (Q : Int32 → wS → Prop) (x1 : Int32) (x2 : Int32) (σ : wS) : Prop :=
  ∀ σ1 : wS, σ1 = sI σ 1 0 → ∀ σ2 : wS, σ2 = sI σ1 0 0 → wm_X6_isFact (fun r3 => ((¬ r3 = 0 → wm_X6_isDay (fun r5 => ((¬ r5 = 0 → wm_X6_net (fun σ7 => wm_X6_goes (fun r8 σ9 => ((r8 = 0 → wm_X6_isKnown (fun r10 => ((¬ r10 = 0 → wm_X6_net (fun σ12 => wm_X6_goes (fun r13 σ14 => ((r13 = 0 → Q 0 σ14) ∧ (¬ r13 = 0 → Q 1 σ14))) 0 σ12) x2 x1 σ9) ∧ (r10 = 0 → wm_X6_refuse (fun r15 σ16 => Q r15 σ16) 8 σ9))) x1 x2 σ9) ∧ (¬ r8 = 0 → wm_X6_refuse (fun r17 σ18 => Q r17 σ18) 6 σ9))) 0 σ7) x2 (-1) σ2) ∧ (r5 = 0 → wm_X6_refuse (fun r19 σ20 => Q r19 σ20) 2 σ2))) x2) ∧ (r3 = 0 → wm_X6_refuse (fun r21 σ22 => Q r21 σ22) 1 σ2))) x1 σ2
def wm_X6_order (Q : Int32 → wS → Prop) (x1 : Int32) (x2 : Int32) (x3 : Int32) (σ : wS) : Prop :=
  ∀ σ1 : wS, σ1 = sI σ 1 0 → ∀ σ2 : wS, σ2 = sI σ1 0 0 → wm_X6_isPlate (fun r3 => ((r3 = 0 → wm_X6_refuse (fun r5 σ6 => Q r5 σ6) 1 σ2) ∧ (¬ r3 = 0 → wm_X6_isPlate (fun r7 => ((r7 = 0 → wm_X6_refuse (fun r9 σ10 => Q r9 σ10) 1 σ2) ∧ (¬ r7 = 0 → ((¬ x1 = x2 → wm_X6_isDay (fun r11 => ((¬ r11 = 0 → wm_X6_net (fun σ13 => wm_X6_goes (fun r14 σ15 => ((¬ r14 = 0 → wm_X6_placeOf (fun r16 => wm_X6_goes (fun r18 σ19 => wm_X6_placeOf (fun r20 => vp_in r20 53 ∧ (((aL σ19 1 r20) < 1 → wm_X6_placeOf (fun r22 => wm_X6_goes (fun r24 σ25 => wm_X6_placeOf (fun r26 => vp_in r26 53 ∧ (((-(aL σ25 1 r26)) < 1 → Q 0 σ25) ∧ (¬ (-(aL σ25 1 r26)) < 1 → Q 1 σ25))) x1) r22 σ19) x2) ∧ (¬ (aL σ19 1 r20) < 1 → Q 2 σ19))) x2) r16 σ15) x1) ∧ (r14 = 0 → wm_X6_refuse (fun r28 σ29 => Q r28 σ29) 5 σ15))) 0 σ13) x3 (-1) σ2) ∧ (r11 = 0 → wm_X6_refuse (fun r30 σ31 => Q r30 σ31) 2 σ2))) x3) ∧ (x1 = x2 → wm_X6_refuse (fun r32 σ33 => Q r32 σ33) 1 σ2))))) x2 σ2))) x1 σ2
def wm_X6_edges (Q : Int32 → wS → Prop) (x1 : Int32) (x2 : Int32) (x3 : Int32) (σ : wS) : Prop :=
  ∀ σ1 : wS, σ1 = sI σ 1 0 → ∀ σ2 : wS, σ2 = sI σ1 0 0 → wm_X6_isPlate (fun r3 => ((¬ r3 = 0 → ((x2 < 0 → wm_X6_no (fun r5 σ6 => isB r5 ∧ Q r5 σ6) 2 σ2) ∧ (¬ x2 < 0 → ((99 < x2 → wm_X6_no (fun r7 σ8 => isB r7 ∧ Q r7 σ8) 2 σ2) ∧ (¬ 99 < x2 → ((x3 < 0 → wm_X6_no (fun r9 σ10 => isB r9 ∧ Q r9 σ10) 2 σ2) ∧ (¬ x3 < 0 → ((x3 ≤ 99 → vp_in x1 20 ∧ ∀ σ11 : wS, σ11 = sA σ2 8 x1 x2 → vp_in x1 20 ∧ ∀ σ12 : wS, σ12 = sA σ11 9 x1 x3 → Q 1 σ12) ∧ (¬ x3 ≤ 99 → wm_X6_no (fun r13 σ14 => isB r13 ∧ Q r13 σ14) 2 σ2))))))))) ∧ (r3 = 0 → wm_X6_no (fun r15 σ16 => isB r15 ∧ Q r15 σ16) 1 σ2))) x1 σ2
def wm_X6_isSet (Q : Int32 → Prop) (x1 : Int32) (σ : wS) : Prop :=
  ((x1 < 0 → Q 0) ∧ (¬ x1 < 0 → ((((1 : Int32) <<< ((σ.1 2) &&& 31)) ≤ x1 → Q 0) ∧ (¬ ((1 : Int32) <<< ((σ.1 2) &&& 31)) ≤ x1 → Q 1))))
def wm_X6_leftOf (Q : Int32 → Prop) (x1 : Int32) (σ : wS) : Prop :=
  vp_in x1 20 ∧ (((aI σ 8 x1) ≤ 0 → Q (100 + x1)) ∧ (¬ (aI σ 8 x1) ≤ 0 → vp_in x1 20 ∧ Q (aI σ 8 x1)))
def wm_X6_rightOf (Q : Int32 → Prop) (x1 : Int32) (σ : wS) : Prop :=
  vp_in x1 20 ∧ (((aI σ 9 x1) ≤ 0 → Q (200 + x1)) ∧ (¬ (aI σ 9 x1) ≤ 0 → vp_in x1 20 ∧ Q (aI σ 9 x1)))
def wm_X6_marks_L67 (Q : wS → Prop) (K59 : (Int32 × wS) → Prop) (x1 : Int32) (K67 : (Int32 × Int32 × wS) → Prop) (v : Int32 × Int32 × wS) : Prop :=
  match v with
  | (x2, x3, σ) => (((σ.1 2) ≤ x3 → K59 (x2, σ)) ∧ (¬ (σ.1 2) ≤ x3 → ((((x1 >>> (x3 &&& 31)) &&& 1) = 0 → ∀ a1 : Int32, a1 = x3 + 1 → K67 (x2, a1, σ)) ∧ (¬ ((x1 >>> (x3 &&& 31)) &&& 1) = 0 → wm_X6_leftOf (fun r2 => vp_in r2 500 ∧ wm_X6_rightOf (fun r4 => vp_in r4 500 ∧ ((¬ (aI σ 13 r2) = (aI σ 13 r4) → wm_X6_leftOf (fun r6 => vp_in r6 500 ∧ wm_X6_rightOf (fun r8 => vp_in r8 500 ∧ ∀ m10 : Int32, m10 = mn (aI σ 13 r6) (aI σ 13 r8) → wm_X6_leftOf (fun r11 => vp_in r11 500 ∧ ∀ σ13 : wS, σ13 = sA σ 13 r11 m10 → wm_X6_rightOf (fun r14 => vp_in r14 500 ∧ ∀ σ16 : wS, σ16 = sA σ13 13 r14 m10 → ∀ a17 : Int32, a17 = x3 + 1 → K67 (1, a17, σ16)) x3 σ13) x3 σ) x3 σ) x3 σ) ∧ ((aI σ 13 r2) = (aI σ 13 r4) → ∀ a18 : Int32, a18 = x3 + 1 → K67 (x2, a18, σ)))) x3 σ) x3 σ))))
def wm_X6_marks_L59 (Q : wS → Prop) (x1 : Int32) (K59 : (Int32 × wS) → Prop) (v : Int32 × wS) : Prop :=
  match v with
  | (x2, σ) => ((x2 = 0 → Q σ) ∧ (¬ x2 = 0 → ∃ n, wloop (wm_X6_marks_L67 Q K59 x1) n (0, 0, σ)))
def wm_X6_marks_L2 (Q : wS → Prop) (x1 : Int32) (K2 : (Int32 × wS) → Prop) (v : Int32 × wS) : Prop :=
  match v with
  | (x2, σ) => (((σ.1 2) ≤ x2 → ∃ n, wloop (wm_X6_marks_L59 Q x1) n (1, σ)) ∧ (¬ (σ.1 2) ≤ x2 → ((¬ ((x1 >>> (x2 &&& 31)) &&& 1) = 0 → wm_X6_leftOf (fun r1 => wm_X6_leftOf (fun r3 => vp_in r1 500 ∧ ∀ σ5 : wS, σ5 = sA σ 13 r1 r3 → wm_X6_rightOf (fun r6 => wm_X6_rightOf (fun r8 => vp_in r6 500 ∧ ∀ σ10 : wS, σ10 = sA σ5 13 r6 r8 → ∀ a11 : Int32, a11 = x2 + 1 → K2 (a11, σ10)) x2 σ5) x2 σ5) x2 σ) x2 σ) ∧ (((x1 >>> (x2 &&& 31)) &&& 1) = 0 → ∀ a12 : Int32, a12 = x2 + 1 → K2 (a12, σ)))))
def wm_X6_marks (Q : wS → Prop) (x1 : Int32) (σ : wS) : Prop :=
  ∃ n, wloop (wm_X6_marks_L2 Q x1) n (0, σ)
def wm_X6_counts_L24 (Q : wS → Prop) (x1 : Int32) (K24 : (Int32 × wS) → Prop) (v : Int32 × wS) : Prop :=
  match v with
  | (x2, σ) => (((σ.1 2) ≤ x2 → Q σ) ∧ (¬ (σ.1 2) ≤ x2 → ((¬ ((x1 >>> (x2 &&& 31)) &&& 1) = 0 → wm_X6_leftOf (fun r1 => vp_in r1 500 ∧ vp_in r1 500 ∧ ∀ σ3 : wS, σ3 = sA σ 12 r1 ((aI σ 12 r1) + 1) → wm_X6_rightOf (fun r4 => vp_in r4 500 ∧ vp_in r4 500 ∧ ∀ σ6 : wS, σ6 = sA σ3 12 r4 ((aI σ3 12 r4) - 1) → ∀ a7 : Int32, a7 = x2 + 1 → K24 (a7, σ6)) x2 σ3) x2 σ) ∧ (((x1 >>> (x2 &&& 31)) &&& 1) = 0 → ∀ a8 : Int32, a8 = x2 + 1 → K24 (a8, σ)))))
def wm_X6_counts_L2 (Q : wS → Prop) (x1 : Int32) (K2 : (Int32 × wS) → Prop) (v : Int32 × wS) : Prop :=
  match v with
  | (x2, σ) => ((500 ≤ x2 → ∃ n, wloop (wm_X6_counts_L24 Q x1) n (0, σ)) ∧ (¬ 500 ≤ x2 → vp_in x2 500 ∧ ∀ σ1 : wS, σ1 = sA σ 12 x2 0 → ∀ a2 : Int32, a2 = x2 + 1 → K2 (a2, σ1)))
def wm_X6_counts (Q : wS → Prop) (x1 : Int32) (σ : wS) : Prop :=
  ∃ n, wloop (wm_X6_counts_L2 Q x1) n (0, σ)
def wm_X6_hasRow_J74 (Q : Int32 → wS → Prop) (K30 : (Int32 × Int32 × Int32) → Prop) (x1 : Int32) (x2 : Int32) (x3 : Int32) (x4 : Int32) (x6 : Int32) (x7 : Int32) (σ : wS) : Prop :=
  wm_X6_leftOf (fun r1 => vp_in r1 500 ∧ ∀ a3 : Int32, a3 = (aI σ 13 r1) → ((¬ x6 = 0 → ∀ a4 : Int32, a4 = x7 + 1 → K30 (a3, 1, a4)) ∧ (x6 = 0 → wm_X6_leftOf (fun r5 => ((¬ r5 = x2 → ∀ a7 : Int32, a7 = x7 + 1 → K30 (a3, 0, a7)) ∧ (r5 = x2 → ∀ a8 : Int32, a8 = x7 + 1 → K30 (a3, 1, a8)))) x7 σ))) x7 σ
def wm_X6_hasRow_L118 (Q : Int32 → wS → Prop) (x2 : Int32) (x6 : Int32) (σ : wS) (K118 : (Int32 × Int32 × Int32) → Prop) (v : Int32 × Int32 × Int32) : Prop :=
  match v with
  | (x3, x4, x7) => ((500 ≤ x7 → ((x4 ≤ 1 → ((x2 = 0 → Q 1 σ) ∧ (¬ x2 = 0 → ((¬ x4 = 1 → ((x6 = 0 → Q 0 σ) ∧ (¬ x6 = 0 → Q 1 σ))) ∧ (x4 = 1 → ((¬ x3 = x2 → Q 0 σ) ∧ (x3 = x2 → Q 1 σ))))))) ∧ (¬ x4 ≤ 1 → Q 0 σ))) ∧ (¬ 500 ≤ x7 → vp_in x7 500 ∧ ∀ m1 : Int32, m1 = mx 0 (aI σ 12 x7) → ∀ a2 : Int32, a2 = (x4 + m1) → vp_in x7 500 ∧ (((aI σ 12 x7) ≤ 0 → ∀ a3 : Int32, a3 = x7 + 1 → K118 (x3, a2, a3)) ∧ (¬ (aI σ 12 x7) ≤ 0 → ∀ a4 : Int32, a4 = x7 + 1 → K118 (x7, a2, a4)))))
def wm_X6_hasRow_L30 (Q : Int32 → wS → Prop) (x1 : Int32) (x2 : Int32) (x3 : Int32) (x4 : Int32) (σ : wS) (K30 : (Int32 × Int32 × Int32) → Prop) (v : Int32 × Int32 × Int32) : Prop :=
  match v with
  | (x5, x6, x7) => (((σ.1 2) ≤ x7 → ∃ n, wloop (wm_X6_hasRow_L118 Q x2 x6 σ) n (x3, x4, 0)) ∧ (¬ (σ.1 2) ≤ x7 → ((¬ ((x1 >>> (x7 &&& 31)) &&& 1) = 0 → ((x5 < 0 → wm_X6_hasRow_J74 Q K30 x1 x2 x3 x4 x6 x7 σ) ∧ (¬ x5 < 0 → wm_X6_leftOf (fun r1 => vp_in r1 500 ∧ (((aI σ 13 r1) = x5 → wm_X6_hasRow_J74 Q K30 x1 x2 x3 x4 x6 x7 σ) ∧ (¬ (aI σ 13 r1) = x5 → Q 0 σ))) x7 σ))) ∧ (((x1 >>> (x7 &&& 31)) &&& 1) = 0 → ∀ a3 : Int32, a3 = x7 + 1 → K30 (x5, x6, a3)))))
def wm_X6_hasRow (Q : Int32 → wS → Prop) (x1 : Int32) (x2 : Int32) (σ : wS) : Prop :=
  ((¬ x1 = 0 → wm_X6_marks (fun σ1 => wm_X6_counts (fun σ2 => ∀ a3 : Int32, a3 = (-1) → ∃ n, wloop (wm_X6_hasRow_L30 Q x1 x2 0 0 σ2) n (a3, 0, 0)) x1 σ1) x1 σ) ∧ (x1 = 0 → Q 1 σ))
def wm_X6_isNext_J23 (Q : Int32 → wS → Prop) (x1 : Int32) (x3 : Int32) (σ : wS) : Prop :=
  wm_X6_rightOf (fun r1 => wm_X6_hasRow (fun r3 σ4 => isB r3 ∧ Q r3 σ4) (x1 &&& (((1 : Int32) <<< (x3 &&& 31)) ^^^ (-1))) r1 σ) x3 σ
def wm_X6_isNext (Q : Int32 → wS → Prop) (x1 : Int32) (x2 : Int32) (x3 : Int32) (σ : wS) : Prop :=
  ((((x1 >>> (x3 &&& 31)) &&& 1) = 0 → Q 0 σ) ∧ (¬ ((x1 >>> (x3 &&& 31)) &&& 1) = 0 → ((x2 ≤ 0 → wm_X6_isNext_J23 Q x1 x3 σ) ∧ (¬ x2 ≤ 0 → wm_X6_leftOf (fun r1 => ((r1 = x2 → wm_X6_isNext_J23 Q x1 x3 σ) ∧ (¬ r1 = x2 → Q 0 σ))) x3 σ))))
def wm_X6_finds_L27 (Q : Int32 → wS → Prop) (K20 : (Int32 × Int32 × wS) → Prop) (x2 : Int32) (x3 : Int32) (K27 : (Int32 × wS) → Prop) (v : Int32 × wS) : Prop :=
  match v with
  | (x4, σ) => wm_X6_isNext (fun r1 σ2 => ((¬ r1 = 0 → vp_in (σ2.1 8) 20 ∧ ∀ σ3 : wS, σ3 = sA σ2 11 (σ2.1 8) x4 → ∀ σ4 : wS, σ4 = sI σ3 8 ((σ3.1 8) + 1) → ∀ a5 : Int32, a5 = (x2 &&& (((1 : Int32) <<< (x4 &&& 31)) ^^^ (-1))) → wm_X6_rightOf (fun r6 => K20 (a5, r6, σ4)) x4 σ4) ∧ (r1 = 0 → ∀ a8 : Int32, a8 = x4 + 1 → K27 (a8, σ2)))) x2 x3 x4 σ
def wm_X6_finds_L20 (Q : Int32 → wS → Prop) (K20 : (Int32 × Int32 × wS) → Prop) (v : Int32 × Int32 × wS) : Prop :=
  match v with
  | (x2, x3, σ) => ((x2 = 0 → Q 1 σ) ∧ (¬ x2 = 0 → ∃ n, wloop (wm_X6_finds_L27 Q K20 x2 x3) n (0, σ)))
def wm_X6_finds (Q : Int32 → wS → Prop) (x1 : Int32) (σ : wS) : Prop :=
  wm_X6_hasRow (fun r1 σ2 => ((¬ r1 = 0 → ∀ σ3 : wS, σ3 = sI σ2 8 0 → ∃ n, wloop (wm_X6_finds_L20 Q) n (x1, 0, σ3)) ∧ (r1 = 0 → Q 0 σ2))) x1 0 σ
def wm_X6_row_L53 (Q : Int32 → wS → Prop) (K53 : (Int32 × wS) → Prop) (v : Int32 × wS) : Prop :=
  match v with
  | (x2, σ) => (((σ.1 8) ≤ x2 → Q (σ.1 7) σ) ∧ (¬ (σ.1 8) ≤ x2 → vp_in x2 20 ∧ vp_in x2 20 ∧ ∀ σ1 : wS, σ1 = sA σ 10 x2 (aI σ 11 x2) → ∀ a2 : Int32, a2 = x2 + 1 → K53 (a2, σ1)))
def wm_X6_row (Q : Int32 → wS → Prop) (x1 : Int32) (σ : wS) : Prop :=
  ∀ σ1 : wS, σ1 = sI σ 1 0 → ∀ σ2 : wS, σ2 = sI σ1 0 0 → wm_X6_isSet (fun r3 => ((r3 = 0 → wm_X6_refuse (fun r5 σ6 => Q r5 σ6) 2 σ2) ∧ (¬ r3 = 0 → ((¬ x1 = 0 → wm_X6_finds (fun r7 σ8 => ((¬ r7 = 0 → ∀ σ9 : wS, σ9 = sI σ8 7 (σ8.1 8) → ∃ n, wloop (wm_X6_row_L53 Q) n (0, σ9)) ∧ (r7 = 0 → wm_X6_refuse (fun r10 σ11 => Q r10 σ11) 7 σ8))) x1 σ2) ∧ (x1 = 0 → wm_X6_refuse (fun r12 σ13 => Q r12 σ13) 2 σ2))))) x1 σ2
def wm_X6_ring (Q : Int32 → wS → Prop) (x1 : Int32) (σ : wS) : Prop :=
  ∀ σ1 : wS, σ1 = sI σ 1 0 → ∀ σ2 : wS, σ2 = sI σ1 0 0 → wm_X6_isSet (fun r3 => ((r3 = 0 → wm_X6_refuse (fun r5 σ6 => Q r5 σ6) 2 σ2) ∧ (¬ r3 = 0 → ((¬ x1 = 0 → wm_X6_finds (fun r7 σ8 => ((¬ r7 = 0 → vp_in ((σ8.1 8) - 1) 20 ∧ wm_X6_rightOf (fun r9 => vp_in 0 20 ∧ wm_X6_leftOf (fun r11 => ((¬ r9 = r11 → Q 0 σ8) ∧ (r9 = r11 → Q 1 σ8))) (aI σ8 11 0) σ8) (aI σ8 11 ((σ8.1 8) - 1)) σ8) ∧ (r7 = 0 → wm_X6_refuse (fun r13 σ14 => Q r13 σ14) 7 σ8))) x1 σ2) ∧ (x1 = 0 → wm_X6_refuse (fun r15 σ16 => Q r15 σ16) 2 σ2))))) x1 σ2
def wm_X6_isEdge_L2 (Q : Int32 → Prop) (x1 : Int32) (x2 : Int32) (σ : wS) (K2 : Int32 → Prop) (x3 : Int32) : Prop :=
  (((σ.1 2) ≤ x3 → Q 0) ∧ (¬ (σ.1 2) ≤ x3 → ((¬ ((x1 >>> (x3 &&& 31)) &&& 1) = 1 → ∀ a1 : Int32, a1 = x3 + 1 → K2 a1) ∧ (((x1 >>> (x3 &&& 31)) &&& 1) = 1 → wm_X6_leftOf (fun r2 => ((r2 = x2 → Q 1) ∧ (¬ r2 = x2 → wm_X6_rightOf (fun r4 => ((¬ r4 = x2 → ∀ a6 : Int32, a6 = x3 + 1 → K2 a6) ∧ (r4 = x2 → Q 1))) x3 σ))) x3 σ))))
def wm_X6_isEdge (Q : Int32 → Prop) (x1 : Int32) (x2 : Int32) (σ : wS) : Prop :=
  ∃ n, wloop (wm_X6_isEdge_L2 Q x1 x2 σ) n 0
def wm_X6_rows_L117 (Q : Int32 → wS → Prop) (K38 : (Int32 × Int32) → Prop) (x1 : Int32) (x2 : Int32) (x3 : Int32) (σ : wS) (K117 : (Int32 × Int32) → Prop) (v : Int32 × Int32) : Prop :=
  match v with
  | (x4, x6) => ((300 ≤ x6 → ∀ m1 : Int32, m1 = mx 1 x4 → ∀ a2 : Int32, a2 = (x2 + m1) → ∀ a3 : Int32, a3 = x3 + 1 → K38 (a2, a3)) ∧ (¬ 300 ≤ x6 → wm_X6_isEdge (fun r4 => ((r4 = 0 → ∀ a6 : Int32, a6 = (x4 + 0) → ∀ a7 : Int32, a7 = x6 + 1 → K117 (a6, a7)) ∧ (¬ r4 = 0 → vp_in x6 500 ∧ ((¬ (aI σ 13 x6) = x3 → ∀ a8 : Int32, a8 = (x4 + 0) → ∀ a9 : Int32, a9 = x6 + 1 → K117 (a8, a9)) ∧ ((aI σ 13 x6) = x3 → vp_in x6 500 ∧ ∀ m10 : Int32, m10 = mx 0 (aI σ 12 x6) → ∀ a11 : Int32, a11 = (x4 + m10) → ∀ a12 : Int32, a12 = x6 + 1 → K117 (a11, a12)))))) x1 x6 σ))
def wm_X6_rows_L54 (Q : Int32 → wS → Prop) (K38 : (Int32 × Int32) → Prop) (x1 : Int32) (x2 : Int32) (x3 : Int32) (x4 : Int32) (σ : wS) (K54 : (Int32 × Int32) → Prop) (v : Int32 × Int32) : Prop :=
  match v with
  | (x5, x6) => (((σ.1 2) ≤ x6 → ((¬ x5 = 0 → ∃ n, wloop (wm_X6_rows_L117 Q K38 x1 x2 x3 σ) n (x4, 0)) ∧ (x5 = 0 → ∀ a1 : Int32, a1 = x3 + 1 → K38 (x2, a1)))) ∧ (¬ (σ.1 2) ≤ x6 → ((¬ x5 = 0 → ∀ a2 : Int32, a2 = x6 + 1 → K54 (1, a2)) ∧ (x5 = 0 → ((¬ ((x1 >>> (x6 &&& 31)) &&& 1) = 1 → ∀ a3 : Int32, a3 = x6 + 1 → K54 (0, a3)) ∧ (((x1 >>> (x6 &&& 31)) &&& 1) = 1 → wm_X6_leftOf (fun r4 => vp_in r4 500 ∧ ((¬ (aI σ 13 r4) = x3 → ∀ a6 : Int32, a6 = x6 + 1 → K54 (0, a6)) ∧ ((aI σ 13 r4) = x3 → ∀ a7 : Int32, a7 = x6 + 1 → K54 (1, a7)))) x6 σ))))))
def wm_X6_rows_L38 (Q : Int32 → wS → Prop) (x1 : Int32) (σ : wS) (K38 : (Int32 × Int32) → Prop) (v : Int32 × Int32) : Prop :=
  match v with
  | (x2, x3) => ((300 ≤ x3 → Q x2 σ) ∧ (¬ 300 ≤ x3 → ∃ n, wloop (wm_X6_rows_L54 Q K38 x1 x2 x3 0 σ) n (0, 0)))
def wm_X6_rows (Q : Int32 → wS → Prop) (x1 : Int32) (σ : wS) : Prop :=
  ∀ σ1 : wS, σ1 = sI σ 1 0 → ∀ σ2 : wS, σ2 = sI σ1 0 0 → wm_X6_isSet (fun r3 => ((¬ r3 = 0 → wm_X6_marks (fun σ5 => wm_X6_counts (fun σ6 => ∃ n, wloop (wm_X6_rows_L38 Q x1 σ6) n (0, 0)) x1 σ5) x1 σ2) ∧ (r3 = 0 → wm_X6_refuse (fun r7 σ8 => Q r7 σ8) 2 σ2))) x1 σ2
def wm_X6_out (Q : Int32 → wS → Prop) (x1 : Int32) (σ : wS) : Prop :=
  ∀ σ1 : wS, σ1 = sI σ 1 0 → ((x1 < 0 → Q (-1) σ1) ∧ (¬ x1 < 0 → (((σ1.1 7) ≤ x1 → Q (-1) σ1) ∧ (¬ (σ1.1 7) ≤ x1 → vp_in x1 20 ∧ Q (aI σ1 10 x1) σ1))))
def wm_X6_want (Q : Int32 → wS → Prop) (x1 : Int32) (x2 : Int32) (x3 : Int32) (x4 : Int32) (σ : wS) : Prop :=
  ∀ σ1 : wS, σ1 = sI σ 1 0 → ∀ σ2 : wS, σ2 = sI σ1 0 0 → wm_X6_isPlate (fun r3 => ((¬ r3 = 0 → ((x2 < 0 → wm_X6_no (fun r5 σ6 => isB r5 ∧ Q r5 σ6) 2 σ2) ∧ (¬ x2 < 0 → ((99 < x2 → wm_X6_no (fun r7 σ8 => isB r7 ∧ Q r7 σ8) 2 σ2) ∧ (¬ 99 < x2 → ((x3 < 1 → wm_X6_no (fun r9 σ10 => isB r9 ∧ Q r9 σ10) 2 σ2) ∧ (¬ x3 < 1 → ((50 < x3 → wm_X6_no (fun r11 σ12 => isB r11 ∧ Q r11 σ12) 2 σ2) ∧ (¬ 50 < x3 → ((x4 < 1 → wm_X6_no (fun r13 σ14 => isB r13 ∧ Q r13 σ14) 2 σ2) ∧ (¬ x4 < 1 → ((x4 ≤ 500 → vp_in x1 20 ∧ ∀ σ15 : wS, σ15 = sA σ2 14 x1 x2 → vp_in x1 20 ∧ ∀ σ16 : wS, σ16 = sA σ15 15 x1 x3 → vp_in x1 20 ∧ ∀ σ17 : wS, σ17 = sA σ16 16 x1 x4 → Q 1 σ17) ∧ (¬ x4 ≤ 500 → wm_X6_no (fun r18 σ19 => isB r18 ∧ Q r18 σ19) 2 σ2))))))))))))) ∧ (r3 = 0 → wm_X6_no (fun r20 σ21 => isB r20 ∧ Q r20 σ21) 1 σ2))) x1 σ2
def wm_X6_orders_J58 (Q : wS → Prop) (K2 : (Int32 × wS) → Prop) (x1 : Int32) (x2 : Int32) (σ : wS) : Prop :=
  vp_in x2 20 ∧ ∀ σ1 : wS, σ1 = sA σ 17 x2 x1 → ∀ a2 : Int32, a2 = x1 + 1 → K2 (a2, σ1)
def wm_X6_orders_L12 (Q : wS → Prop) (K2 : (Int32 × wS) → Prop) (x1 : Int32) (K12 : (Int32 × wS) → Prop) (v : Int32 × wS) : Prop :=
  match v with
  | (x2, σ) => ((x2 ≤ 0 → wm_X6_orders_J58 Q K2 x1 x2 σ) ∧ (¬ x2 ≤ 0 → vp_in (x2 - 1) 20 ∧ vp_in (aI σ 17 (x2 - 1)) 20 ∧ vp_in x1 20 ∧ (((aI σ 16 (aI σ 17 (x2 - 1))) ≤ (aI σ 16 x1) → wm_X6_orders_J58 Q K2 x1 x2 σ) ∧ (¬ (aI σ 16 (aI σ 17 (x2 - 1))) ≤ (aI σ 16 x1) → vp_in (x2 - 1) 20 ∧ vp_in x2 20 ∧ ∀ σ1 : wS, σ1 = sA σ 17 x2 (aI σ 17 (x2 - 1)) → ∀ a2 : Int32, a2 = x2 + (-1) → K12 (a2, σ1)))))
def wm_X6_orders_L2 (Q : wS → Prop) (K2 : (Int32 × wS) → Prop) (v : Int32 × wS) : Prop :=
  match v with
  | (x1, σ) => (((σ.1 2) ≤ x1 → Q σ) ∧ (¬ (σ.1 2) ≤ x1 → ∃ n, wloop (wm_X6_orders_L12 Q K2 x1) n (x1, σ)))
def wm_X6_orders (Q : wS → Prop) (σ : wS) : Prop :=
  ∃ n, wloop (wm_X6_orders_L2 Q) n (0, σ)
def wm_X6_mostOf_L199 (Q : Int32 → wS → Prop) (σ : wS) (K199 : (Int32 × Int32) → Prop) (v : Int32 × Int32) : Prop :=
  match v with
  | (x1, x2) => ((500 < x2 → Q x1 σ) ∧ (¬ 500 < x2 → vp_in x2 501 ∧ ∀ m1 : Int32, m1 = mx x1 (aI σ 19 x2) → ∀ a2 : Int32, a2 = x2 + 1 → K199 (m1, a2)))
def wm_X6_mostOf_J81 (Q : Int32 → wS → Prop) (K32 : (Int32 × wS) → Prop) (K49 : (Int32 × wS) → Prop) (x1 : Int32) (x2 : Int32) (x3 : Int32) (s1 : Int32) (s2 : Int32) (σ : wS) : Prop :=
  vp_in s1 501 ∧ ∀ σ1 : wS, σ1 = sA σ 20 s1 s2 → vp_in x2 20 ∧ ∀ a2 : Int32, a2 = (x3 - (aI σ1 15 x2)) → vp_in x2 20 ∧ (((aI σ1 18 x2) = 2 → ∀ a3 : Int32, a3 = x3 + 1 → K49 (a3, σ1)) ∧ (¬ (aI σ1 18 x2) = 2 → vp_in x2 20 ∧ (((aI σ1 16 x2) < x3 → ∀ a4 : Int32, a4 = x3 + 1 → K49 (a4, σ1)) ∧ (¬ (aI σ1 16 x2) < x3 → ((a2 < 0 → ∀ a5 : Int32, a5 = x3 + 1 → K49 (a5, σ1)) ∧ (¬ a2 < 0 → vp_in a2 501 ∧ (((aI σ1 19 a2) < 0 → ∀ a6 : Int32, a6 = x3 + 1 → K49 (a6, σ1)) ∧ (¬ (aI σ1 19 a2) < 0 → vp_in x3 501 ∧ vp_in a2 501 ∧ vp_in x2 20 ∧ ∀ m7 : Int32, m7 = mx (aI σ1 20 x3) ((aI σ1 19 a2) + (aI σ1 14 x2)) → vp_in x3 501 ∧ ∀ σ8 : wS, σ8 = sA σ1 20 x3 m7 → ∀ a9 : Int32, a9 = x3 + 1 → K49 (a9, σ8)))))))))
def wm_X6_mostOf_L164 (Q : Int32 → wS → Prop) (K32 : (Int32 × wS) → Prop) (x1 : Int32) (K164 : (Int32 × wS) → Prop) (v : Int32 × wS) : Prop :=
  match v with
  | (x3, σ) => ((500 < x3 → ∀ a1 : Int32, a1 = x1 + 1 → K32 (a1, σ)) ∧ (¬ 500 < x3 → vp_in x3 501 ∧ vp_in x3 501 ∧ ∀ σ2 : wS, σ2 = sA σ 19 x3 (aI σ 20 x3) → ∀ a3 : Int32, a3 = x3 + 1 → K164 (a3, σ2)))
def wm_X6_mostOf_L49 (Q : Int32 → wS → Prop) (K32 : (Int32 × wS) → Prop) (x1 : Int32) (x2 : Int32) (K49 : (Int32 × wS) → Prop) (v : Int32 × wS) : Prop :=
  match v with
  | (x3, σ) => ((500 < x3 → ∃ n, wloop (wm_X6_mostOf_L164 Q K32 x1) n (0, σ)) ∧ (¬ 500 < x3 → vp_in x2 20 ∧ ((¬ (aI σ 18 x2) = 1 → vp_in x3 501 ∧ wm_X6_mostOf_J81 Q K32 K49 x1 x2 x3 x3 (aI σ 19 x3) σ) ∧ ((aI σ 18 x2) = 1 → wm_X6_mostOf_J81 Q K32 K49 x1 x2 x3 x3 (-1) σ))))
def wm_X6_mostOf_L32 (Q : Int32 → wS → Prop) (K32 : (Int32 × wS) → Prop) (v : Int32 × wS) : Prop :=
  match v with
  | (x1, σ) => (((σ.1 2) ≤ x1 → ∀ a1 : Int32, a1 = (-1) → ∃ n, wloop (wm_X6_mostOf_L199 Q σ) n (a1, 0)) ∧ (¬ (σ.1 2) ≤ x1 → vp_in x1 20 ∧ ∀ a2 : Int32, a2 = (aI σ 17 x1) → ∃ n, wloop (wm_X6_mostOf_L49 Q K32 x1 a2) n (0, σ)))
def wm_X6_mostOf_L2 (Q : Int32 → wS → Prop) (K2 : (Int32 × wS) → Prop) (v : Int32 × wS) : Prop :=
  match v with
  | (x1, σ) => ((500 < x1 → ∃ n, wloop (wm_X6_mostOf_L32 Q) n (0, σ)) ∧ (¬ 500 < x1 → ((¬ x1 = 0 → vp_in x1 501 ∧ ∀ σ1 : wS, σ1 = sA σ 19 x1 (-1) → ∀ a2 : Int32, a2 = x1 + 1 → K2 (a2, σ1)) ∧ (x1 = 0 → vp_in x1 501 ∧ ∀ σ3 : wS, σ3 = sA σ 19 x1 0 → ∀ a4 : Int32, a4 = x1 + 1 → K2 (a4, σ3)))))
def wm_X6_mostOf (Q : Int32 → wS → Prop) (σ : wS) : Prop :=
  ∃ n, wloop (wm_X6_mostOf_L2 Q) n (0, σ)
def wm_X6_chooses_L34 (Q : Int32 → wS → Prop) (x1 : Int32) (K34 : (Int32 × wS) → Prop) (v : Int32 × wS) : Prop :=
  match v with
  | (x2, σ) => (((σ.1 2) ≤ x2 → Q x1 σ) ∧ (¬ (σ.1 2) ≤ x2 → vp_in x2 20 ∧ ∀ σ1 : wS, σ1 = sA σ 18 x2 1 → wm_X6_mostOf (fun r2 σ3 => ((r2 = x1 → ∀ a4 : Int32, a4 = x2 + 1 → K34 (a4, σ3)) ∧ (¬ r2 = x1 → vp_in x2 20 ∧ ∀ σ5 : wS, σ5 = sA σ3 18 x2 2 → ∀ a6 : Int32, a6 = x2 + 1 → K34 (a6, σ5)))) σ1))
def wm_X6_chooses_L6 (Q : Int32 → wS → Prop) (K6 : (Int32 × wS) → Prop) (v : Int32 × wS) : Prop :=
  match v with
  | (x1, σ) => (((σ.1 2) ≤ x1 → wm_X6_mostOf (fun r1 σ2 => ∃ n, wloop (wm_X6_chooses_L34 Q r1) n (0, σ2)) σ) ∧ (¬ (σ.1 2) ≤ x1 → vp_in x1 20 ∧ ∀ σ3 : wS, σ3 = sA σ 18 x1 0 → ∀ a4 : Int32, a4 = x1 + 1 → K6 (a4, σ3)))
def wm_X6_chooses (Q : Int32 → wS → Prop) (σ : wS) : Prop :=
  wm_X6_orders (fun σ1 => ∃ n, wloop (wm_X6_chooses_L6 Q) n (0, σ1)) σ
def wm_X6_best (Q : Int32 → wS → Prop) (σ : wS) : Prop :=
  ∀ σ1 : wS, σ1 = sI σ 1 0 → ∀ σ2 : wS, σ2 = sI σ1 0 0 → wm_X6_chooses (fun r3 σ4 => Q r3 σ4) σ2
def wm_X6_hour_L50 (Q : Int32 → wS → Prop) (x1 : Int32) (σ : wS) (K50 : (Int32 × Int32) → Prop) (v : Int32 × Int32) : Prop :=
  match v with
  | (x2, x3) => vp_in x3 20 ∧ (((aI σ 17 x3) = x1 → Q x2 σ) ∧ (¬ (aI σ 17 x3) = x1 → vp_in x3 20 ∧ vp_in (aI σ 17 x3) 20 ∧ ((¬ (aI σ 18 (aI σ 17 x3)) = 1 → ∀ a1 : Int32, a1 = (x2 + 0) → ∀ a2 : Int32, a2 = x3 + 1 → K50 (a1, a2)) ∧ ((aI σ 18 (aI σ 17 x3)) = 1 → vp_in x3 20 ∧ vp_in (aI σ 17 x3) 20 ∧ ∀ a3 : Int32, a3 = (x2 + (aI σ 15 (aI σ 17 x3))) → ∀ a4 : Int32, a4 = x3 + 1 → K50 (a3, a4)))))
def wm_X6_hour (Q : Int32 → wS → Prop) (x1 : Int32) (σ : wS) : Prop :=
  ∀ σ1 : wS, σ1 = sI σ 1 0 → ∀ σ2 : wS, σ2 = sI σ1 0 0 → wm_X6_isPlate (fun r3 => ((¬ r3 = 0 → wm_X6_chooses (fun r5 σ6 => vp_in x1 20 ∧ (((aI σ6 18 x1) = 1 → ∃ n, wloop (wm_X6_hour_L50 Q x1 σ6) n (0, 0)) ∧ (¬ (aI σ6 18 x1) = 1 → wm_X6_refuse (fun r7 σ8 => Q r7 σ8) 8 σ6))) σ2) ∧ (r3 = 0 → wm_X6_refuse (fun r9 σ10 => Q r9 σ10) 1 σ2))) x1 σ2
def wm_X6_law (Q : Int32 → wS → Prop) (x1 : Int32) (x2 : Int32) (σ : wS) : Prop :=
  ∀ σ1 : wS, σ1 = sI σ 1 0 → ∀ σ2 : wS, σ2 = sI σ1 0 0 → ((x1 < 0 → wm_X6_no (fun r3 σ4 => isB r3 ∧ Q r3 σ4) 2 σ2) ∧ (¬ x1 < 0 → ((100000 < x1 → wm_X6_no (fun r5 σ6 => isB r5 ∧ Q r5 σ6) 2 σ2) ∧ (¬ 100000 < x1 → ((x2 < 0 → wm_X6_no (fun r7 σ8 => isB r7 ∧ Q r7 σ8) 2 σ2) ∧ (¬ x2 < 0 → ((x2 ≤ 50000 → ((¬ (σ2.1 9) = 10 → vp_in (σ2.1 9) 10 ∧ ∀ σ9 : wS, σ9 = sA σ2 21 (σ2.1 9) x1 → vp_in (σ9.1 9) 10 ∧ ∀ σ10 : wS, σ10 = sA σ9 22 (σ9.1 9) x2 → ∀ σ11 : wS, σ11 = sI σ10 9 ((σ10.1 9) + 1) → Q 1 σ11) ∧ ((σ2.1 9) = 10 → wm_X6_no (fun r12 σ13 => isB r12 ∧ Q r12 σ13) 3 σ2))) ∧ (¬ x2 ≤ 50000 → wm_X6_no (fun r14 σ15 => isB r14 ∧ Q r14 σ15) 2 σ2))))))))
def wm_X6_death (Q : Int32 → wS → Prop) (x1 : Int32) (x2 : Int32) (x3 : Int32) (σ : wS) : Prop :=
  ∀ σ1 : wS, σ1 = sI σ 1 0 → ∀ σ2 : wS, σ2 = sI σ1 0 0 → wm_X6_isPlate (fun r3 => ((¬ r3 = 0 → ((x2 < 0 → wm_X6_no (fun r5 σ6 => isB r5 ∧ Q r5 σ6) 2 σ2) ∧ (¬ x2 < 0 → ((100000 < x2 → wm_X6_no (fun r7 σ8 => isB r7 ∧ Q r7 σ8) 2 σ2) ∧ (¬ 100000 < x2 → wm_X6_isDay (fun r9 => ((¬ r9 = 0 → ((¬ (σ2.1 10) = 60 → vp_in (σ2.1 10) 60 ∧ ∀ σ11 : wS, σ11 = sA σ2 23 (σ2.1 10) x1 → vp_in (σ11.1 10) 60 ∧ ∀ σ12 : wS, σ12 = sA σ11 24 (σ11.1 10) x2 → vp_in (σ12.1 10) 60 ∧ ∀ σ13 : wS, σ13 = sA σ12 25 (σ12.1 10) x3 → ∀ σ14 : wS, σ14 = sI σ13 10 ((σ13.1 10) + 1) → Q 1 σ14) ∧ ((σ2.1 10) = 60 → wm_X6_no (fun r15 σ16 => isB r15 ∧ Q r15 σ16) 3 σ2))) ∧ (r9 = 0 → wm_X6_no (fun r17 σ18 => isB r17 ∧ Q r17 σ18) 2 σ2))) x3))))) ∧ (r3 = 0 → wm_X6_no (fun r19 σ20 => isB r19 ∧ Q r19 σ20) 1 σ2))) x1 σ2
def wm_X6_free_L112 (Q : Int32 → wS → Prop) (x1 : Int32) (x2 : Int32) (x3 : Int32) (x4 : Int32) (σ : wS) (K112 : (Int32 × Int32) → Prop) (v : Int32 × Int32) : Prop :=
  match v with
  | (x5, x6) => (((σ.1 10) ≤ x6 → ((x4 < 0 → Q 0 σ) ∧ (¬ x4 < 0 → ((x5 < 0 → Q 0 σ) ∧ (¬ x5 < 0 → vp_in x5 60 ∧ vp_in x4 10 ∧ ((x2 < ((aI σ 24 x5) + (aI σ 22 x4)) → Q 0 σ) ∧ (¬ x2 < ((aI σ 24 x5) + (aI σ 22 x4)) → Q 1 σ))))))) ∧ (¬ (σ.1 10) ≤ x6 → vp_in x6 60 ∧ ((¬ (aI σ 23 x6) = x1 → ∀ a1 : Int32, a1 = x6 + 1 → K112 (x5, a1)) ∧ ((aI σ 23 x6) = x1 → vp_in x6 60 ∧ ((x3 < (aI σ 25 x6) → ∀ a2 : Int32, a2 = x6 + 1 → K112 (x5, a2)) ∧ (¬ x3 < (aI σ 25 x6) → ((x5 < 0 → ∀ a3 : Int32, a3 = x6 + 1 → K112 (x6, a3)) ∧ (¬ x5 < 0 → vp_in x6 60 ∧ vp_in x5 60 ∧ (((aI σ 25 x6) < (aI σ 25 x5) → ∀ a4 : Int32, a4 = x6 + 1 → K112 (x5, a4)) ∧ (¬ (aI σ 25 x6) < (aI σ 25 x5) → ∀ a5 : Int32, a5 = x6 + 1 → K112 (x6, a5)))))))))))
def wm_X6_free_L54 (Q : Int32 → wS → Prop) (x1 : Int32) (x2 : Int32) (x3 : Int32) (σ : wS) (K54 : (Int32 × Int32) → Prop) (v : Int32 × Int32) : Prop :=
  match v with
  | (x4, x5) => (((σ.1 9) ≤ x5 → ∀ a1 : Int32, a1 = (-1) → ∃ n, wloop (wm_X6_free_L112 Q x1 x2 x3 x4 σ) n (a1, 0)) ∧ (¬ (σ.1 9) ≤ x5 → vp_in x5 10 ∧ ((x2 < (aI σ 21 x5) → ∀ a2 : Int32, a2 = x5 + 1 → K54 (x4, a2)) ∧ (¬ x2 < (aI σ 21 x5) → ((x4 < 0 → ∀ a3 : Int32, a3 = x5 + 1 → K54 (x5, a3)) ∧ (¬ x4 < 0 → vp_in x5 10 ∧ vp_in x4 10 ∧ (((aI σ 21 x5) < (aI σ 21 x4) → ∀ a4 : Int32, a4 = x5 + 1 → K54 (x4, a4)) ∧ (¬ (aI σ 21 x5) < (aI σ 21 x4) → ∀ a5 : Int32, a5 = x5 + 1 → K54 (x5, a5)))))))))
def wm_X6_free (Q : Int32 → wS → Prop) (x1 : Int32) (x2 : Int32) (x3 : Int32) (σ : wS) : Prop :=
  ∀ σ1 : wS, σ1 = sI σ 1 0 → ∀ σ2 : wS, σ2 = sI σ1 0 0 → wm_X6_isPlate (fun r3 => ((¬ r3 = 0 → ((x2 < 0 → wm_X6_refuse (fun r5 σ6 => Q r5 σ6) 2 σ2) ∧ (¬ x2 < 0 → ((200000 < x2 → wm_X6_refuse (fun r7 σ8 => Q r7 σ8) 2 σ2) ∧ (¬ 200000 < x2 → wm_X6_isDay (fun r9 => ((¬ r9 = 0 → ∀ a11 : Int32, a11 = (-1) → ∃ n, wloop (wm_X6_free_L54 Q x1 x2 x3 σ2) n (a11, 0)) ∧ (r9 = 0 → wm_X6_refuse (fun r12 σ13 => Q r12 σ13) 2 σ2))) x3))))) ∧ (r3 = 0 → wm_X6_refuse (fun r14 σ15 => Q r14 σ15) 1 σ2))) x1 σ2
