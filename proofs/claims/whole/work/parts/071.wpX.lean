def wx_X5_status (Q : Int32 → Prop) (σ : wS) : Prop :=
  Q (σ.1 3)
def wx_X5_refuse (Q : Int32 → wS → Prop) (x1 : Int32) (σ : wS) : Prop :=
  ∀ σ1 : wS, σ1 = sI σ 3 x1 → Q (-1) σ1
def wx_X5_answer (Q : Int32 → wS → Prop) (x1 : Int32) (σ : wS) : Prop :=
  ∀ σ1 : wS, σ1 = sI σ 3 0 → Q x1 σ1
def wx_X5_plate (Q : Int32 → wS → Prop) (σ : wS) : Prop :=
  (((σ.1 1) < 20 → ∀ σ1 : wS, σ1 = sI σ 1 ((σ.1 1) + 1) → wx_X5_answer (fun r2 σ3 => Q r2 σ3) ((σ1.1 1) - 1) σ1) ∧ (¬ (σ.1 1) < 20 → wx_X5_refuse (fun r4 σ5 => Q r4 σ5) 3 σ))
def wx_X5_motif (Q : Int32 → wS → Prop) (σ : wS) : Prop :=
  (((σ.1 2) < 16 → ∀ σ1 : wS, σ1 = sI σ 2 ((σ.1 2) + 1) → wx_X5_answer (fun r2 σ3 => Q r2 σ3) ((σ1.1 2) - 1) σ1) ∧ (¬ (σ.1 2) < 16 → wx_X5_refuse (fun r4 σ5 => Q r4 σ5) 3 σ))
def wx_X5_isPlate (Q : Int32 → Prop) (x1 : Int32) (σ : wS) : Prop :=
  ((x1 < 0 → Q 0) ∧ (¬ x1 < 0 → (((σ.1 1) ≤ x1 → Q 0) ∧ (¬ (σ.1 1) ≤ x1 → Q 1))))
def wx_X5_isMotif (Q : Int32 → Prop) (x1 : Int32) (σ : wS) : Prop :=
  ((x1 < 0 → Q 0) ∧ (¬ x1 < 0 → (((σ.1 2) ≤ x1 → Q 0) ∧ (¬ (σ.1 2) ≤ x1 → Q 1))))
def wx_X5_isWithin (Q : Int32 → Prop) (x0 : Int32) (x1 : Int32) (x2 : Int32) : Prop :=
  ((x0 < x1 → Q 0) ∧ (¬ x0 < x1 → ((x2 < x0 → Q 0) ∧ (¬ x2 < x0 → Q 1))))
def wx_X5_isDay (Q : Int32 → Prop) (x0 : Int32) : Prop :=
  wx_X5_isWithin (fun r1 => isB r1 ∧ Q r1) x0 0 9999
def wx_X5_whyNot (Q : Int32 → Prop) (x0 : Int32) (x1 : Int32) : Prop :=
  ((¬ x0 = 0 → ((x1 = 0 → Q 2) ∧ (¬ x1 = 0 → Q 0))) ∧ (x0 = 0 → Q 1))
def wx_X2_isFull (Q : Int32 → Prop) (σ : wS) : Prop :=
  (((σ.1 4) < 100 → Q 0) ∧ (¬ (σ.1 4) < 100 → Q 1))
def wx_X5_whyNoFact (Q : Int32 → Prop) (x1 : Int32) (x2 : Int32) (σ : wS) : Prop :=
  wx_X5_whyNot (fun r1 => ((¬ r1 = 0 → Q r1) ∧ (r1 = 0 → wx_X2_isFull (fun r3 => ((r3 = 0 → Q r1) ∧ (¬ r3 = 0 → Q 3))) σ))) x1 x2
def wx_X2_tell (Q : Int32 → wS → Prop) (x1 : Int32) (x2 : Int32) (σ : wS) : Prop :=
  wx_X2_isFull (fun r1 => ((r1 = 0 → vp_in (σ.1 4) 100 ∧ ∀ σ3 : wS, σ3 = sA σ 10 (σ.1 4) x1 → vp_in (σ3.1 4) 100 ∧ ∀ σ4 : wS, σ4 = sA σ3 11 (σ3.1 4) x2 → vp_in (σ4.1 4) 100 ∧ ∀ σ5 : wS, σ5 = sA σ4 12 (σ4.1 4) (-1) → ∀ σ6 : wS, σ6 = sI σ5 4 ((σ5.1 4) + 1) → Q ((σ6.1 4) - 1) σ6) ∧ (¬ r1 = 0 → Q (-1) σ))) σ
def wx_X5_platePoint (Q : Int32 → Prop) (x0 : Int32) : Prop :=
  Q (1 + x0)
def wx_X5_motifPoint (Q : Int32 → Prop) (x0 : Int32) (x1 : Int32) : Prop :=
  ((x1 = 0 → Q ((21 + (2 * x0)) + 0)) ∧ (¬ x1 = 0 → Q ((21 + (2 * x0)) + 1)))
def wx_X2_addLimit (Q : wS → Prop) (x1 : Int32) (x2 : Int32) (x3 : Int32) (σ : wS) : Prop :=
  ∀ a1 : Int32, a1 = ((σ.1 4) - 1) → ((a1 < 0 → Q σ) ∧ (¬ a1 < 0 → vp_in a1 100 ∧ (((aI σ 13 a1) < 2 → vp_in a1 100 ∧ ∀ a2 : Int32, a2 = ((2 * a1) + (aI σ 13 a1)) → vp_in a2 200 ∧ ∀ σ3 : wS, σ3 = sA σ 14 a2 x1 → vp_in a2 200 ∧ ∀ σ4 : wS, σ4 = sA σ3 15 a2 x2 → vp_in a2 200 ∧ ∀ σ5 : wS, σ5 = sA σ4 16 a2 x3 → vp_in a1 100 ∧ vp_in a1 100 ∧ ∀ σ6 : wS, σ6 = sA σ5 13 a1 ((aI σ5 13 a1) + 1) → Q σ6) ∧ (¬ (aI σ 13 a1) < 2 → Q σ))))
def wx_X5_shows_J22 (Q : Int32 → wS → Prop) (x1 : Int32) (x2 : Int32) (x3 : Int32) (s1 : Int32) (σ : wS) : Prop :=
  wx_X5_isDay (fun r1 => wx_X5_whyNoFact (fun r3 => ((r3 = 0 → wx_X2_tell (fun r5 σ6 => wx_X5_platePoint (fun r7 => wx_X5_motifPoint (fun r9 => wx_X2_addLimit (fun σ11 => wx_X5_motifPoint (fun r12 => wx_X5_platePoint (fun r14 => wx_X2_addLimit (fun σ16 => wx_X5_answer (fun r17 σ18 => Q r17 σ18) r5 σ16) r12 r14 0 σ11) x1) x2 1) r7 r9 0 σ6) x2 0) x1) 0 x3 σ) ∧ (¬ r3 = 0 → wx_X5_refuse (fun r19 σ20 => Q r19 σ20) r3 σ))) s1 r1 σ) x3
def wx_X5_shows_J21 (Q : Int32 → wS → Prop) (x1 : Int32) (x2 : Int32) (x3 : Int32) (σ : wS) : Prop :=
  wx_X5_shows_J22 Q x1 x2 x3 0 σ
def wx_X5_shows (Q : Int32 → wS → Prop) (x1 : Int32) (x2 : Int32) (x3 : Int32) (σ : wS) : Prop :=
  wx_X5_isPlate (fun r1 => ((r1 = 0 → wx_X5_shows_J21 Q x1 x2 x3 σ) ∧ (¬ r1 = 0 → wx_X5_isMotif (fun r3 => ((r3 = 0 → wx_X5_shows_J21 Q x1 x2 x3 σ) ∧ (¬ r3 = 0 → wx_X5_shows_J22 Q x1 x2 x3 1 σ))) x2 σ))) x1 σ
def wx_X5_areTwoPlates (Q : Int32 → Prop) (x1 : Int32) (x2 : Int32) (σ : wS) : Prop :=
  wx_X5_isPlate (fun r1 => ((r1 = 0 → Q 0) ∧ (¬ r1 = 0 → wx_X5_isPlate (fun r3 => ((r3 = 0 → Q 0) ∧ (¬ r3 = 0 → ((x1 = x2 → Q 0) ∧ (¬ x1 = x2 → Q 1))))) x2 σ))) x1 σ
def wx_X5_ahead_J31 (Q : Int32 → wS → Prop) (x1 : Int32) (x2 : Int32) (x3 : Int32) (x4 : Int32) (s1 : Int32) (s2 : Int32) (σ : wS) : Prop :=
  wx_X5_whyNoFact (fun r1 => ((r1 = 0 → wx_X2_tell (fun r3 σ4 => wx_X5_platePoint (fun r5 => wx_X5_platePoint (fun r7 => wx_X2_addLimit (fun σ9 => wx_X5_answer (fun r10 σ11 => Q r10 σ11) r3 σ9) r5 r7 (-x3) σ4) x1) x2) 1 x4 σ) ∧ (¬ r1 = 0 → wx_X5_refuse (fun r12 σ13 => Q r12 σ13) r1 σ))) s1 s2 σ
def wx_X5_ahead_J30 (Q : Int32 → wS → Prop) (x1 : Int32) (x2 : Int32) (x3 : Int32) (x4 : Int32) (s1 : Int32) (σ : wS) : Prop :=
  wx_X5_ahead_J31 Q x1 x2 x3 x4 s1 0 σ
def wx_X5_ahead (Q : Int32 → wS → Prop) (x1 : Int32) (x2 : Int32) (x3 : Int32) (x4 : Int32) (σ : wS) : Prop :=
  wx_X5_areTwoPlates (fun r1 => wx_X5_isWithin (fun r3 => ((r3 = 0 → wx_X5_ahead_J30 Q x1 x2 x3 x4 r1 σ) ∧ (¬ r3 = 0 → wx_X5_isDay (fun r5 => ((r5 = 0 → wx_X5_ahead_J30 Q x1 x2 x3 x4 r1 σ) ∧ (¬ r5 = 0 → wx_X5_ahead_J31 Q x1 x2 x3 x4 r1 1 σ))) x4))) x3 (-100000) 100000) x1 x2 σ
def wx_X5_same (Q : Int32 → wS → Prop) (x1 : Int32) (x2 : Int32) (x3 : Int32) (σ : wS) : Prop :=
  wx_X5_areTwoPlates (fun r1 => wx_X5_isDay (fun r3 => wx_X5_whyNoFact (fun r5 => ((r5 = 0 → wx_X2_tell (fun r7 σ8 => wx_X5_platePoint (fun r9 => wx_X5_platePoint (fun r11 => wx_X2_addLimit (fun σ13 => wx_X5_platePoint (fun r14 => wx_X5_platePoint (fun r16 => wx_X2_addLimit (fun σ18 => wx_X5_answer (fun r19 σ20 => Q r19 σ20) r7 σ18) r14 r16 0 σ13) x1) x2) r9 r11 0 σ8) x2) x1) 5 x3 σ) ∧ (¬ r5 = 0 → wx_X5_refuse (fun r21 σ22 => Q r21 σ22) r5 σ))) r1 r3 σ) x3) x1 x2 σ
def wx_X5_isTimeRange (Q : Int32 → Prop) (x0 : Int32) (x1 : Int32) : Prop :=
  ((x0 < 0 → Q 0) ∧ (¬ x0 < 0 → ((x1 < x0 → Q 0) ∧ (¬ x1 < x0 → ((100000 < x1 → Q 0) ∧ (¬ 100000 < x1 → Q 1))))))
def wx_X5_tellRange (Q : Int32 → wS → Prop) (x1 : Int32) (x2 : Int32) (x3 : Int32) (x4 : Int32) (x5 : Int32) (σ : wS) : Prop :=
  wx_X2_tell (fun r1 σ2 => wx_X2_addLimit (fun σ3 => wx_X2_addLimit (fun σ4 => wx_X5_answer (fun r5 σ6 => Q r5 σ6) r1 σ4) 0 x2 x4 σ3) x2 0 (-x3) σ2) x1 x5 σ
def wx_X5_taken_J27 (Q : Int32 → wS → Prop) (x1 : Int32) (x2 : Int32) (x3 : Int32) (x4 : Int32) (s1 : Int32) (s2 : Int32) (σ : wS) : Prop :=
  wx_X5_whyNoFact (fun r1 => ((r1 = 0 → wx_X5_platePoint (fun r3 => wx_X5_tellRange (fun r5 σ6 => Q r5 σ6) 2 r3 x2 x3 x4 σ) x1) ∧ (¬ r1 = 0 → wx_X5_refuse (fun r7 σ8 => Q r7 σ8) r1 σ))) s1 s2 σ
def wx_X5_taken_J26 (Q : Int32 → wS → Prop) (x1 : Int32) (x2 : Int32) (x3 : Int32) (x4 : Int32) (s1 : Int32) (σ : wS) : Prop :=
  wx_X5_taken_J27 Q x1 x2 x3 x4 s1 0 σ
def wx_X5_taken (Q : Int32 → wS → Prop) (x1 : Int32) (x2 : Int32) (x3 : Int32) (x4 : Int32) (σ : wS) : Prop :=
  wx_X5_isPlate (fun r1 => wx_X5_isTimeRange (fun r3 => ((r3 = 0 → wx_X5_taken_J26 Q x1 x2 x3 x4 r1 σ) ∧ (¬ r3 = 0 → wx_X5_isDay (fun r5 => ((r5 = 0 → wx_X5_taken_J26 Q x1 x2 x3 x4 r1 σ) ∧ (¬ r5 = 0 → wx_X5_taken_J27 Q x1 x2 x3 x4 r1 1 σ))) x4))) x2 x3) x1 σ
def wx_X5_stood_J55 (Q : Int32 → wS → Prop) (x1 : Int32) (x2 : Int32) (x3 : Int32) (x4 : Int32) (x5 : Int32) (s1 : Int32) (σ : wS) : Prop :=
  wx_X5_motifPoint (fun r1 => wx_X5_tellRange (fun r3 σ4 => Q r3 σ4) s1 r1 x3 x4 x5 σ) x1 x2
def wx_X5_stood_J28 (Q : Int32 → wS → Prop) (x1 : Int32) (x2 : Int32) (x3 : Int32) (x4 : Int32) (x5 : Int32) (s1 : Int32) (s2 : Int32) (σ : wS) : Prop :=
  wx_X5_whyNoFact (fun r1 => ((r1 = 0 → ((x2 = 0 → wx_X5_stood_J55 Q x1 x2 x3 x4 x5 3 σ) ∧ (¬ x2 = 0 → wx_X5_stood_J55 Q x1 x2 x3 x4 x5 4 σ))) ∧ (¬ r1 = 0 → wx_X5_refuse (fun r3 σ4 => Q r3 σ4) r1 σ))) s1 s2 σ
def wx_X5_stood_J27 (Q : Int32 → wS → Prop) (x1 : Int32) (x2 : Int32) (x3 : Int32) (x4 : Int32) (x5 : Int32) (s1 : Int32) (σ : wS) : Prop :=
  wx_X5_stood_J28 Q x1 x2 x3 x4 x5 s1 0 σ
def wx_X5_stood (Q : Int32 → wS → Prop) (x1 : Int32) (x2 : Int32) (x3 : Int32) (x4 : Int32) (x5 : Int32) (σ : wS) : Prop :=
  wx_X5_isMotif (fun r1 => wx_X5_isTimeRange (fun r3 => ((r3 = 0 → wx_X5_stood_J27 Q x1 x2 x3 x4 x5 r1 σ) ∧ (¬ r3 = 0 → wx_X5_isDay (fun r5 => ((r5 = 0 → wx_X5_stood_J27 Q x1 x2 x3 x4 x5 r1 σ) ∧ (¬ r5 = 0 → wx_X5_stood_J28 Q x1 x2 x3 x4 x5 r1 1 σ))) x5))) x3 x4) x1 σ
def wx_X2_has (Q : Int32 → Prop) (x1 : Int32) (σ : wS) : Prop :=
  ((x1 < 0 → Q 0) ∧ (¬ x1 < 0 → (((σ.1 4) ≤ x1 → Q 0) ∧ (¬ (σ.1 4) ≤ x1 → Q 1))))
def wx_X2_crossingDay (Q : Int32 → Prop) (x1 : Int32) (σ : wS) : Prop :=
  wx_X2_has (fun r1 => ((r1 = 0 → Q (-1)) ∧ (¬ r1 = 0 → vp_in x1 100 ∧ Q (aI σ 12 x1)))) x1 σ
def wx_X2_crossOut (Q : wS → Prop) (x1 : Int32) (x2 : Int32) (σ : wS) : Prop :=
  wx_X2_has (fun r1 => ((r1 = 0 → Q σ) ∧ (¬ r1 = 0 → vp_in x1 100 ∧ ∀ σ3 : wS, σ3 = sA σ 12 x1 x2 → Q σ3))) x1 σ
def wx_X5_cross_J34 (Q : Int32 → wS → Prop) (x1 : Int32) (x2 : Int32) (x3 : Int32) (σ : wS) : Prop :=
  ∀ σ1 : wS, σ1 = sI σ 3 x3 → ((x3 = 0 → wx_X2_crossOut (fun σ2 => Q 1 σ2) x1 x2 σ1) ∧ (¬ x3 = 0 → Q 0 σ1))
def wx_X5_cross (Q : Int32 → wS → Prop) (x1 : Int32) (x2 : Int32) (σ : wS) : Prop :=
  wx_X2_has (fun r1 => wx_X5_isDay (fun r3 => wx_X5_whyNot (fun r5 => ((¬ r5 = 0 → wx_X5_cross_J34 Q x1 x2 r5 σ) ∧ (r5 = 0 → wx_X2_crossingDay (fun r7 => ((r7 = (-1) → wx_X5_cross_J34 Q x1 x2 r5 σ) ∧ (¬ r7 = (-1) → wx_X5_cross_J34 Q x1 x2 4 σ))) x1 σ))) r1 r3) x2) x1 σ
def wx_X2_kindOf (Q : Int32 → Prop) (x1 : Int32) (σ : wS) : Prop :=
  wx_X2_has (fun r1 => ((r1 = 0 → Q (-1)) ∧ (¬ r1 = 0 → vp_in x1 100 ∧ Q (aI σ 10 x1)))) x1 σ
def wx_X2_tellingDay (Q : Int32 → Prop) (x1 : Int32) (σ : wS) : Prop :=
  wx_X2_has (fun r1 => ((r1 = 0 → Q (-1)) ∧ (¬ r1 = 0 → vp_in x1 100 ∧ Q (aI σ 11 x1)))) x1 σ
def wx_X2_limitsOf (Q : Int32 → Prop) (x1 : Int32) (σ : wS) : Prop :=
  wx_X2_has (fun r1 => ((r1 = 0 → Q 0) ∧ (¬ r1 = 0 → vp_in x1 100 ∧ Q (aI σ 13 x1)))) x1 σ
def wx_X5_fact (Q : Int32 → wS → Prop) (x1 : Int32) (x2 : Int32) (σ : wS) : Prop :=
  wx_X2_has (fun r1 => wx_X5_isWithin (fun r3 => wx_X5_whyNot (fun r5 => ((r5 = 0 → (x2 = 0 → wx_X2_kindOf (fun r7 => wx_X5_answer (fun r9 σ10 => Q r9 σ10) r7 σ) x1 σ) ∧ (x2 = 1 → wx_X2_tellingDay (fun r11 => wx_X5_answer (fun r13 σ14 => Q r13 σ14) r11 σ) x1 σ) ∧ (x2 = 2 → wx_X2_crossingDay (fun r15 => wx_X5_answer (fun r17 σ18 => Q r17 σ18) r15 σ) x1 σ) ∧ (¬ x2 = 0 → ¬ x2 = 1 → ¬ x2 = 2 → wx_X2_limitsOf (fun r19 => wx_X5_answer (fun r21 σ22 => Q r21 σ22) r19 σ) x1 σ)) ∧ (¬ r5 = 0 → wx_X5_refuse (fun r23 σ24 => Q r23 σ24) r5 σ))) r1 r3) x2 0 3) x1 σ
def wx_X2_size (Q : Int32 → Prop) (σ : wS) : Prop :=
  Q (σ.1 4)
def wx_X2_isKnown (Q : Int32 → Prop) (x1 : Int32) (x2 : Int32) (σ : wS) : Prop :=
  wx_X2_has (fun r1 => ((r1 = 0 → Q 0) ∧ (¬ r1 = 0 → vp_in x1 100 ∧ (((aI σ 11 x1) ≤ x2 → vp_in x1 100 ∧ (((aI σ 12 x1) = (-1) → Q 1) ∧ (¬ (aI σ 12 x1) = (-1) → vp_in x1 100 ∧ (((aI σ 12 x1) ≤ x2 → Q 0) ∧ (¬ (aI σ 12 x1) ≤ x2 → Q 1))))) ∧ (¬ (aI σ 11 x1) ≤ x2 → Q 0))))) x1 σ
def wx_X4_setLimit (Q : wS → Prop) (x1 : Int32) (x2 : Int32) (x3 : Int32) (x4 : Int32) (σ : wS) : Prop :=
  ((x1 < 0 → Q σ) ∧ (¬ x1 < 0 → ((x1 < 200 → vp_in x1 200 ∧ ∀ σ1 : wS, σ1 = sA σ 22 x1 x2 → vp_in x1 200 ∧ ∀ σ2 : wS, σ2 = sA σ1 23 x1 x3 → vp_in x1 200 ∧ ∀ σ3 : wS, σ3 = sA σ2 24 x1 x4 → Q σ3) ∧ (¬ x1 < 200 → Q σ))))
def wx_X2_copyLimits_L6 (Q : Int32 → wS → Prop) (x1 : Int32) (K6 : (Int32 × Int32 × wS) → Prop) (v : Int32 × Int32 × wS) : Prop :=
  match v with
  | (x4, x5, σ) => wx_X2_limitsOf (fun r1 => ((r1 ≤ x5 → Q x4 σ) ∧ (¬ r1 ≤ x5 → ∀ a3 : Int32, a3 = ((2 * x1) + x5) → vp_in a3 200 ∧ vp_in a3 200 ∧ vp_in a3 200 ∧ wx_X4_setLimit (fun σ4 => ∀ a5 : Int32, a5 = x4 + 1 → ∀ a6 : Int32, a6 = x5 + 1 → K6 (a5, a6, σ4)) x4 (aI σ 14 a3) (aI σ 15 a3) (aI σ 16 a3) σ))) x1 σ
def wx_X2_copyLimits (Q : Int32 → wS → Prop) (x1 : Int32) (x3 : Int32) (σ : wS) : Prop :=
  ∃ n, wloop (wx_X2_copyLimits_L6 Q x1) n (x3, 0, σ)
def wx_X4_gather_L8 (Q : wS → Prop) (x2 : Int32) (x3 : Int32) (K8 : (Int32 × wS) → Prop) (v : Int32 × wS) : Prop :=
  match v with
  | (x4, σ) => wx_X2_size (fun r1 => ((r1 ≤ x4 → Q σ) ∧ (¬ r1 ≤ x4 → ((x4 = x3 → ∀ a3 : Int32, a3 = x4 + 1 → K8 (a3, σ)) ∧ (¬ x4 = x3 → wx_X2_isKnown (fun r4 => ((r4 = 0 → ∀ a6 : Int32, a6 = x4 + 1 → K8 (a6, σ)) ∧ (¬ r4 = 0 → wx_X2_copyLimits (fun r7 σ8 => ∀ σ9 : wS, σ9 = sI σ8 7 r7 → ∀ a10 : Int32, a10 = x4 + 1 → K8 (a10, σ9)) x4 (σ.1 7) σ))) x4 x2 σ))))) σ
def wx_X4_gather (Q : wS → Prop) (x2 : Int32) (x3 : Int32) (σ : wS) : Prop :=
  ∀ σ1 : wS, σ1 = sI σ 7 0 → ∃ n, wloop (wx_X4_gather_L8 Q x2 x3) n (0, σ1)
def wx_J7_fill_53178_ways_L5 (Q : wS → Prop) (x1 : Int32) (x3 : Int32) (K5 : (Int32 × wS) → Prop) (v : Int32 × wS) : Prop :=
  match v with
  | (x2, σ) => ((x3 ≤ x2 → Q σ) ∧ (¬ x3 ≤ x2 → vp_in x2 53 ∧ ∀ σ1 : wS, σ1 = sA σ 25 x2 x1 → ∀ a2 : Int32, a2 = x2 + 1 → K5 (a2, σ1)))
def wx_J7_fill_53178_ways (Q : wS → Prop) (x1 : Int32) (σ : wS) : Prop :=
  ∃ n, wloop (wx_J7_fill_53178_ways_L5 Q x1 53) n (0, σ)
def wx_X4_followRange_L41 (Q : wS → Prop) (x1 : Int32) (K41 : (Int32 × wS) → Prop) (v : Int32 × wS) : Prop :=
  match v with
  | (x2, σ) => ((53 ≤ x2 → Q σ) ∧ (¬ 53 ≤ x2 → vp_in x2 53 ∧ ∀ m1 : Int32, m1 = mn (aI σ 25 x2) (x1 + 100000) → vp_in x2 53 ∧ ∀ σ2 : wS, σ2 = sA σ 25 x2 m1 → ∀ a3 : Int32, a3 = x2 + 1 → K41 (a3, σ2)))
def wx_X4_followRange_L9 (Q : wS → Prop) (σ : wS) (K9 : (Int32 × Int32) → Prop) (v : Int32 × Int32) : Prop :=
  match v with
  | (x1, x2) => ((53 ≤ x2 → vp_in 0 53 ∧ ∀ σ1 : wS, σ1 = sA σ 25 0 x1 → ∃ n, wloop (wx_X4_followRange_L41 Q x1) n (0, σ1)) ∧ (¬ 53 ≤ x2 → vp_in x2 53 ∧ ∀ m2 : Int32, m2 = mn x1 (aI σ 25 x2) → ∀ a3 : Int32, a3 = x2 + 1 → K9 (m2, a3)))
def wx_X4_followRange (Q : wS → Prop) (σ : wS) : Prop :=
  vp_in 0 53 ∧ ∀ a1 : Int32, a1 = (aI σ 25 0) → ∃ n, wloop (wx_X4_followRange_L9 Q σ) n (a1, 0)
def wx_X4_followBounds_L3 (Q : wS → Prop) (x1 : Int32) (K3 : (Int32 × wS) → Prop) (v : Int32 × wS) : Prop :=
  match v with
  | (x2, σ) => ((52 ≤ x2 → ((¬ x1 = 0 → Q σ) ∧ (x1 = 0 → wx_X4_followRange (fun σ1 => Q σ1) σ))) ∧ (¬ 52 ≤ x2 → vp_in x2 53 ∧ vp_in (x2 + 1) 53 ∧ ∀ m2 : Int32, m2 = mn (aI σ 25 x2) (aI σ 25 (x2 + 1)) → vp_in x2 53 ∧ ∀ σ3 : wS, σ3 = sA σ 25 x2 m2 → ∀ a4 : Int32, a4 = x2 + 2 → K3 (a4, σ3)))
def wx_X4_followBounds (Q : wS → Prop) (x1 : Int32) (σ : wS) : Prop :=
  ∃ n, wloop (wx_X4_followBounds_L3 Q x1) n (21, σ)
def wx_X4_startAt (Q : wS → Prop) (x1 : Int32) (x2 : Int32) (σ : wS) : Prop :=
  wx_J7_fill_53178_ways (fun σ1 => vp_in x1 53 ∧ ∀ σ2 : wS, σ2 = sA σ1 25 x1 0 → wx_X4_followBounds (fun σ3 => Q σ3) x2 σ2) 536870912 σ
def wx_X4_followLimits_ways_L5 (Q : Int32 → wS → Prop) (x2 : Int32) (K5 : (Int32 × Int32 × wS) → Prop) (v : Int32 × Int32 × wS) : Prop :=
  match v with
  | (x3, x4, σ) => (((σ.1 7) ≤ x4 → isB x3 ∧ Q x3 σ) ∧ (¬ (σ.1 7) ≤ x4 → vp_in x4 200 ∧ ∀ a1 : Int32, a1 = (aI σ 22 x4) → vp_in x4 200 ∧ ∀ a2 : Int32, a2 = (aI σ 23 x4) → ((a1 < x2 → ∀ a3 : Int32, a3 = x4 + 1 → K5 (x3, a3, σ)) ∧ (¬ a1 < x2 → ((a2 < x2 → ∀ a4 : Int32, a4 = x4 + 1 → K5 (x3, a4, σ)) ∧ (¬ a2 < x2 → vp_in a1 53 ∧ (((aI σ 25 a1) < 536870912 → vp_in a1 53 ∧ vp_in x4 200 ∧ ∀ a5 : Int32, a5 = ((aI σ 25 a1) + (aI σ 24 x4)) → vp_in a2 53 ∧ (((aI σ 25 a2) ≤ a5 → ∀ a6 : Int32, a6 = x4 + 1 → K5 (x3, a6, σ)) ∧ (¬ (aI σ 25 a2) ≤ a5 → vp_in a2 53 ∧ ∀ σ7 : wS, σ7 = sA σ 25 a2 a5 → ∀ a8 : Int32, a8 = x4 + 1 → K5 (1, a8, σ7)))) ∧ (¬ (aI σ 25 a1) < 536870912 → ∀ a9 : Int32, a9 = x4 + 1 → K5 (x3, a9, σ)))))))))
def wx_X4_followLimits_ways (Q : Int32 → wS → Prop) (x2 : Int32) (σ : wS) : Prop :=
  ∃ n, wloop (wx_X4_followLimits_ways_L5 Q x2) n (0, 0, σ)
def wx_X4_measureFrom_L20 (Q : Int32 → wS → Prop) (x1 : Int32) (K20 : (Int32 × wS) → Prop) (v : Int32 × wS) : Prop :=
  match v with
  | (x2, σ) => ((53 < x2 → Q 0 σ) ∧ (¬ 53 < x2 → wx_X4_followLimits_ways (fun r1 σ2 => ((¬ r1 = 0 → wx_X4_followBounds (fun σ3 => vp_in x1 53 ∧ ((0 ≤ (aI σ3 25 x1) → ∀ a4 : Int32, a4 = x2 + 1 → K20 (a4, σ3)) ∧ (¬ 0 ≤ (aI σ3 25 x1) → Q 0 σ3))) 0 σ2) ∧ (r1 = 0 → Q 1 σ2))) 0 σ))
def wx_X4_measureFrom (Q : Int32 → wS → Prop) (x1 : Int32) (σ : wS) : Prop :=
  ((x1 < 0 → Q 0 σ) ∧ (¬ x1 < 0 → ((x1 < 53 → wx_X4_startAt (fun σ1 => ∃ n, wloop (wx_X4_measureFrom_L20 Q x1) n (0, σ1)) x1 0 σ) ∧ (¬ x1 < 53 → Q 0 σ))))
def wx_X4_wayTo (Q : Int32 → Prop) (x1 : Int32) (σ : wS) : Prop :=
  ((x1 < 0 → Q 536870912) ∧ (¬ x1 < 0 → ((53 ≤ x1 → Q 536870912) ∧ (¬ 53 ≤ x1 → vp_in x1 53 ∧ Q (aI σ 25 x1)))))
def wx_X5_endOfSpan_J26 (Q : Int32 → wS → Prop) (x1 : Int32) (x2 : Int32) (s1 : Int32) (σ : wS) : Prop :=
  wx_X4_measureFrom (fun r1 σ2 => ((¬ r1 = 0 → ((x2 = 0 → wx_X4_wayTo (fun r3 => wx_X5_answer (fun r5 σ6 => Q r5 σ6) (-r3) σ2) 0 σ2) ∧ (¬ x2 = 0 → wx_X4_wayTo (fun r7 => wx_X5_answer (fun r9 σ10 => Q r9 σ10) r7 σ2) x1 σ2))) ∧ (r1 = 0 → wx_X5_refuse (fun r11 σ12 => Q r11 σ12) 5 σ2))) s1 σ
def wx_X5_endOfSpan (Q : Int32 → wS → Prop) (x1 : Int32) (x2 : Int32) (x3 : Int32) (σ : wS) : Prop :=
  wx_X4_gather (fun σ1 => ((x2 = 0 → wx_X5_endOfSpan_J26 Q x1 x2 x1 σ1) ∧ (¬ x2 = 0 → wx_X5_endOfSpan_J26 Q x1 x2 0 σ1))) x3 (-1) σ
def wx_X5_span (Q : Int32 → wS → Prop) (x1 : Int32) (x2 : Int32) (x3 : Int32) (σ : wS) : Prop :=
  wx_X5_isPlate (fun r1 => wx_X5_isDay (fun r3 => wx_X5_whyNot (fun r5 => ((r5 = 0 → wx_X5_platePoint (fun r7 => wx_X5_endOfSpan (fun r9 σ10 => Q r9 σ10) r7 x2 x3 σ) x1) ∧ (¬ r5 = 0 → wx_X5_refuse (fun r11 σ12 => Q r11 σ12) r5 σ))) r1 r3) x3) x1 σ
def wx_X5_times (Q : Int32 → wS → Prop) (x1 : Int32) (x2 : Int32) (x3 : Int32) (x4 : Int32) (σ : wS) : Prop :=
  wx_X5_isMotif (fun r1 => wx_X5_isDay (fun r3 => wx_X5_whyNot (fun r5 => ((r5 = 0 → wx_X5_motifPoint (fun r7 => wx_X5_endOfSpan (fun r9 σ10 => Q r9 σ10) r7 x3 x4 σ) x1 x2) ∧ (¬ r5 = 0 → wx_X5_refuse (fun r11 σ12 => Q r11 σ12) r5 σ))) r1 r3) x4) x1 σ
def wx_X4_followLimits_earlier_L5 (Q : Int32 → wS → Prop) (x2 : Int32) (K5 : (Int32 × Int32 × wS) → Prop) (v : Int32 × Int32 × wS) : Prop :=
  match v with
  | (x3, x4, σ) => (((σ.1 7) ≤ x4 → isB x3 ∧ Q x3 σ) ∧ (¬ (σ.1 7) ≤ x4 → vp_in x4 200 ∧ ∀ a1 : Int32, a1 = (aI σ 22 x4) → vp_in x4 200 ∧ ∀ a2 : Int32, a2 = (aI σ 23 x4) → ((a1 < x2 → ∀ a3 : Int32, a3 = x4 + 1 → K5 (x3, a3, σ)) ∧ (¬ a1 < x2 → ((a2 < x2 → ∀ a4 : Int32, a4 = x4 + 1 → K5 (x3, a4, σ)) ∧ (¬ a2 < x2 → vp_in a1 53 ∧ (((aI σ 26 a1) < 536870912 → vp_in a1 53 ∧ vp_in x4 200 ∧ ∀ a5 : Int32, a5 = ((aI σ 26 a1) + (aI σ 24 x4)) → vp_in a2 53 ∧ (((aI σ 25 a2) ≤ a5 → ∀ a6 : Int32, a6 = x4 + 1 → K5 (x3, a6, σ)) ∧ (¬ (aI σ 25 a2) ≤ a5 → vp_in a2 53 ∧ ∀ σ7 : wS, σ7 = sA σ 25 a2 a5 → ∀ a8 : Int32, a8 = x4 + 1 → K5 (1, a8, σ7)))) ∧ (¬ (aI σ 26 a1) < 536870912 → ∀ a9 : Int32, a9 = x4 + 1 → K5 (x3, a9, σ)))))))))
def wx_X4_followLimits_earlier (Q : Int32 → wS → Prop) (x2 : Int32) (σ : wS) : Prop :=
  ∃ n, wloop (wx_X4_followLimits_earlier_L5 Q x2) n (0, 0, σ)
def wx_X4_fewerLimitsThrough_L20 (Q : Int32 → wS → Prop) (x1 : Int32) (x2 : Int32) (x3 : Int32) (K20 : (Int32 × wS) → Prop) (v : Int32 × wS) : Prop :=
  match v with
  | (x4, σ) => ((x3 < x4 → Q x2 σ) ∧ (¬ x3 < x4 → ∀ σ1 : wS, σ1 = sAF σ 26 (va_cpy (σ.2.2.1 25) (σ.2.2.1 26) 0 0 53) → wx_X4_followLimits_earlier (fun r2 σ3 => ((¬ r2 = 0 → wx_X4_followBounds (fun σ4 => vp_in x1 53 ∧ ((0 ≤ (aI σ4 25 x1) → ∀ a5 : Int32, a5 = x4 + 1 → K20 (a5, σ4)) ∧ (¬ 0 ≤ (aI σ4 25 x1) → Q x4 σ4))) x1 σ3) ∧ (r2 = 0 → Q x2 σ3))) x1 σ1))
def wx_X4_fewerLimitsThrough (Q : Int32 → wS → Prop) (x1 : Int32) (x2 : Int32) (σ : wS) : Prop :=
  wx_X4_startAt (fun σ1 => ∀ m2 : Int32, m2 = mn (x2 - 1) (53 - x1) → ∃ n, wloop (wx_X4_fewerLimitsThrough_L20 Q x1 x2 m2) n (1, σ1)) x1 x1 σ
def wx_X4_fewestLimits_L5 (Q : Int32 → wS → Prop) (K5 : (Int32 × Int32 × wS) → Prop) (v : Int32 × Int32 × wS) : Prop :=
  match v with
  | (x1, x2, σ) => ((21 ≤ x2 → Q x1 σ) ∧ (¬ 21 ≤ x2 → wx_X4_fewerLimitsThrough (fun r1 σ2 => ∀ a3 : Int32, a3 = x2 + 1 → K5 (r1, a3, σ2)) x2 x1 σ))
def wx_X4_fewestLimits (Q : Int32 → wS → Prop) (σ : wS) : Prop :=
  ∃ n, wloop (wx_X4_fewestLimits_L5 Q) n (54, 0, σ)
def wx_X5_quarrel (Q : Int32 → wS → Prop) (x1 : Int32) (σ : wS) : Prop :=
  wx_X5_isDay (fun r1 => ((¬ r1 = 0 → wx_X4_gather (fun σ3 => wx_X4_measureFrom (fun r4 σ5 => ((r4 = 0 → wx_X4_fewestLimits (fun r6 σ7 => wx_X5_answer (fun r8 σ9 => Q r8 σ9) r6 σ7) σ5) ∧ (¬ r4 = 0 → wx_X5_refuse (fun r10 σ11 => Q r10 σ11) 6 σ5))) 0 σ3) x1 (-1) σ) ∧ (r1 = 0 → wx_X5_refuse (fun r12 σ13 => Q r12 σ13) 2 σ))) x1
def wx_X5_frees (Q : Int32 → wS → Prop) (x1 : Int32) (x2 : Int32) (σ : wS) : Prop :=
  wx_X2_has (fun r1 => wx_X5_isDay (fun r3 => wx_X5_whyNot (fun r5 => ((r5 = 0 → wx_X4_gather (fun σ7 => wx_X4_measureFrom (fun r8 σ9 => ((r8 = 0 → wx_X2_isKnown (fun r10 => ((¬ r10 = 0 → wx_X4_gather (fun σ12 => wx_X4_measureFrom (fun r13 σ14 => ((r13 = 0 → wx_X5_answer (fun r15 σ16 => Q r15 σ16) 0 σ14) ∧ (¬ r13 = 0 → wx_X5_answer (fun r17 σ18 => Q r17 σ18) 1 σ14))) 0 σ12) x2 x1 σ9) ∧ (r10 = 0 → wx_X5_refuse (fun r19 σ20 => Q r19 σ20) 8 σ9))) x1 x2 σ9) ∧ (¬ r8 = 0 → wx_X5_refuse (fun r21 σ22 => Q r21 σ22) 6 σ9))) 0 σ7) x2 (-1) σ) ∧ (¬ r5 = 0 → wx_X5_refuse (fun r23 σ24 => Q r23 σ24) r5 σ))) r1 r3) x2) x1 σ
def wx_X5_order_J113 (Q : Int32 → wS → Prop) (s0 : Int32) (σ : wS) : Prop :=
  ((s0 = 0 → wx_X5_answer (fun r1 σ2 => Q r1 σ2) 0 σ) ∧ (¬ s0 = 0 → wx_X5_answer (fun r3 σ4 => Q r3 σ4) 1 σ))
def wx_X5_order_J112 (Q : Int32 → wS → Prop) (σ : wS) : Prop :=
  wx_X5_order_J113 Q 0 σ
def wx_X5_order (Q : Int32 → wS → Prop) (x1 : Int32) (x2 : Int32) (x3 : Int32) (σ : wS) : Prop :=
  wx_X5_areTwoPlates (fun r1 => wx_X5_isDay (fun r3 => wx_X5_whyNot (fun r5 => ((r5 = 0 → wx_X4_gather (fun σ7 => wx_X5_platePoint (fun r8 => wx_X4_measureFrom (fun r10 σ11 => ((¬ r10 = 0 → wx_X5_platePoint (fun r12 => wx_X4_wayTo (fun r14 => ((0 ≤ r14 → wx_X5_platePoint (fun r16 => wx_X4_measureFrom (fun r18 σ19 => ((r18 = 0 → wx_X5_order_J112 Q σ19) ∧ (¬ r18 = 0 → wx_X5_platePoint (fun r20 => wx_X4_wayTo (fun r22 => ((r22 ≤ 0 → wx_X5_order_J112 Q σ19) ∧ (¬ r22 ≤ 0 → wx_X5_order_J113 Q 1 σ19))) r20 σ19) x2))) r16 σ11) x1) ∧ (¬ 0 ≤ r14 → wx_X5_answer (fun r24 σ25 => Q r24 σ25) 2 σ11))) r12 σ11) x1) ∧ (r10 = 0 → wx_X5_refuse (fun r26 σ27 => Q r26 σ27) 5 σ11))) r8 σ7) x2) x3 (-1) σ) ∧ (¬ r5 = 0 → wx_X5_refuse (fun r28 σ29 => Q r28 σ29) r5 σ))) r1 r3) x3) x1 x2 σ
def wx_X1_fits (Q : Int32 → Prop) (x0 : Int32) (x1 : Int32) : Prop :=
  ((x0 = 0 → Q 0) ∧ (¬ x0 = 0 → ((¬ x0 = x1 → Q 0) ∧ (x0 = x1 → Q 1))))
def wx_X1_compare_J91 (Q : wS → Prop) (K25 : (Int32 × wS) → Prop) (x1 : Int32) (x2 : Int32) (x3 : Int32) (σ : wS) : Prop :=
  vp_in x1 20 ∧ vp_in x2 20 ∧ wx_X1_fits (fun r1 => ((r1 = 0 → ∀ a3 : Int32, a3 = x2 + 1 → K25 (a3, σ)) ∧ (¬ r1 = 0 → vp_in x1 20 ∧ vp_in x1 20 ∧ ∀ σ4 : wS, σ4 = sA σ 9 x1 ((aI σ 9 x1) ||| x3) → ∀ a5 : Int32, a5 = x2 + 1 → K25 (a5, σ4)))) (aI σ 6 x1) (aI σ 5 x2)
def wx_X1_compare_J63 (Q : wS → Prop) (K25 : (Int32 × wS) → Prop) (x1 : Int32) (x2 : Int32) (x3 : Int32) (σ : wS) : Prop :=
  vp_in x1 20 ∧ vp_in x2 20 ∧ wx_X1_fits (fun r1 => ((r1 = 0 → wx_X1_compare_J91 Q K25 x1 x2 x3 σ) ∧ (¬ r1 = 0 → vp_in x1 20 ∧ vp_in x1 20 ∧ ∀ σ3 : wS, σ3 = sA σ 8 x1 ((aI σ 8 x1) ||| x3) → wx_X1_compare_J91 Q K25 x1 x2 x3 σ3))) (aI σ 5 x1) (aI σ 6 x2)
def wx_X1_compare_L25 (Q : wS → Prop) (x1 : Int32) (K25 : (Int32 × wS) → Prop) (v : Int32 × wS) : Prop :=
  match v with
  | (x2, σ) => ((20 ≤ x2 → Q σ) ∧ (¬ 20 ≤ x2 → ∀ a1 : Int32, a1 = ((1 : Int32) <<< (x2 &&& 31)) → vp_in x1 20 ∧ vp_in x2 20 ∧ wx_X1_fits (fun r2 => ((r2 = 0 → wx_X1_compare_J63 Q K25 x1 x2 a1 σ) ∧ (¬ r2 = 0 → vp_in x1 20 ∧ vp_in x1 20 ∧ ∀ σ4 : wS, σ4 = sA σ 7 x1 ((aI σ 7 x1) ||| a1) → wx_X1_compare_J63 Q K25 x1 x2 a1 σ4))) (aI σ 5 x1) (aI σ 5 x2)))
def wx_X1_compare (Q : wS → Prop) (x1 : Int32) (σ : wS) : Prop :=
  vp_in x1 20 ∧ ∀ σ1 : wS, σ1 = sA σ 7 x1 ((1 : Int32) <<< (x1 &&& 31)) → vp_in x1 20 ∧ ∀ σ2 : wS, σ2 = sA σ1 8 x1 0 → vp_in x1 20 ∧ ∀ σ3 : wS, σ3 = sA σ2 9 x1 0 → ∃ n, wloop (wx_X1_compare_L25 Q x1) n (0, σ3)
def wx_X1_setEdges_L28 (Q : wS → Prop) (K28 : (Int32 × wS) → Prop) (v : Int32 × wS) : Prop :=
  match v with
  | (x4, σ) => ((20 ≤ x4 → Q σ) ∧ (¬ 20 ≤ x4 → wx_X1_compare (fun σ1 => ∀ a2 : Int32, a2 = x4 + 1 → K28 (a2, σ1)) x4 σ))
def wx_X1_setEdges (Q : wS → Prop) (x1 : Int32) (x2 : Int32) (x3 : Int32) (σ : wS) : Prop :=
  ((x1 < 0 → Q σ) ∧ (¬ x1 < 0 → ((x1 < 20 → vp_in x1 20 ∧ ∀ σ1 : wS, σ1 = sA σ 5 x1 x2 → vp_in x1 20 ∧ ∀ σ2 : wS, σ2 = sA σ1 6 x1 x3 → ∃ n, wloop (wx_X1_setEdges_L28 Q) n (0, σ2)) ∧ (¬ x1 < 20 → Q σ))))
def wx_X5_edges_J25 (Q : Int32 → wS → Prop) (x1 : Int32) (x2 : Int32) (x3 : Int32) (s0 : Int32) (σ : wS) : Prop :=
  wx_X5_isPlate (fun r1 => wx_X5_whyNot (fun r3 => ∀ σ5 : wS, σ5 = sI σ 3 r3 → (((σ5.1 3) = 0 → wx_X1_setEdges (fun σ6 => Q 1 σ6) x1 x2 x3 σ5) ∧ (¬ (σ5.1 3) = 0 → Q 0 σ5))) r1 s0) x1 σ
def wx_X5_edges_J24 (Q : Int32 → wS → Prop) (x1 : Int32) (x2 : Int32) (x3 : Int32) (σ : wS) : Prop :=
  wx_X5_edges_J25 Q x1 x2 x3 0 σ
def wx_X5_edges (Q : Int32 → wS → Prop) (x1 : Int32) (x2 : Int32) (x3 : Int32) (σ : wS) : Prop :=
  wx_X5_isWithin (fun r1 => ((r1 = 0 → wx_X5_edges_J24 Q x1 x2 x3 σ) ∧ (¬ r1 = 0 → wx_X5_isWithin (fun r3 => ((r3 = 0 → wx_X5_edges_J24 Q x1 x2 x3 σ) ∧ (¬ r3 = 0 → wx_X5_edges_J25 Q x1 x2 x3 1 σ))) x3 0 99))) x2 0 99
def wx_X5_isSet (Q : Int32 → Prop) (x1 : Int32) (σ : wS) : Prop :=
  ∀ a1 : Int32, a1 = (((1 : Int32) <<< ((σ.1 1) &&& 31)) - 1) → ((¬ (x1 &&& (a1 ^^^ (-1))) = 0 → Q 0) ∧ ((x1 &&& (a1 ^^^ (-1))) = 0 → Q 1))
def wx_X1_holds (Q : Int32 → Prop) (x0 : Int32) (x1 : Int32) : Prop :=
  (((x0 &&& ((1 : Int32) <<< (x1 &&& 31))) = 0 → Q 0) ∧ (¬ (x0 &&& ((1 : Int32) <<< (x1 &&& 31))) = 0 → Q 1))
def wx_X1_partOf_L19 (Q : Int32 → Prop) (K7 : (Int32 × Int32) → Prop) (x1 : Int32) (x2 : Int32) (x3 : Int32) (σ : wS) (K19 : (Int32 × Int32) → Prop) (v : Int32 × Int32) : Prop :=
  match v with
  | (x4, x5) => ((20 ≤ x5 → ((¬ x4 = x2 → ∀ a1 : Int32, a1 = x3 + 1 → K7 (x4, a1)) ∧ (x4 = x2 → Q x2))) ∧ (¬ 20 ≤ x5 → wx_X1_holds (fun r2 => ((r2 = 0 → ∀ a4 : Int32, a4 = x5 + 1 → K19 (x4, a4)) ∧ (¬ r2 = 0 → vp_in x5 20 ∧ vp_in x5 20 ∧ ∀ a5 : Int32, a5 = (x4 ||| (((aI σ 8 x5) ||| (aI σ 9 x5)) &&& x1)) → ∀ a6 : Int32, a6 = x5 + 1 → K19 (a5, a6)))) x4 x5))
def wx_X1_partOf_L7 (Q : Int32 → Prop) (x1 : Int32) (σ : wS) (K7 : (Int32 × Int32) → Prop) (v : Int32 × Int32) : Prop :=
  match v with
  | (x2, x3) => ((20 ≤ x3 → Q x2) ∧ (¬ 20 ≤ x3 → ∃ n, wloop (wx_X1_partOf_L19 Q K7 x1 x2 x3 σ) n (x2, 0)))
def wx_X1_partOf (Q : Int32 → Prop) (x1 : Int32) (σ : wS) : Prop :=
  ∀ a1 : Int32, a1 = (x1 &&& (-x1)) → ∃ n, wloop (wx_X1_partOf_L7 Q x1 σ) n (a1, 0)
def wx_J6_bitCount_0f7a4 (Q : Int32 → Prop) (x0 : Int32) : Prop :=
  ∀ a1 : Int32, a1 = (x0 - (((x0.toUInt32 >>> (Int32.toUInt32 1 &&& Int32.toUInt32 31)).toInt32) &&& 1431655765)) → ∀ a2 : Int32, a2 = ((a1 &&& 858993459) + (((a1.toUInt32 >>> (Int32.toUInt32 2 &&& Int32.toUInt32 31)).toInt32) &&& 858993459)) → ∀ a3 : Int32, a3 = ((a2 + ((a2.toUInt32 >>> (Int32.toUInt32 4 &&& Int32.toUInt32 31)).toInt32)) &&& 252645135) → ∀ a4 : Int32, a4 = (a3 + ((a3.toUInt32 >>> (Int32.toUInt32 8 &&& Int32.toUInt32 31)).toInt32)) → ∀ a5 : Int32, a5 = (a4 + ((a4.toUInt32 >>> (Int32.toUInt32 16 &&& Int32.toUInt32 31)).toInt32)) → Q (a5 &&& 63)
def wx_X1_missingLeftOf (Q : Int32 → Prop) (x1 : Int32) (x2 : Int32) (σ : wS) : Prop :=
  vp_in x1 20 ∧ wx_J6_bitCount_0f7a4 (fun r1 => vp_in x1 20 ∧ wx_J6_bitCount_0f7a4 (fun r3 => ∀ m5 : Int32, m5 = mx 0 (r1 - r3) → Q m5) ((aI σ 8 x1) &&& x2)) ((aI σ 7 x1) &&& x2)
def wx_X1_startsIn_L4 (Q : Int32 → Prop) (x1 : Int32) (σ : wS) (K4 : (Int32 × Int32) → Prop) (v : Int32 × Int32) : Prop :=
  match v with
  | (x2, x3) => ((20 ≤ x3 → Q x2) ∧ (¬ 20 ≤ x3 → ∀ a1 : Int32, a1 = (((1 : Int32) <<< (x3 &&& 31)) - 1) → wx_X1_holds (fun r2 => ((r2 = 0 → ∀ a4 : Int32, a4 = x3 + 1 → K4 (x2, a4)) ∧ (¬ r2 = 0 → vp_in x3 20 ∧ ((¬ (((aI σ 7 x3) &&& x1) &&& a1) = 0 → ∀ a5 : Int32, a5 = x3 + 1 → K4 (x2, a5)) ∧ ((((aI σ 7 x3) &&& x1) &&& a1) = 0 → wx_X1_missingLeftOf (fun r6 => ∀ a8 : Int32, a8 = (x2 + r6) → ∀ a9 : Int32, a9 = x3 + 1 → K4 (a8, a9)) x3 x1 σ))))) x1 x3))
def wx_X1_startsIn (Q : Int32 → Prop) (x1 : Int32) (σ : wS) : Prop :=
  ∃ n, wloop (wx_X1_startsIn_L4 Q x1 σ) n (0, 0)
def wx_X1_fewestRows_L7 (Q : Int32 → Prop) (σ : wS) (K7 : (Int32 × Int32 × Int32) → Prop) (v : Int32 × Int32 × Int32) : Prop :=
  match v with
  | (x2, x3, x4) => ((20 ≤ x4 → Q x3) ∧ (¬ 20 ≤ x4 → ((x2 = 0 → Q x3) ∧ (¬ x2 = 0 → wx_X1_partOf (fun r1 => wx_X1_startsIn (fun r3 => ∀ m5 : Int32, m5 = mx 1 r3 → ∀ a6 : Int32, a6 = (x3 + m5) → ∀ a7 : Int32, a7 = (x2 &&& (r1 ^^^ (-1))) → ∀ a8 : Int32, a8 = x4 + 1 → K7 (a7, a6, a8)) r1 σ) x2 σ))))
def wx_X1_fewestRows (Q : Int32 → Prop) (x1 : Int32) (σ : wS) : Prop :=
  ∃ n, wloop (wx_X1_fewestRows_L7 Q σ) n (x1, 0, 0)
def wx_X5_whyNoRow (Q : Int32 → Prop) (x1 : Int32) (σ : wS) : Prop :=
  ((x1 = 0 → Q 2) ∧ (¬ x1 = 0 → wx_X5_isSet (fun r1 => ((¬ r1 = 0 → wx_X1_fewestRows (fun r3 => ((¬ r3 = 1 → Q 7) ∧ (r3 = 1 → Q 0))) x1 σ) ∧ (r1 = 0 → Q 2))) x1 σ))
def wx_X1_firstPlaces_L14 (Q : Int32 → Prop) (x1 : Int32) (σ : wS) (K14 : (Int32 × Int32) → Prop) (v : Int32 × Int32) : Prop :=
  match v with
  | (x2, x3) => ((20 ≤ x3 → Q x2) ∧ (¬ 20 ≤ x3 → wx_X1_holds (fun r1 => ((r1 = 0 → ∀ a3 : Int32, a3 = x3 + 1 → K14 (x2, a3)) ∧ (¬ r1 = 0 → wx_X1_missingLeftOf (fun r4 => ((r4 ≤ 0 → ∀ a6 : Int32, a6 = x3 + 1 → K14 (x2, a6)) ∧ (¬ r4 ≤ 0 → ∀ a7 : Int32, a7 = (x2 ||| ((1 : Int32) <<< (x3 &&& 31))) → ∀ a8 : Int32, a8 = x3 + 1 → K14 (a7, a8)))) x3 x1 σ))) x1 x3))
def wx_X1_firstPlaces (Q : Int32 → Prop) (x1 : Int32) (σ : wS) : Prop :=
  wx_X1_startsIn (fun r1 => ((¬ r1 = 0 → ∃ n, wloop (wx_X1_firstPlaces_L14 Q x1 σ) n (0, 0)) ∧ (r1 = 0 → Q x1))) x1 σ
def wx_X1_goesOn (Q : Int32 → Prop) (x1 : Int32) (x2 : Int32) (σ : wS) : Prop :=
  ((x2 = 0 → Q 1) ∧ (¬ x2 = 0 → vp_in x1 20 ∧ ((((aI σ 9 x1) &&& x2) = 0 → Q 0) ∧ (¬ ((aI σ 9 x1) &&& x2) = 0 → wx_X1_partOf (fun r1 => ((¬ r1 = x2 → Q 0) ∧ (r1 = x2 → Q 1))) x2 σ))))
def wx_X1_leastThatGoesOn_L2 (Q : Int32 → Prop) (x1 : Int32) (x2 : Int32) (σ : wS) (K2 : Int32 → Prop) (x3 : Int32) : Prop :=
  ((20 ≤ x3 → Q (-1)) ∧ (¬ 20 ≤ x3 → wx_X1_holds (fun r1 => ((r1 = 0 → ∀ a3 : Int32, a3 = x3 + 1 → K2 a3) ∧ (¬ r1 = 0 → wx_X1_goesOn (fun r4 => ((r4 = 0 → ∀ a6 : Int32, a6 = x3 + 1 → K2 a6) ∧ (¬ r4 = 0 → Q x3))) x3 (x2 &&& (((1 : Int32) <<< (x3 &&& 31)) ^^^ (-1))) σ))) x1 x3))
def wx_X1_leastThatGoesOn (Q : Int32 → Prop) (x1 : Int32) (x2 : Int32) (σ : wS) : Prop :=
  ∃ n, wloop (wx_X1_leastThatGoesOn_L2 Q x1 x2 σ) n 0
def wx_X1_writeFirstRow_outRow_L12 (Q : Int32 → wS → Prop) (K12 : (Int32 × Int32 × Int32 × wS) → Prop) (v : Int32 × Int32 × Int32 × wS) : Prop :=
  match v with
  | (x3, x4, x5, σ) => ((20 ≤ x5 → Q x5 σ) ∧ (¬ 20 ≤ x5 → ((x3 = 0 → Q x5 σ) ∧ (¬ x3 = 0 → wx_X1_leastThatGoesOn (fun r1 => ((¬ r1 = (-1) → vp_in x5 20 ∧ ∀ σ3 : wS, σ3 = sA σ 0 x5 r1 → ∀ a4 : Int32, a4 = x5 + 1 → ∀ a5 : Int32, a5 = (x3 &&& (((1 : Int32) <<< (r1 &&& 31)) ^^^ (-1))) → vp_in r1 20 ∧ ∀ a6 : Int32, a6 = (aI σ3 9 r1) → K12 (a5, a6, a4, σ3)) ∧ (r1 = (-1) → Q x5 σ))) (x4 &&& x3) x3 σ))))
def wx_X1_writeFirstRow_outRow (Q : Int32 → wS → Prop) (x1 : Int32) (σ : wS) : Prop :=
  wx_X1_firstPlaces (fun r1 => ∃ n, wloop (wx_X1_writeFirstRow_outRow_L12 Q) n (x1, r1, 0, σ)) x1 σ
def wx_X5_row (Q : Int32 → wS → Prop) (x1 : Int32) (σ : wS) : Prop :=
  wx_X5_whyNoRow (fun r1 => ((r1 = 0 → wx_X1_writeFirstRow_outRow (fun r3 σ4 => ∀ σ5 : wS, σ5 = sI σ4 0 r3 → wx_X5_answer (fun r6 σ7 => Q r6 σ7) (σ5.1 0) σ5) x1 σ) ∧ (¬ r1 = 0 → wx_X5_refuse (fun r8 σ9 => Q r8 σ9) r1 σ))) x1 σ
def wx_X5_ring (Q : Int32 → wS → Prop) (x1 : Int32) (σ : wS) : Prop :=
  wx_X5_whyNoRow (fun r1 => ((r1 = 0 → wx_X1_startsIn (fun r3 => ((¬ r3 = 0 → wx_X5_answer (fun r5 σ6 => Q r5 σ6) 0 σ) ∧ (r3 = 0 → wx_X5_answer (fun r7 σ8 => Q r7 σ8) 1 σ))) x1 σ) ∧ (¬ r1 = 0 → wx_X5_refuse (fun r9 σ10 => Q r9 σ10) r1 σ))) x1 σ
def wx_X5_rows (Q : Int32 → wS → Prop) (x1 : Int32) (σ : wS) : Prop :=
  wx_X5_isSet (fun r1 => ((¬ r1 = 0 → wx_X1_fewestRows (fun r3 => wx_X5_answer (fun r5 σ6 => Q r5 σ6) r3 σ) x1 σ) ∧ (r1 = 0 → wx_X5_refuse (fun r7 σ8 => Q r7 σ8) 2 σ))) x1 σ
def wx_X5_out (Q : Int32 → Prop) (x1 : Int32) (σ : wS) : Prop :=
  ((x1 < 0 → Q (-1)) ∧ (¬ x1 < 0 → (((σ.1 0) ≤ x1 → Q (-1)) ∧ (¬ (σ.1 0) ≤ x1 → ((x1 < 20 → vp_in x1 20 ∧ Q (aI σ 0 x1)) ∧ (¬ x1 < 20 → Q (-1)))))))
def wx_X0_setWish (Q : wS → Prop) (x1 : Int32) (x2 : Int32) (x3 : Int32) (x4 : Int32) (σ : wS) : Prop :=
  ((x1 < 0 → Q σ) ∧ (¬ x1 < 0 → ((x1 < 20 → vp_in x1 20 ∧ ∀ σ1 : wS, σ1 = sA σ 1 x1 x2 → vp_in x1 20 ∧ ∀ σ2 : wS, σ2 = sA σ1 2 x1 x3 → vp_in x1 20 ∧ ∀ σ3 : wS, σ3 = sA σ2 3 x1 x4 → Q σ3) ∧ (¬ x1 < 20 → Q σ))))
def wx_X5_want_J37 (Q : Int32 → wS → Prop) (x1 : Int32) (x2 : Int32) (x3 : Int32) (x4 : Int32) (s0 : Int32) (σ : wS) : Prop :=
  wx_X5_isPlate (fun r1 => wx_X5_whyNot (fun r3 => ∀ σ5 : wS, σ5 = sI σ 3 r3 → (((σ5.1 3) = 0 → wx_X0_setWish (fun σ6 => Q 1 σ6) x1 x2 x3 x4 σ5) ∧ (¬ (σ5.1 3) = 0 → Q 0 σ5))) r1 s0) x1 σ
def wx_X5_want_J36 (Q : Int32 → wS → Prop) (x1 : Int32) (x2 : Int32) (x3 : Int32) (x4 : Int32) (σ : wS) : Prop :=
  wx_X5_want_J37 Q x1 x2 x3 x4 0 σ
def wx_X5_want (Q : Int32 → wS → Prop) (x1 : Int32) (x2 : Int32) (x3 : Int32) (x4 : Int32) (σ : wS) : Prop :=
  wx_X5_isWithin (fun r1 => ((r1 = 0 → wx_X5_want_J36 Q x1 x2 x3 x4 σ) ∧ (¬ r1 = 0 → wx_X5_isWithin (fun r3 => ((r3 = 0 → wx_X5_want_J36 Q x1 x2 x3 x4 σ) ∧ (¬ r3 = 0 → wx_X5_isWithin (fun r5 => ((r5 = 0 → wx_X5_want_J36 Q x1 x2 x3 x4 σ) ∧ (¬ r5 = 0 → wx_X5_want_J37 Q x1 x2 x3 x4 1 σ))) x4 1 500))) x3 1 50))) x2 0 99
def wx_X0_sortTurns_J55 (Q : wS → Prop) (K2 : (Int32 × wS) → Prop) (x1 : Int32) (x2 : Int32) (x3 : Int32) (σ : wS) : Prop :=
  vp_in x3 20 ∧ ∀ σ1 : wS, σ1 = sA σ 4 x3 x2 → ∀ a2 : Int32, a2 = x2 + 1 → K2 (a2, σ1)
def wx_X0_sortTurns_L9 (Q : wS → Prop) (K2 : (Int32 × wS) → Prop) (x1 : Int32) (x2 : Int32) (K9 : (Int32 × wS) → Prop) (v : Int32 × wS) : Prop :=
  match v with
  | (x3, σ) => ((x3 ≤ 0 → wx_X0_sortTurns_J55 Q K2 x1 x2 x3 σ) ∧ (¬ x3 ≤ 0 → vp_in (x3 - 1) 20 ∧ vp_in (aI σ 4 (x3 - 1)) 20 ∧ vp_in x2 20 ∧ (((aI σ 3 (aI σ 4 (x3 - 1))) ≤ (aI σ 3 x2) → wx_X0_sortTurns_J55 Q K2 x1 x2 x3 σ) ∧ (¬ (aI σ 3 (aI σ 4 (x3 - 1))) ≤ (aI σ 3 x2) → vp_in (x3 - 1) 20 ∧ vp_in x3 20 ∧ ∀ σ1 : wS, σ1 = sA σ 4 x3 (aI σ 4 (x3 - 1)) → ∀ a2 : Int32, a2 = x3 + (-1) → K9 (a2, σ1)))))
def wx_X0_sortTurns_L2 (Q : wS → Prop) (x1 : Int32) (K2 : (Int32 × wS) → Prop) (v : Int32 × wS) : Prop :=
  match v with
  | (x2, σ) => ((x1 ≤ x2 → Q σ) ∧ (¬ x1 ≤ x2 → ∃ n, wloop (wx_X0_sortTurns_L9 Q K2 x1 x2) n (x2, σ)))
def wx_X0_sortTurns (Q : wS → Prop) (x1 : Int32) (σ : wS) : Prop :=
  ∃ n, wloop (wx_X0_sortTurns_L2 Q x1) n (0, σ)
def wx_J7_fill_d0a16_worths_L6 (Q : wS → Prop) (x1 : Int64) (x4 : Int32) (K6 : (Int32 × wS) → Prop) (v : Int32 × wS) : Prop :=
  match v with
  | (x3, σ) => ((x4 ≤ x3 → Q σ) ∧ (¬ x4 ≤ x3 → vp_in x3 501 ∧ ∀ σ1 : wS, σ1 = sB σ 0 x3 x1 → ∀ a2 : Int32, a2 = x3 + 1 → K6 (a2, σ1)))
def wx_J7_fill_d0a16_worths (Q : wS → Prop) (x1 : Int64) (σ : wS) : Prop :=
  ∃ n, wloop (wx_J7_fill_d0a16_worths_L6 Q x1 501) n (0, σ)
def wx_X0_bitOf (Q : Int64 → Prop) (x0 : Int32) : Prop :=
  Q ((1 : Int64) <<< (Int32.toInt64 (19 - x0) &&& 63))
def wx_X0_worthOf (Q : Int64 → Prop) (x1 : Int32) (σ : wS) : Prop :=
  vp_in x1 20 ∧ wx_X0_bitOf (fun r1 => Q (((Int32.toInt64 (aI σ 1 x1)) <<< (Int32.toInt64 20 &&& 63)) + r1)) x1
def wx_X0_offer_L8 (Q : wS → Prop) (x1 : Int32) (K8 : (Int32 × wS) → Prop) (v : Int32 × wS) : Prop :=
  match v with
  | (x3, σ) => vp_in x1 20 ∧ ((x3 < (aI σ 2 x1) → Q σ) ∧ (¬ x3 < (aI σ 2 x1) → vp_in x1 20 ∧ vp_in (x3 - (aI σ 2 x1)) 501 ∧ ∀ a1 : Int64, a1 = (aL σ 0 (x3 - (aI σ 2 x1))) → ((a1 = (-1) → ∀ a2 : Int32, a2 = x3 + (-1) → K8 (a2, σ)) ∧ (¬ a1 = (-1) → vp_in x3 501 ∧ wx_X0_worthOf (fun r3 => ∀ m5 : Int64, m5 = mxL (aL σ 0 x3) (a1 + r3) → vp_in x3 501 ∧ ∀ σ6 : wS, σ6 = sB σ 0 x3 m5 → ∀ a7 : Int32, a7 = x3 + (-1) → K8 (a7, σ6)) x1 σ))))
def wx_X0_offer (Q : wS → Prop) (x1 : Int32) (x2 : Int32) (σ : wS) : Prop :=
  ∀ m1 : Int32, m1 = mn x2 500 → ∃ n, wloop (wx_X0_offer_L8 Q x1) n (m1, σ)
def wx_X0_choose_L90 (Q : wS → Prop) (K90 : (Int32 × wS) → Prop) (v : Int32 × wS) : Prop :=
  match v with
  | (x4, σ) => ((500 < x4 → Q σ) ∧ (¬ 500 < x4 → vp_in x4 501 ∧ ∀ m1 : Int64, m1 = mxL (σ.2.1 0) (aL σ 0 x4) → ∀ σ2 : wS, σ2 = sL σ 0 m1 → ∀ a3 : Int32, a3 = x4 + 1 → K90 (a3, σ2)))
def wx_X0_choose_L34 (Q : wS → Prop) (x2 : Int32) (K34 : (Int32 × Int32 × wS) → Prop) (v : Int32 × Int32 × wS) : Prop :=
  match v with
  | (x3, x4, σ) => ((x2 ≤ x4 → ∀ σ1 : wS, σ1 = sL σ 0 0 → ∃ n, wloop (wx_X0_choose_L90 Q) n (0, σ1)) ∧ (¬ x2 ≤ x4 → vp_in x4 20 ∧ ∀ a2 : Int32, a2 = (aI σ 4 x4) → vp_in a2 20 ∧ ∀ a3 : Int32, a3 = (x3 + (aI σ 2 a2)) → vp_in a2 20 ∧ ∀ m4 : Int32, m4 = mn a3 (aI σ 3 a2) → wx_X0_offer (fun σ5 => ∀ a6 : Int32, a6 = x4 + 1 → K34 (a3, a6, σ5)) a2 m4 σ))
def wx_X0_choose (Q : wS → Prop) (x1 : Int32) (σ : wS) : Prop :=
  ∀ m1 : Int32, m1 = mn x1 20 → wx_X0_sortTurns (fun σ2 => wx_J7_fill_d0a16_worths (fun σ3 => vp_in 0 501 ∧ ∀ σ4 : wS, σ4 = sB σ3 0 0 0 → ∃ n, wloop (wx_X0_choose_L34 Q m1) n (0, 0, σ4)) (-1) σ2) m1 σ
def wx_X0_wantedTogether (Q : Int32 → Prop) (σ : wS) : Prop :=
  Q (Int64.toInt32 ((σ.2.1 0) >>> (Int32.toInt64 20 &&& 63)))
def wx_X5_best (Q : Int32 → wS → Prop) (σ : wS) : Prop :=
  wx_X0_choose (fun σ1 => wx_X0_wantedTogether (fun r2 => wx_X5_answer (fun r4 σ5 => Q r4 σ5) r2 σ1) σ1) (σ.1 1) σ
def wx_X0_isChosen (Q : Int32 → Prop) (x1 : Int32) (σ : wS) : Prop :=
  ((x1 < 0 → Q 0) ∧ (¬ x1 < 0 → ((20 ≤ x1 → Q 0) ∧ (¬ 20 ≤ x1 → wx_X0_bitOf (fun r1 => ((((σ.2.1 0) &&& r1) = 0 → Q 0) ∧ (¬ ((σ.2.1 0) &&& r1) = 0 → Q 1))) x1))))
def wx_X0_beginningOf_L5 (Q : Int32 → Prop) (x1 : Int32) (x2 : Int32) (σ : wS) (K5 : (Int32 × Int32) → Prop) (v : Int32 × Int32) : Prop :=
  match v with
  | (x3, x4) => ((x2 ≤ x4 → Q x3) ∧ (¬ x2 ≤ x4 → ((20 ≤ x4 → Q x3) ∧ (¬ 20 ≤ x4 → vp_in x4 20 ∧ ∀ a1 : Int32, a1 = (aI σ 4 x4) → ((¬ a1 = x1 → wx_X0_isChosen (fun r2 => ((r2 = 0 → ∀ a4 : Int32, a4 = x4 + 1 → K5 (x3, a4)) ∧ (¬ r2 = 0 → vp_in a1 20 ∧ ∀ a5 : Int32, a5 = (x3 + (aI σ 2 a1)) → ∀ a6 : Int32, a6 = x4 + 1 → K5 (a5, a6)))) a1 σ) ∧ (a1 = x1 → Q x3))))))
def wx_X0_beginningOf (Q : Int32 → Prop) (x1 : Int32) (x2 : Int32) (σ : wS) : Prop :=
  ∃ n, wloop (wx_X0_beginningOf_L5 Q x1 x2 σ) n (0, 0)
def wx_X5_hour (Q : Int32 → wS → Prop) (x1 : Int32) (σ : wS) : Prop :=
  wx_X5_isPlate (fun r1 => ((¬ r1 = 0 → wx_X0_choose (fun σ3 => wx_X0_isChosen (fun r4 => ((¬ r4 = 0 → wx_X0_beginningOf (fun r6 => wx_X5_answer (fun r8 σ9 => Q r8 σ9) r6 σ3) x1 (σ3.1 1) σ3) ∧ (r4 = 0 → wx_X5_refuse (fun r10 σ11 => Q r10 σ11) 8 σ3))) x1 σ3) (σ.1 1) σ) ∧ (r1 = 0 → wx_X5_refuse (fun r12 σ13 => Q r12 σ13) 1 σ))) x1 σ
def wx_X3_hasAllLaws (Q : Int32 → Prop) (σ : wS) : Prop :=
  (((σ.1 5) < 10 → Q 0) ∧ (¬ (σ.1 5) < 10 → Q 1))
def wx_X3_addLaw (Q : wS → Prop) (x1 : Int32) (x2 : Int32) (σ : wS) : Prop :=
  wx_X3_hasAllLaws (fun r1 => ((r1 = 0 → vp_in (σ.1 5) 10 ∧ ∀ σ3 : wS, σ3 = sA σ 17 (σ.1 5) x1 → vp_in (σ3.1 5) 10 ∧ ∀ σ4 : wS, σ4 = sA σ3 18 (σ3.1 5) x2 → ∀ σ5 : wS, σ5 = sI σ4 5 ((σ4.1 5) + 1) → Q σ5) ∧ (¬ r1 = 0 → Q σ))) σ
def wx_X5_law_J46 (Q : Int32 → wS → Prop) (x1 : Int32) (x2 : Int32) (x3 : Int32) (σ : wS) : Prop :=
  ∀ σ1 : wS, σ1 = sI σ 3 x3 → ((x3 = 0 → wx_X3_addLaw (fun σ2 => Q 1 σ2) x1 x2 σ1) ∧ (¬ x3 = 0 → Q 0 σ1))
def wx_X5_law_J26 (Q : Int32 → wS → Prop) (x1 : Int32) (x2 : Int32) (s0 : Int32) (s1 : Int32) (σ : wS) : Prop :=
  wx_X5_whyNot (fun r1 => ((¬ r1 = 0 → wx_X5_law_J46 Q x1 x2 r1 σ) ∧ (r1 = 0 → wx_X3_hasAllLaws (fun r3 => ((r3 = 0 → wx_X5_law_J46 Q x1 x2 r1 σ) ∧ (¬ r3 = 0 → wx_X5_law_J46 Q x1 x2 3 σ))) σ))) s0 s1
def wx_X5_law_J25 (Q : Int32 → wS → Prop) (x1 : Int32) (x2 : Int32) (s0 : Int32) (σ : wS) : Prop :=
  wx_X5_law_J26 Q x1 x2 s0 0 σ
def wx_X5_law (Q : Int32 → wS → Prop) (x1 : Int32) (x2 : Int32) (σ : wS) : Prop :=
  wx_X5_isWithin (fun r1 => ((r1 = 0 → wx_X5_law_J25 Q x1 x2 1 σ) ∧ (¬ r1 = 0 → wx_X5_isWithin (fun r3 => ((r3 = 0 → wx_X5_law_J25 Q x1 x2 1 σ) ∧ (¬ r3 = 0 → wx_X5_law_J26 Q x1 x2 1 1 σ))) x2 0 50000))) x1 0 100000
def wx_X3_hasAllDeaths (Q : Int32 → Prop) (σ : wS) : Prop :=
  (((σ.1 6) < 60 → Q 0) ∧ (¬ (σ.1 6) < 60 → Q 1))
def wx_X3_addDeath (Q : wS → Prop) (x1 : Int32) (x2 : Int32) (x3 : Int32) (σ : wS) : Prop :=
  wx_X3_hasAllDeaths (fun r1 => ((r1 = 0 → vp_in (σ.1 6) 60 ∧ ∀ σ3 : wS, σ3 = sA σ 19 (σ.1 6) x1 → vp_in (σ3.1 6) 60 ∧ ∀ σ4 : wS, σ4 = sA σ3 20 (σ3.1 6) x2 → vp_in (σ4.1 6) 60 ∧ ∀ σ5 : wS, σ5 = sA σ4 21 (σ4.1 6) x3 → ∀ σ6 : wS, σ6 = sI σ5 6 ((σ5.1 6) + 1) → Q σ6) ∧ (¬ r1 = 0 → Q σ))) σ
def wx_X5_death_J50 (Q : Int32 → wS → Prop) (x1 : Int32) (x2 : Int32) (x3 : Int32) (x4 : Int32) (σ : wS) : Prop :=
  ∀ σ1 : wS, σ1 = sI σ 3 x4 → ((x4 = 0 → wx_X3_addDeath (fun σ2 => Q 1 σ2) x1 x2 x3 σ1) ∧ (¬ x4 = 0 → Q 0 σ1))
def wx_X5_death_J27 (Q : Int32 → wS → Prop) (x1 : Int32) (x2 : Int32) (x3 : Int32) (s0 : Int32) (s1 : Int32) (σ : wS) : Prop :=
  wx_X5_whyNot (fun r1 => ((¬ r1 = 0 → wx_X5_death_J50 Q x1 x2 x3 r1 σ) ∧ (r1 = 0 → wx_X3_hasAllDeaths (fun r3 => ((r3 = 0 → wx_X5_death_J50 Q x1 x2 x3 r1 σ) ∧ (¬ r3 = 0 → wx_X5_death_J50 Q x1 x2 x3 3 σ))) σ))) s0 s1
def wx_X5_death_J26 (Q : Int32 → wS → Prop) (x1 : Int32) (x2 : Int32) (x3 : Int32) (s0 : Int32) (σ : wS) : Prop :=
  wx_X5_death_J27 Q x1 x2 x3 s0 0 σ
def wx_X5_death (Q : Int32 → wS → Prop) (x1 : Int32) (x2 : Int32) (x3 : Int32) (σ : wS) : Prop :=
  wx_X5_isPlate (fun r1 => wx_X5_isWithin (fun r3 => ((r3 = 0 → wx_X5_death_J26 Q x1 x2 x3 r1 σ) ∧ (¬ r3 = 0 → wx_X5_isDay (fun r5 => ((r5 = 0 → wx_X5_death_J26 Q x1 x2 x3 r1 σ) ∧ (¬ r5 = 0 → wx_X5_death_J27 Q x1 x2 x3 r1 1 σ))) x3))) x2 0 100000) x1 σ
def wx_X3_lawInForce_L4 (Q : Int32 → Prop) (x1 : Int32) (σ : wS) (K4 : (Int32 × Int32) → Prop) (v : Int32 × Int32) : Prop :=
  match v with
  | (x2, x3) => (((σ.1 5) ≤ x3 → Q x2) ∧ (¬ (σ.1 5) ≤ x3 → vp_in x3 10 ∧ ((x1 < (aI σ 17 x3) → ∀ a1 : Int32, a1 = x3 + 1 → K4 (x2, a1)) ∧ (¬ x1 < (aI σ 17 x3) → ((x2 = (-1) → ∀ a2 : Int32, a2 = x3 + 1 → K4 (x3, a2)) ∧ (¬ x2 = (-1) → vp_in x3 10 ∧ vp_in x2 10 ∧ (((aI σ 17 x3) < (aI σ 17 x2) → ∀ a3 : Int32, a3 = x3 + 1 → K4 (x2, a3)) ∧ (¬ (aI σ 17 x3) < (aI σ 17 x2) → ∀ a4 : Int32, a4 = x3 + 1 → K4 (x3, a4)))))))))
def wx_X3_lawInForce (Q : Int32 → Prop) (x1 : Int32) (σ : wS) : Prop :=
  ∀ a1 : Int32, a1 = (-1) → ∃ n, wloop (wx_X3_lawInForce_L4 Q x1 σ) n (a1, 0)
def wx_X3_deathKnown_J41 (Q : Int32 → Prop) (K5 : (Int32 × Int32) → Prop) (x1 : Int32) (x2 : Int32) (x3 : Int32) (x4 : Int32) (s0 : Int32) (σ : wS) : Prop :=
  ((s0 = 0 → ∀ a1 : Int32, a1 = x4 + 1 → K5 (x3, a1)) ∧ (¬ s0 = 0 → ((x3 = (-1) → ∀ a2 : Int32, a2 = x4 + 1 → K5 (x4, a2)) ∧ (¬ x3 = (-1) → vp_in x4 60 ∧ vp_in x3 60 ∧ (((aI σ 21 x4) < (aI σ 21 x3) → ∀ a3 : Int32, a3 = x4 + 1 → K5 (x3, a3)) ∧ (¬ (aI σ 21 x4) < (aI σ 21 x3) → ∀ a4 : Int32, a4 = x4 + 1 → K5 (x4, a4)))))))
def wx_X3_deathKnown_J40 (Q : Int32 → Prop) (K5 : (Int32 × Int32) → Prop) (x1 : Int32) (x2 : Int32) (x3 : Int32) (x4 : Int32) (σ : wS) : Prop :=
  wx_X3_deathKnown_J41 Q K5 x1 x2 x3 x4 0 σ
def wx_X3_deathKnown_L5 (Q : Int32 → Prop) (x1 : Int32) (x2 : Int32) (σ : wS) (K5 : (Int32 × Int32) → Prop) (v : Int32 × Int32) : Prop :=
  match v with
  | (x3, x4) => (((σ.1 6) ≤ x4 → Q x3) ∧ (¬ (σ.1 6) ≤ x4 → vp_in x4 60 ∧ ((¬ (aI σ 19 x4) = x1 → wx_X3_deathKnown_J40 Q K5 x1 x2 x3 x4 σ) ∧ ((aI σ 19 x4) = x1 → vp_in x4 60 ∧ ((x2 < (aI σ 21 x4) → wx_X3_deathKnown_J40 Q K5 x1 x2 x3 x4 σ) ∧ (¬ x2 < (aI σ 21 x4) → wx_X3_deathKnown_J41 Q K5 x1 x2 x3 x4 1 σ))))))
def wx_X3_deathKnown (Q : Int32 → Prop) (x1 : Int32) (x2 : Int32) (σ : wS) : Prop :=
  ∀ a1 : Int32, a1 = (-1) → ∃ n, wloop (wx_X3_deathKnown_L5 Q x1 x2 σ) n (a1, 0)
def wx_X3_isFreeOn (Q : Int32 → Prop) (x1 : Int32) (x2 : Int32) (x3 : Int32) (σ : wS) : Prop :=
  wx_X3_lawInForce (fun r1 => wx_X3_deathKnown (fun r3 => ((r1 = (-1) → Q 0) ∧ (¬ r1 = (-1) → ((¬ r3 = (-1) → vp_in r3 60 ∧ vp_in r1 10 ∧ ((x2 < ((aI σ 20 r3) + (aI σ 18 r1)) → Q 0) ∧ (¬ x2 < ((aI σ 20 r3) + (aI σ 18 r1)) → Q 1))) ∧ (r3 = (-1) → Q 0))))) x1 x3 σ) x2 σ
def wx_X5_free_J27 (Q : Int32 → wS → Prop) (x1 : Int32) (x2 : Int32) (x3 : Int32) (s0 : Int32) (s1 : Int32) (σ : wS) : Prop :=
  wx_X5_whyNot (fun r1 => ((r1 = 0 → wx_X3_isFreeOn (fun r3 => ((r3 = 0 → wx_X5_answer (fun r5 σ6 => Q r5 σ6) 0 σ) ∧ (¬ r3 = 0 → wx_X5_answer (fun r7 σ8 => Q r7 σ8) 1 σ))) x1 x2 x3 σ) ∧ (¬ r1 = 0 → wx_X5_refuse (fun r9 σ10 => Q r9 σ10) r1 σ))) s0 s1
def wx_X5_free_J26 (Q : Int32 → wS → Prop) (x1 : Int32) (x2 : Int32) (x3 : Int32) (s0 : Int32) (σ : wS) : Prop :=
  wx_X5_free_J27 Q x1 x2 x3 s0 0 σ
def wx_X5_free (Q : Int32 → wS → Prop) (x1 : Int32) (x2 : Int32) (x3 : Int32) (σ : wS) : Prop :=
  wx_X5_isPlate (fun r1 => wx_X5_isWithin (fun r3 => ((r3 = 0 → wx_X5_free_J26 Q x1 x2 x3 r1 σ) ∧ (¬ r3 = 0 → wx_X5_isDay (fun r5 => ((r5 = 0 → wx_X5_free_J26 Q x1 x2 x3 r1 σ) ∧ (¬ r5 = 0 → wx_X5_free_J27 Q x1 x2 x3 r1 1 σ))) x3))) x2 0 200000) x1 σ
