def we_X1_fits (Q : Int32 → Prop) (x0 : Int32) (x1 : Int32) : Prop :=
  ((x0 = 0 → Q 0) ∧ (¬ x0 = 0 → ((¬ x0 = x1 → Q 0) ∧ (x0 = x1 → Q 1))))
def we_X1_compare_J91 (Q : wS → Prop) (K25 : (Int32 × wS) → Prop) (x1 : Int32) (x2 : Int32) (x3 : Int32) (σ : wS) : Prop :=
  vp_in x1 20 ∧ vp_in x2 20 ∧ we_X1_fits (fun r1 => ((r1 = 0 → ∀ a3 : Int32, a3 = x2 + 1 → K25 (a3, σ)) ∧ (¬ r1 = 0 → vp_in x1 20 ∧ vp_in x1 20 ∧ ∀ σ4 : wS, σ4 = sA σ 9 x1 ((aI σ 9 x1) ||| x3) → ∀ a5 : Int32, a5 = x2 + 1 → K25 (a5, σ4)))) (aI σ 6 x1) (aI σ 5 x2)
def we_X1_compare_J63 (Q : wS → Prop) (K25 : (Int32 × wS) → Prop) (x1 : Int32) (x2 : Int32) (x3 : Int32) (σ : wS) : Prop :=
  vp_in x1 20 ∧ vp_in x2 20 ∧ we_X1_fits (fun r1 => ((r1 = 0 → we_X1_compare_J91 Q K25 x1 x2 x3 σ) ∧ (¬ r1 = 0 → vp_in x1 20 ∧ vp_in x1 20 ∧ ∀ σ3 : wS, σ3 = sA σ 8 x1 ((aI σ 8 x1) ||| x3) → we_X1_compare_J91 Q K25 x1 x2 x3 σ3))) (aI σ 5 x1) (aI σ 6 x2)
def we_X1_compare_L25 (Q : wS → Prop) (x1 : Int32) (K25 : (Int32 × wS) → Prop) (v : Int32 × wS) : Prop :=
  match v with
  | (x2, σ) => ((20 ≤ x2 → Q σ) ∧ (¬ 20 ≤ x2 → ∀ a1 : Int32, a1 = ((1 : Int32) <<< (x2 &&& 31)) → vp_in x1 20 ∧ vp_in x2 20 ∧ we_X1_fits (fun r2 => ((r2 = 0 → we_X1_compare_J63 Q K25 x1 x2 a1 σ) ∧ (¬ r2 = 0 → vp_in x1 20 ∧ vp_in x1 20 ∧ ∀ σ4 : wS, σ4 = sA σ 7 x1 ((aI σ 7 x1) ||| a1) → we_X1_compare_J63 Q K25 x1 x2 a1 σ4))) (aI σ 5 x1) (aI σ 5 x2)))
def we_X1_compare (Q : wS → Prop) (x1 : Int32) (σ : wS) : Prop :=
  vp_in x1 20 ∧ ∀ σ1 : wS, σ1 = sA σ 7 x1 ((1 : Int32) <<< (x1 &&& 31)) → vp_in x1 20 ∧ ∀ σ2 : wS, σ2 = sA σ1 8 x1 0 → vp_in x1 20 ∧ ∀ σ3 : wS, σ3 = sA σ2 9 x1 0 → ∃ n, wloop (we_X1_compare_L25 Q x1) n (0, σ3)
def wc_J7_fill_53178_hours_L5 (Q : wS → Prop) (x1 : Int32) (x3 : Int32) (K5 : (Int32 × wS) → Prop) (v : Int32 × wS) : Prop :=
  match v with
  | (x2, σ) => ((x3 ≤ x2 → Q σ) ∧ (¬ x3 ≤ x2 → vp_in x2 20 ∧ ∀ σ1 : wS, σ1 = sA σ 2 x2 x1 → ∀ a2 : Int32, a2 = x2 + 1 → K5 (a2, σ1)))
def wc_J7_fill_53178_hours (Q : wS → Prop) (x1 : Int32) (σ : wS) : Prop :=
  ∃ n, wloop (wc_J7_fill_53178_hours_L5 Q x1 20) n (0, σ)
def wc_J7_fill_53178_lost_L5 (Q : wS → Prop) (x1 : Int32) (x3 : Int32) (K5 : (Int32 × wS) → Prop) (v : Int32 × wS) : Prop :=
  match v with
  | (x2, σ) => ((x3 ≤ x2 → Q σ) ∧ (¬ x3 ≤ x2 → vp_in x2 20 ∧ ∀ σ1 : wS, σ1 = sA σ 3 x2 x1 → ∀ a2 : Int32, a2 = x2 + 1 → K5 (a2, σ1)))
def wc_J7_fill_53178_lost (Q : wS → Prop) (x1 : Int32) (σ : wS) : Prop :=
  ∃ n, wloop (wc_J7_fill_53178_lost_L5 Q x1 20) n (0, σ)
