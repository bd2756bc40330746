/-! XROWS: the class's counts and parts -/
abbrev bS (x : Int32) : Nat → Prop := fun p => bt x p = true
theorem b_no {x : Int32} : x = 0 ↔ ∀ q, ¬ bt x q = true := by
  constructor
  · intro h q z
    rw [h, b_0] at z
    exact absurd z (by decide)
  · intro h
    refine b_ext (fun i _ => ?_)
    rw [b_0]
    exact ts_nt (h i)
theorem b_hold {x : Int32} {p : Nat} (hp : p < 32) : (x &&& ((1 : Int32) <<< (nI p &&& 31))) = 0 ↔ ¬ bt x p = true := by
  rw [b_no]
  constructor
  · intro h z
    exact h p ((b_andT _ _ _).mpr ⟨z, (b_one hp p).mpr rfl⟩)
  · intro h q z
    have z2 := (b_andT _ _ _).mp z
    have e := (b_one hp q).mp z2.2
    rw [e] at z2
    exact h z2.1
theorem x_holds {Q : Int32 → Prop} {x : Int32} {p : Nat} (hp : p < 32) : wx_X1_holds Q x (nI p) ↔ Q (b2 (bt x p = true)) := by
  unfold wx_X1_holds
  by_cases d : bt x p = true
  · rw [b2_t d]
    exact ⟨fun h => h.2 (fun z => (b_hold hp).mp z d), fun h => i_f (fun z => (b_hold hp).mp z d) h⟩
  · rw [b2_f d]
    exact ⟨fun h => h.1 ((b_hold hp).mpr d), fun h => i_t ((b_hold hp).mpr d) h⟩
theorem b_low (x : Int32) (q : Nat) : bt (x &&& -x) q = true ↔ bt x q = true ∧ ∀ j, j < q → ¬ bt x j = true := by
  rw [b_andT]
  have e : bt (-x) q = (bt x q ^^ (decide (q < 32) && decide (∃ j, j < q ∧ bt x j = true))) := by
    unfold bt
    rw [Int32.toBitVec_neg, BitVec.getLsbD_neg]
  rw [e]
  constructor
  · rintro ⟨h1, h2⟩
    refine ⟨h1, fun j hj hx => ?_⟩
    have hq : q < 32 := Nat.lt_of_not_le fun z => by rw [b_big z] at h1; exact absurd h1 (by decide)
    rw [h1, decide_eq_true hq, decide_eq_true (show ∃ j, j < q ∧ bt x j = true from ⟨j, hj, hx⟩)] at h2
    exact absurd h2 (by decide)
  · rintro ⟨h1, h2⟩
    refine ⟨h1, ?_⟩
    rw [h1, decide_eq_false (show ¬ ∃ j, j < q ∧ bt x j = true from fun ⟨j, hj, hx⟩ => h2 j hj hx), Bool.and_false]
    rfl
theorem b_dif (x y : Int32) (q : Nat) : bt (x &&& (y ^^^ (-1))) q = true ↔ bt x q = true ∧ ¬ bt y q = true := by
  rw [b_andT]
  by_cases hq : q < 32
  · rw [b_xor, b_m1 q hq]
    cases bt y q <;> simp
  · exact ⟨fun h => absurd h.1 (by rw [b_big (by omega)]; decide), fun h => absurd h.1 (by rw [b_big (by omega)]; decide)⟩
theorem b_rm (x : Int32) {p : Nat} (hp : p < 32) (q : Nat) : bt (x &&& (((1 : Int32) <<< (nI p &&& 31)) ^^^ (-1))) q = true ↔ bt x q = true ∧ q ≠ p := by
  rw [b_dif, b_one hp]
theorem b_less0 : ∀ p, p < 32 → ∀ q, q < 32 → bt (((1 : Int32) <<< (nI p &&& 31)) - 1) q = decide (q < p) := by decide +kernel
theorem b_less {p : Nat} (hp : p < 32) (q : Nat) : bt (((1 : Int32) <<< (nI p &&& 31)) - 1) q = true ↔ q < p := by
  by_cases hq : q < 32
  · rw [b_less0 p hp q hq, decide_eq_true_iff]
  · rw [b_big (by omega)]
    exact ⟨fun h => absurd h (by decide), fun h => absurd h (by omega)⟩
theorem bS_rm (x : Int32) {p : Nat} (hp : p < 32) : bS (x &&& (((1 : Int32) <<< (nI p &&& 31)) ^^^ (-1))) = fun q => bS x q ∧ q ≠ p := funext fun q => propext (b_rm x hp q)
theorem bS_dif (x y : Int32) : bS (x &&& (y ^^^ (-1))) = fun q => bS x q ∧ ¬ bS y q := funext fun q => propext (b_dif x y q)
theorem ct_lt {p q : Nat → Bool} {n i : Nat} (hi : i < n) (h : ∀ k, k < n → p k = true → q k = true) (h1 : p i = false) (h2 : q i = true) : fb_ct p n < fb_ct q n := by
  have a := fb_ct_upd p true hi
  have b : fb_ct (fun k => if k = i then true else p k) n ≤ fb_ct q n := fb_ct_sub (fun k hk hp => by
    by_cases d : k = i
    · rw [d]; exact h2
    · rw [if_neg d] at hp; exact h k hk hp)
  have a2 : fb_ct (fun k => if k = i then true else p k) n = fb_ct p n + 1 := by rw [h1] at a; exact a
  omega
theorem ct_sm (p : Nat → Bool) : ∀ n, fb_ct p n = fb_sm (fun k => c1 (p k = true)) n
  | 0 => rfl
  | n + 1 => by
    rw [fb_ct_succ, fb_sm_succ, ct_sm p n]
    by_cases d : p n = true
    · rw [if_pos d, c1_t d]
    · rw [if_neg d, c1_f d]
theorem ct_od {y : Int32} {S : Nat → Prop} {F : Nat → Nat} {v : Nat} (h : ∀ q, q < 20 → (bt y q = true ↔ S q ∧ F q = v)) : fb_ct (bt y) 20 = od F S v := by
  rw [ct_sm]
  exact fb_sm_cong (fun k hk => c1_c (h k hk))
/-! the JDK's count of bits, for the twenty lowest -/
def pB1 (b : Nat) : Nat := b - (b / 2 &&& 85)
def pB2 (b : Nat) : Nat := (b &&& 51) + (b / 4 &&& 51)
def pB3 (b : Nat) : Nat := (b + b / 16) % 16
theorem pB_ok : ∀ b, b < 256 → (b / 2 &&& 85) ≤ b ∧ pB1 b < 256 ∧ pB2 (pB1 b) ≤ 68 ∧ pB2 (pB1 b) % 16 ≤ 4 ∧ pB3 (pB2 (pB1 b)) = fb_ct (fun i => b.testBit i) 8 := by decide +kernel
theorem pB_s1 : ∀ b, b < 256 → ∀ r, r < 2 → (b / 2 + 128 * r &&& 85) = (b / 2 &&& 85) := by decide +kernel
theorem pB_s2 : ∀ b, b < 256 → ∀ r, r < 4 → (b / 4 + 64 * r &&& 51) = (b / 4 &&& 51) := by decide +kernel
theorem and_b (a b m k : Nat) (ha : a < 256) (hk : k < 256) : (a + 256 * b) &&& (k + 256 * m) = (a &&& k) + 256 * (b &&& m) := by
  have h1 : ((a + 256 * b) &&& (k + 256 * m)) % 2 ^ 8 = a &&& k := by
    rw [Nat.and_mod_two_pow]
    have e1 : (a + 256 * b) % 2 ^ 8 = a := by omega
    have e2 : (k + 256 * m) % 2 ^ 8 = k := by omega
    rw [e1, e2]
  have h2 : ((a + 256 * b) &&& (k + 256 * m)) / 2 ^ 8 = b &&& m := by
    rw [Nat.and_div_two_pow]
    have e1 : (a + 256 * b) / 2 ^ 8 = b := by omega
    have e2 : (k + 256 * m) / 2 ^ 8 = m := by omega
    rw [e1, e2]
  omega
theorem and_3 (a b c k : Nat) (ha : a < 256) (hb : b < 256) (hc : c < 256) (hk : k < 256) : (a + 256 * (b + 256 * c)) &&& (k + 256 * (k + 256 * (k + 256 * k))) = (a &&& k) + 256 * ((b &&& k) + 256 * (c &&& k)) := by
  rw [and_b a _ _ k ha hk, and_b b _ _ k hb hk]
  have := and_b c 0 k k hc hk
  rw [Nat.mul_zero, Nat.add_zero, Nat.zero_and, Nat.mul_zero, Nat.add_zero] at this
  rw [this]
theorem x_bitCount {Q : Int32 → Prop} {x : Int32} (hx : ∀ q, bt x q = true → q < 20) (hq : Q (nI (fb_ct (bt x) 20))) : wx_J6_bitCount_0f7a4 Q x := by
  obtain ⟨n, hn, rfl⟩ := wb_of32 x
  have hbt : ∀ i, i < 32 → bt (nI n) i = n.testBit i := by
    intro i hi
    show (BitVec.ofNat 32 n).getLsbD i = _
    rw [BitVec.getLsbD_ofNat, decide_eq_true hi, Bool.true_and]
  have hn20 : n < 2 ^ 20 := by
    refine Nat.lt_pow_two_of_testBit n (fun i hi => ?_)
    by_cases d : i < 32
    · rw [← hbt i d]; exact ts_nt (fun z => by have := hx i z; omega)
    · exact Nat.testBit_lt_two_pow (Nat.lt_of_lt_of_le hn (Nat.pow_le_pow_right (by omega) (by omega)))
  obtain ⟨a, b, c, ha, hb, hc, e⟩ : ∃ a b c : Nat, a < 256 ∧ b < 256 ∧ c < 16 ∧ n = a + 256 * (b + 256 * c) := ⟨n % 256, n / 256 % 256, n / 65536, by omega, by omega, by omega, by omega⟩
  obtain ⟨a1, a2, a3, a4, a5⟩ := pB_ok a ha
  obtain ⟨b1, b2, b3, b4, b5⟩ := pB_ok b hb
  obtain ⟨d1, d2, d3, d4, d5⟩ := pB_ok c (by omega)
  have hcnt : fb_ct (bt (nI n)) 20 = pB3 (pB2 (pB1 a)) + (pB3 (pB2 (pB1 b)) + pB3 (pB2 (pB1 c))) := by
    rw [a5, b5, d5, fb_ct_cong (q := fun i => n.testBit i) (fun k hk => hbt k (by omega)), fb_ct_split (fun i => n.testBit i) 8 12, fb_ct_split (fun k => n.testBit (8 + k)) 8 4]
    have f1 : fb_ct (fun i => n.testBit i) 8 = fb_ct (fun i => a.testBit i) 8 := fb_ct_cong (fun k hk => by
      have e1 : a = n % 2 ^ 8 := by omega
      rw [e1, Nat.testBit_mod_two_pow, decide_eq_true hk, Bool.true_and])
    have f2 : fb_ct (fun k => n.testBit (8 + k)) 8 = fb_ct (fun i => b.testBit i) 8 := fb_ct_cong (fun k hk => by
      have e1 : b = n / 2 ^ 8 % 2 ^ 8 := by omega
      rw [e1, Nat.testBit_mod_two_pow, decide_eq_true hk, Bool.true_and, Nat.testBit_div_two_pow, Nat.add_comm])
    have f3 : fb_ct (fun k => n.testBit (8 + (8 + k))) 4 = fb_ct (fun i => c.testBit i) 8 := by
      rw [fb_ct_split (fun i => c.testBit i) 4 4]
      have z : fb_ct (fun k => c.testBit (4 + k)) 4 = 0 := fb_ct_zero.mpr (fun k hk => Nat.testBit_lt_two_pow (Nat.lt_of_lt_of_le (show c < 2 ^ 4 by omega) (Nat.pow_le_pow_right (by omega) (by omega))))
      rw [z, Nat.add_zero]
      refine fb_ct_cong (fun k hk => ?_)
      have e1 : c = n / 2 ^ 16 := by omega
      rw [e1, Nat.testBit_div_two_pow]
      congr 1
      omega
    rw [f1, f2, f3]
  rw [hcnt] at hq
  intro x1 e1 x2 e2 x3 e3 x4 e4 x5 e5
  have g1 : x1 = nI (pB1 a + 256 * (pB1 b + 256 * pB1 c)) := by
    rw [e1, pk_ushrN (by omega) 1 1 (by decide), show (1431655765 : Int32) = nI (85 + 256 * (85 + 256 * (85 + 256 * 85))) from rfl, fa_and]
    have s : n / 2 ^ 1 = (a / 2 + 128 * (b % 2)) + 256 * ((b / 2 + 128 * (c % 2)) + 256 * (c / 2)) := by omega
    rw [s, and_3 _ _ _ _ (by omega) (by omega) (by omega) (by omega), pB_s1 a ha _ (by omega), pB_s1 b hb _ (by omega), pk_sub (by omega)]
    congr 1
    unfold pB1
    omega
  have h1 : pB1 c < 256 := d2
  have g2 : x2 = nI (pB2 (pB1 a) + 256 * (pB2 (pB1 b) + 256 * pB2 (pB1 c))) := by
    rw [e2, g1, pk_ushrN (by omega) 2 2 (by decide), show (858993459 : Int32) = nI (51 + 256 * (51 + 256 * (51 + 256 * 51))) from rfl, fa_and, fa_and]
    have s : (pB1 a + 256 * (pB1 b + 256 * pB1 c)) / 2 ^ 2 = (pB1 a / 4 + 64 * (pB1 b % 4)) + 256 * ((pB1 b / 4 + 64 * (pB1 c % 4)) + 256 * (pB1 c / 4)) := by omega
    rw [s, and_3 _ _ _ _ a2 b2 d2 (by omega), and_3 _ _ _ _ (by omega) (by omega) (by omega) (by omega), pB_s2 _ a2 _ (by omega), pB_s2 _ b2 _ (by omega), nI_add]
    congr 1
    unfold pB2
    omega
  have g3 : x3 = nI (pB3 (pB2 (pB1 a)) + 256 * (pB3 (pB2 (pB1 b)) + 256 * pB3 (pB2 (pB1 c)))) := by
    rw [e3, g2, pk_ushrN (by omega) 4 4 (by decide), show (252645135 : Int32) = nI (15 + 256 * (15 + 256 * (15 + 256 * 15))) from rfl, nI_add, fa_and]
    have s : pB2 (pB1 a) + 256 * (pB2 (pB1 b) + 256 * pB2 (pB1 c)) + (pB2 (pB1 a) + 256 * (pB2 (pB1 b) + 256 * pB2 (pB1 c))) / 2 ^ 4 = (pB2 (pB1 a) + pB2 (pB1 a) / 16 + 16 * (pB2 (pB1 b) % 16)) + 256 * ((pB2 (pB1 b) + pB2 (pB1 b) / 16 + 16 * (pB2 (pB1 c) % 16)) + 256 * (pB2 (pB1 c) + pB2 (pB1 c) / 16)) := by omega
    rw [s, and_3 _ _ _ _ (by omega) (by omega) (by omega) (by omega)]
    have m : ∀ y : Nat, y &&& 15 = y % 16 := fun y => Nat.and_two_pow_sub_one_eq_mod y 4
    rw [m, m, m]
    congr 1
    unfold pB3
    omega
  have l1 : pB3 (pB2 (pB1 a)) ≤ 8 := by rw [a5]; exact fb_ct_le _ _
  have l2 : pB3 (pB2 (pB1 b)) ≤ 8 := by rw [b5]; exact fb_ct_le _ _
  have l3 : pB3 (pB2 (pB1 c)) ≤ 8 := by rw [d5]; exact fb_ct_le _ _
  generalize pB3 (pB2 (pB1 a)) = u at *
  generalize pB3 (pB2 (pB1 b)) = v at *
  generalize pB3 (pB2 (pB1 c)) = w at *
  have g4 : x4 = nI ((u + v) + 256 * ((v + w) + 256 * w)) := by
    rw [e4, g3, pk_ushrN (by omega) 8 8 (by decide), nI_add]
    congr 1
    omega
  have g5 : x5 = nI ((u + (v + w)) + 256 * ((v + w) + 256 * w)) := by
    rw [e5, g4, pk_ushrN (by omega) 16 16 (by decide), nI_add]
    congr 1
    omega
  rw [g5, show (63 : Int32) = nI (2 ^ 6 - 1) from rfl, fa_mask]
  have : (u + (v + w) + 256 * (v + w + 256 * w)) % 2 ^ 6 = u + (v + w) := by omega
  rw [this]
  exact hq
