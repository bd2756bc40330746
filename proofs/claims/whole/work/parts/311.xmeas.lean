/-- the graph's arrays hold these limits -/
def gHas (σ : wS) (L : List gL) : Prop := σ.1 7 = nI L.length ∧ L.length ≤ 200 ∧ ∀ (k : Nat) (a : gL), L[k]? = some a → σ.2.2.1 22 k = nI a.1 ∧ σ.2.2.1 23 k = nI a.2.1 ∧ (σ.2.2.1 24 k).toInt = a.2.2
def okA (L : List gL) : Prop := ∀ a ∈ L, a.1 < 53 ∧ a.2.1 < 53 ∧ -100000 ≤ a.2.2 ∧ a.2.2 ≤ 100000
theorem okA.L {L : List gL} (h : okA L) : okL L := fun a ha => ⟨(h a ha).1, (h a ha).2.1⟩
theorem gHas.up {σ : wS} {L : List gL} (h : gHas σ L) (f : Nat → Int32) : gHas (sAF σ 25 f) L := h
def attL (L : List gL) (s : Nat) (f : Nat → Int32) : Prop := ∀ v, v < 53 → ∃ l, subL L l ∧ wt s l v ≤ (f v).toInt
theorem x_follow {Q : Int32 → wS → Prop} {σ : wS} {L : List gL} {f : Nat → Int32} (hg : gHas σ L) (ho : okA L) (hf : ∀ v, v < 53 → -100000 ≤ (f v).toInt ∧ (f v).toInt ≤ 100000)
    (hq : ∀ (r : Int32) (g : Nat → Int32), (r = 0 ∨ r = 1) → (r = 0 → (∀ v, v < 53 → g v = f v) ∧ ∀ a ∈ L, (f a.2.1).toInt ≤ (f a.1).toInt + a.2.2) → (r = 1 → ∃ a ∈ L, (f a.1).toInt + a.2.2 < (f a.2.1).toInt) →
      (∀ v, v < 53 → -20200000 ≤ (g v).toInt ∧ (g v).toInt ≤ (f v).toInt) → (∀ a ∈ L, (g a.2.1).toInt ≤ (f a.1).toInt + a.2.2) → (∀ s, attL L s f → attL L s g) → Q r (sAF σ 25 g)) : wx_X4_followLimits_ways Q 0 (sAF σ 25 f) := by
  obtain ⟨g7, gl, ga⟩ := hg
  refine wloop_of (fun w : Int32 × Int32 × wS => ∃ (k : Nat) (g : Nat → Int32), k ≤ L.length ∧ w.2.1 = nI k ∧ w.2.2 = sAF σ 25 g ∧ (w.1 = 0 ∨ w.1 = 1) ∧ (w.1 = 0 → (∀ v, v < 53 → g v = f v) ∧ ∀ (j : Nat) (a : gL), j < k → L[j]? = some a → (f a.2.1).toInt ≤ (f a.1).toInt + a.2.2) ∧ (w.1 = 1 → ∃ a ∈ L, (f a.1).toInt + a.2.2 < (f a.2.1).toInt) ∧
    (∀ v, v < 53 → -100000 * ((k : Int) + 1) ≤ (g v).toInt ∧ (g v).toInt ≤ (f v).toInt) ∧ (∀ (j : Nat) (a : gL), j < k → L[j]? = some a → (g a.2.1).toInt ≤ (f a.1).toInt + a.2.2) ∧ (∀ s, attL L s f → attL L s g)) (fun w => L.length - w.2.1.toNatClampNeg) ?_ _
    ⟨0, f, Nat.zero_le _, rfl, rfl, Or.inl rfl, fun _ => ⟨fun _ _ => rfl, fun j a hj => absurd hj (Nat.not_lt_zero j)⟩, fun z => absurd (show (0 : Int32) = 1 from z) (by decide), fun v hv => by have := hf v hv; omega, fun j a hj => absurd hj (Nat.not_lt_zero j), fun _ h => h⟩
  rintro K ⟨x3, x4, τ⟩ ⟨k, g, hk, e4, eτ, h01, h0, h1, hlo, hrel, hatt⟩ kk
  dsimp only at e4 eτ h01 h0 h1 kk
  subst e4; subst eτ
  have e7 : (sAF σ 25 g).1 7 = nI L.length := g7
  show (_ ∧ _)
  rw [e7]
  refine ⟨fun c => ?_, fun c => ?_⟩
  · have hke : k = L.length := by
      have : L.length ≤ k := (nI_leI (by omega) (by omega)).mp c
      omega
    subst hke
    refine ⟨?_, hq x3 g h01 (fun z => ⟨(h0 z).1, fun a ha => ?_⟩) h1 (fun v hv => ?_) (fun a ha => ?_) hatt⟩
    · rcases h01 with z | z <;> (rw [z]; rfl)
    · obtain ⟨j, hj⟩ := List.getElem?_of_mem ha
      exact (h0 z).2 j a (List.getElem?_eq_some_iff.mp hj).1 hj
    · have := hlo v hv
      have hl : (L.length : Int) ≤ 200 := by omega
      omega
    · obtain ⟨j, hj⟩ := List.getElem?_of_mem ha
      exact hrel j a (List.getElem?_eq_some_iff.mp hj).1 hj
  have hlt : k < L.length := Nat.lt_of_not_le (fun z => c ((nI_leI (by omega) (by omega)).mpr z))
  obtain ⟨a, ha⟩ : ∃ a, L[k]? = some a := ⟨_, List.getElem?_eq_getElem hlt⟩
  have hmem : a ∈ L := List.mem_of_getElem? ha
  obtain ⟨o1, o2, o3, o4⟩ := ho a hmem
  obtain ⟨b1, b2, b3⟩ := ga k a ha
  have hin : vp_in (nI k) 200 := nI_in (by omega) (by decide)
  have hcl : (nI k).toNatClampNeg = k := nI_clamp (by omega)
  have nx : ∀ (r : Int32) (g2 : Nat → Int32), (r = 0 ∨ r = 1) → (r = 0 → (∀ v, v < 53 → g2 v = f v) ∧ ∀ (j : Nat) (a : gL), j < k + 1 → L[j]? = some a → (f a.2.1).toInt ≤ (f a.1).toInt + a.2.2) → (r = 1 → ∃ a ∈ L, (f a.1).toInt + a.2.2 < (f a.2.1).toInt) → (∀ v, v < 53 → -100000 * ((k : Int) + 2) ≤ (g2 v).toInt ∧ (g2 v).toInt ≤ (g v).toInt) → (g2 a.2.1).toInt ≤ (g a.1).toInt + a.2.2 → (∀ s, attL L s f → attL L s g2) → K (r, nI k + 1, sAF σ 25 g2) := by
    intro r g2 c1 c2 c3 c4 c5 c6
    refine kk _ ⟨k + 1, g2, by omega, nI_1 k, rfl, c1, c2, c3, fun v hv => ?_, fun j b hj hb => ?_, c6⟩ ?_
    · have := c4 v hv
      have := hlo v hv
      omega
    · by_cases e : j = k
      · subst e
        have hba : b = a := Option.some.inj (hb.symm.trans ha)
        subst hba
        have := (hlo b.1 o1).2
        omega
      · have h2 := hrel j b (by omega) hb
        have h3 := (c4 b.2.1 (ho b (List.mem_of_getElem? hb)).2.1).2
        omega
    · dsimp only
      rw [nI_1, nI_clamp (by omega), hcl]; omega
  refine ⟨hin, fun a1 e1 => ⟨hin, fun a2 e2 => ?_⟩⟩
  have e1 : a1 = nI a.1 := by rw [e1, aI_sAF_ne σ (by decide)]; show σ.2.2.1 22 (nI k).toNatClampNeg = _; rw [hcl]; exact b1
  have e2 : a2 = nI a.2.1 := by rw [e2, aI_sAF_ne σ (by decide)]; show σ.2.2.1 23 (nI k).toNatClampNeg = _; rw [hcl]; exact b2
  subst e1; subst e2
  refine i_f (nI_pos (by omega)) (i_f (nI_pos (by omega)) ⟨nI_in o1 (by decide), ?_⟩)
  rw [aI_sAF_nI σ 25 g (by omega)]
  have t1 := hlo a.1 o1
  have t2 := hlo a.2.1 o2
  have t3 := hf a.1 o1
  refine i_t (by rw [fa_lt, far_toInt]; omega) ⟨nI_in o1 (by decide), hin, fun a5 e5 => ⟨nI_in o2 (by decide), ?_⟩⟩
  have e5 : a5.toInt = (g a.1).toInt + a.2.2 := by
    have h24 : (aI (sAF σ 25 g) 24 (nI k)).toInt = a.2.2 := by rw [aI_sAF_ne σ (by decide)]; show (σ.2.2.1 24 (nI k).toNatClampNeg).toInt = _; rw [hcl]; exact b3
    have hl : (k : Int) ≤ 200 := by omega
    rw [e5, fb_addI (by rw [h24]; omega) (by rw [h24]; omega), h24]
  rw [aI_sAF_nI σ 25 g (by omega)]
  refine ⟨fun c2 a6 e6 => ?_, fun c2 => ⟨nI_in o2 (by decide), fun σ7 e7' a8 e8 => ?_⟩⟩
  · subst e6
    rw [fa_le, e5] at c2
    refine nx x3 g h01 (fun z => ⟨(h0 z).1, fun j b hj hb => ?_⟩) h1 (fun v hv => by have := hlo v hv; omega) (by omega) hatt
    by_cases e : j = k
    · subst e
      have hba : b = a := Option.some.inj (hb.symm.trans ha)
      subst hba
      rw [(h0 z).1 _ o1, (h0 z).1 _ o2] at c2
      exact c2
    · exact (h0 z).2 j b (by omega) hb
  · subst e8; subst e7'
    rw [sA_sAF, nI_clamp (by omega)]
    rw [fa_le, e5] at c2
    refine nx 1 _ (Or.inr rfl) (fun z => absurd z (by decide)) (fun _ => ?_) (fun v hv => ?_) (by rw [pk_us]; omega) (fun s hs v hv => ?_)
    · rcases h01 with z | z
      · rw [(h0 z).1 _ o1, (h0 z).1 _ o2] at c2
        exact ⟨a, hmem, by omega⟩
      · exact h1 z
    · by_cases e : v = a.2.1
      · rw [e, pk_us]; omega
      · rw [pk_un e]; have := hlo v hv; omega
    · by_cases e : v = a.2.1
      · rw [e, pk_us, e5]
        obtain ⟨l, l1, l2⟩ := hatt s hs a.1 o1
        refine ⟨l ++ [a], subL_app.mpr ⟨l1, subL_cons.mpr ⟨hmem, subL_nil L⟩⟩, ?_⟩
        rw [wt_cat]
        simp only [wt, bd_self]
        omega
      · rw [pk_un e]; exact hatt s hs v hv
theorem att_bounds {L : List gL} {s : Nat} {f g : Nat → Int32} (h : attL L s f) (hg : ∀ v, v < 53 → ∃ u, u < 53 ∧ (f u).toInt + bd u v ≤ (g v).toInt) : attL L s g := by
  intro v hv
  obtain ⟨u, hu, h1⟩ := hg v hv
  obtain ⟨l, l1, l2⟩ := h u hu
  exact ⟨l, l1, by have := wt_last l s v u; omega⟩
/-- the table at the beginning -/
theorem x_startAt0 {Q : wS → Prop} {σ : wS} {L : List gL} {s : Nat} (hs : s < 53) (hq : ∀ g : Nat → Int32, bclT g → (g s).toInt = 0 → attL L s g → Q (sAF σ 25 g)) : wx_X4_startAt Q (nI s) 0 σ := by
  refine x_fill (fun f hf => ⟨nI_in hs (by decide), fun σ2 e2 => ?_⟩)
  subst e2
  rw [sA_sAF, nI_clamp (by omega)]
  have z0 : (0 : Int32).toInt = 0 := by decide
  have fv : ∀ v, v < 53 → (upd f s 0 v).toInt = if v = s then 0 else 536870912 := by
    intro v hv
    by_cases e : v = s
    · rw [e, pk_us, if_pos rfl, z0]
    · rw [pk_un e, if_neg e, hf v hv, far_toInt]
  refine x_bounds0 (fun v hv => ?_) (fun g b1 b2 b3 => hq g b1 ?_ ?_)
  · rw [fv v hv]; split <;> omega
  · have h1 := b2 s hs
    rw [fv s hs, if_pos rfl] at h1
    obtain ⟨u, hu, h2⟩ := b3 s hs
    have h3 := bd_nn u s
    rw [fv u hu] at h2
    split at h2 <;> omega
  · refine att_bounds (f := upd f s 0) (fun v hv => ⟨[], subL_nil L, ?_⟩) b3
    rw [fv v hv]
    show bd s v ≤ _
    split
    · next e => subst e; rw [bd_self]; omega
    · have := bd_le s v; omega
theorem x_measure {Q : Int32 → wS → Prop} {σ : wS} {L : List gL} {s : Nat} (hs : s < 53) (hg : gHas σ L) (ho : okA L)
    (hT : ∀ g : Nat → Int32, potL L (fun v => (g v).toInt) → (g s).toInt = 0 → attL L s g → Q 1 (sAF σ 25 g))
    (hF : (¬ ∃ h, potL L h) → ∀ g : Nat → Int32, Q 0 (sAF σ 25 g)) : wx_X4_measureFrom Q (nI s) σ := by
  unfold wx_X4_measureFrom
  refine i_f (nI_pos (by omega)) (i_t ((nI_ltI (b := 53) (by omega) (by omega)).mpr hs) (x_startAt0 (L := L) hs (fun f b1 b2 b3 => ?_)))
  refine wloop_of (fun w : Int32 × wS => ∃ (r : Nat) (f : Nat → Int32), r ≤ 54 ∧ w.1 = nI r ∧ w.2 = sAF σ 25 f ∧ bclT f ∧ (f s).toInt = 0 ∧ attL L s f ∧ (∀ v, v < 53 → (f v).toInt ≤ dm L s r v) ∧ (r = 54 → ¬ ∃ h, potL L h)) (fun w => 54 - w.1.toNatClampNeg) ?_ _ ⟨0, f, by omega, rfl, rfl, b1, b2, b3, fun v hv => ?_, fun z => absurd z (by decide)⟩
  · rintro K ⟨x2, τ⟩ ⟨r, f, hr, e1, e2, b1, b2, b3, b4, b5⟩ kk
    dsimp only at e1 e2 kk
    subst e1; subst e2
    have lim : ∀ v, v < 53 → -100000 ≤ (f v).toInt ∧ (f v).toInt ≤ 100000 := by
      intro v hv
      have h1 := b1 s v hs hv
      have h2 := b1 v s hv hs
      have h3 := bd_le s v
      have h4 := bd_le v s
      omega
    have clo : r = 53 → (∃ h, potL L h) → ∀ a ∈ L, (f a.2.1).toInt ≤ (f a.1).toInt + a.2.2 := by
      intro hr53 ⟨h, hp⟩ a ha
      subst hr53
      have hn := pot_noneg ho.L hp
      obtain ⟨l, l1, l2⟩ := b3 a.1 (ho a ha).1
      obtain ⟨l', t1, t2, t3⟩ := wt_short ho.L hn s a.2.1 _ (l ++ [a]) (Nat.le_refl _) (subL_app.mpr ⟨l1, subL_cons.mpr ⟨ha, subL_nil L⟩⟩)
      have h4 := dm_le L s 53 l' a.2.1 t1 t2
      have h5 := b4 a.2.1 (ho a ha).2.1
      rw [wt_cat] at t3
      simp only [wt, bd_self] at t3
      omega
    refine ⟨fun c => ?_, fun c => ?_⟩
    · have : 53 < r := (nI_ltI (a := 53) (by omega) (by omega)).mp c
      exact hF (b5 (by omega)) f
    have hr53 : r ≤ 53 := Nat.le_of_not_lt (fun z => c ((nI_ltI (a := 53) (by omega) (by omega)).mpr z))
    refine x_follow hg ho lim (fun q g h01 h0 h1 g1 g2 g3 => ⟨fun c1 => ?_, fun c1 => ?_⟩)
    · have hq1 : q = 1 := h01.resolve_left c1
      refine x_bounds0 (fun v hv => ?_) (fun e c2 c3 c4 => ⟨nI_in hs (by decide), ?_⟩)
      · have := g1 v hv; have := lim v hv; omega
      rw [aI_sAF_nI σ 25 e (by omega)]
      have ea : attL L s e := att_bounds (g3 s b3) c4
      have z0 : (0 : Int32).toInt = 0 := by decide
      refine ⟨fun c5 a4 e4 => ?_, fun c5 => ?_⟩
      · subst e4
        rw [fa_le, z0] at c5
        refine kk _ ⟨r + 1, e, by omega, nI_1 r, rfl, c2, ?_, ea, fun v hv => ?_, fun z => ?_⟩ ?_
        · have := c3 s hs; have := g1 s hs; omega
        · obtain ⟨u1, u2⟩ : True ∧ True := ⟨trivial, trivial⟩
          rcases fmin_at (fun a => dm L s r a.1 + a.2.2 + bd a.2.1 v) L (dm L s r v) with h | ⟨a, ha, h⟩
          · have h2 : dm L s (r + 1) v = dm L s r v := h
            have := b4 v hv; have := c3 v hv; have := g1 v hv
            omega
          · have h2 : dm L s (r + 1) v = dm L s r a.1 + a.2.2 + bd a.2.1 v := h
            obtain ⟨o1, o2, -⟩ := ho a ha
            have k1 := b4 a.1 o1
            have k2 := g2 a ha
            have k3 := c3 a.2.1 o2
            have k4 := c2 a.2.1 v o2 hv
            omega
        · intro hp
          obtain ⟨a, ha, h2⟩ := h1 hq1
          have := clo (by omega) hp a ha
          omega
        · dsimp only
          rw [nI_1, nI_clamp (by omega), nI_clamp (by omega)]; omega
      · rw [fa_le, z0] at c5
        refine hF (fun ⟨h, hp⟩ => ?_) e
        obtain ⟨l, l1, l2⟩ := ea s hs
        have := pot_noneg ho.L hp s l hs l1
        omega
    · obtain ⟨e1, e2⟩ := h0 c1
      refine hT g ⟨fun u v hu hv => ?_, fun a ha => ?_⟩ ?_ (g3 s b3)
      · show (g v).toInt ≤ (g u).toInt + bd u v
        rw [e1 u hu, e1 v hv]; exact b1 u v hu hv
      · show (g a.2.1).toInt ≤ (g a.1).toInt + a.2.2
        rw [e1 _ (ho a ha).1, e1 _ (ho a ha).2.1]; exact e2 a ha
      · rw [e1 s hs]; exact b2
  · have := b1 s v hs hv
    show (f v).toInt ≤ bd s v
    omega
theorem x_wayTo {Q : Int32 → Prop} {σ : wS} {f : Nat → Int32} {v : Nat} (hv : v < 53) (hq : Q (f v)) : wx_X4_wayTo Q (nI v) (sAF σ 25 f) := by
  unfold wx_X4_wayTo
  refine i_f (nI_pos (by omega)) (i_f (fun z => by have := (nI_leI (a := 53) (by omega) (by omega)).mp z; omega) ⟨nI_in hv (by decide), ?_⟩)
  rw [aI_sAF_nI σ 25 f (by omega)]
  exact hq
