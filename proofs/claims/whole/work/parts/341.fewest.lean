/-! FEWEST: the class's search for a shortest quarrel -/
theorem sAF_at (σ : wS) (a : Nat) (f : Nat → Int32) : (sAF σ a f).2.2.1 a = f := va_up_self _ _ _
theorem sAF_out (σ : wS) {a b : Nat} (h : b ≠ a) (f : Nat → Int32) : (sAF σ a f).2.2.1 b = σ.2.2.1 b := va_up_ne _ _ h
theorem x_follow2 {Q : Int32 → wS → Prop} {τ : wS} {L : List gL} {f : Nat → Int32} {s : Nat} (hs : s < 53) (hg : gHas τ L) (ho : okA L) (h26 : ∀ v, v < 53 → τ.2.2.1 26 v = f v) (h25 : ∀ v, v < 53 → τ.2.2.1 25 v = f v) (hf : ∀ v, v < 53 → -10000000 ≤ (f v).toInt ∧ (f v).toInt ≤ 536870912)
    (hq : ∀ (r : Int32) (g : Nat → Int32), (r = 0 → (∀ v, v < 53 → g v = f v) ∧ ∀ a ∈ L, s ≤ a.1 → s ≤ a.2.1 → (f a.1).toInt < 536870912 → (f a.2.1).toInt ≤ (f a.1).toInt + a.2.2) → (∀ v, v < 53 → (g v).toInt ≤ (f v).toInt) → (∀ a ∈ L, s ≤ a.1 → s ≤ a.2.1 → (f a.1).toInt < 536870912 → (g a.2.1).toInt ≤ (f a.1).toInt + a.2.2) →
      (∀ v, v < 53 → g v = f v ∨ ∃ a ∈ L, s ≤ a.1 ∧ s ≤ a.2.1 ∧ a.2.1 = v ∧ (f a.1).toInt < 536870912 ∧ (g v).toInt = (f a.1).toInt + a.2.2) → Q r (sAF τ 25 g)) : wx_X4_followLimits_earlier Q (nI s) τ := by
  obtain ⟨g7, gl, ga⟩ := hg
  refine wloop_of (fun w : Int32 × Int32 × wS => ∃ (k : Nat) (g : Nat → Int32), k ≤ L.length ∧ w.2.1 = nI k ∧ w.2.2 = sAF τ 25 g ∧ (w.1 = 0 ∨ w.1 = 1) ∧ (w.1 = 0 → (∀ v, v < 53 → g v = f v) ∧ ∀ (j : Nat) (a : gL), j < k → L[j]? = some a → s ≤ a.1 → s ≤ a.2.1 → (f a.1).toInt < 536870912 → (f a.2.1).toInt ≤ (f a.1).toInt + a.2.2) ∧
    (∀ v, v < 53 → (g v).toInt ≤ (f v).toInt) ∧ (∀ (j : Nat) (a : gL), j < k → L[j]? = some a → s ≤ a.1 → s ≤ a.2.1 → (f a.1).toInt < 536870912 → (g a.2.1).toInt ≤ (f a.1).toInt + a.2.2) ∧ (∀ v, v < 53 → g v = f v ∨ ∃ a ∈ L, s ≤ a.1 ∧ s ≤ a.2.1 ∧ a.2.1 = v ∧ (f a.1).toInt < 536870912 ∧ (g v).toInt = (f a.1).toInt + a.2.2)) (fun w => L.length - w.2.1.toNatClampNeg) ?_ _
    ⟨0, τ.2.2.1 25, Nat.zero_le _, rfl, (sAF_self τ 25).symm, Or.inl rfl, fun _ => ⟨h25, fun j a hj => absurd hj (Nat.not_lt_zero j)⟩, fun v hv => by rw [h25 v hv]; exact Int.le_refl _, fun j a hj => absurd hj (Nat.not_lt_zero j), fun v hv => Or.inl (h25 v hv)⟩
  rintro K ⟨x3, x4, υ⟩ ⟨k, g, hk, e4, eυ, h01, h0, hle, hrel, hat⟩ kk
  dsimp only at e4 eυ h01 h0 kk
  subst e4; subst eυ
  have e7 : (sAF τ 25 g).1 7 = nI L.length := g7
  show (_ ∧ _)
  rw [e7]
  refine ⟨fun c => ?_, fun c => ?_⟩
  · have hke : k = L.length := by
      have : L.length ≤ k := (nI_leI (by omega) (by omega)).mp c
      omega
    subst hke
    refine ⟨?_, hq x3 g (fun z => ⟨(h0 z).1, fun a ha => ?_⟩) hle (fun a ha => ?_) hat⟩
    · rcases h01 with z | z <;> (rw [z]; rfl)
    · obtain ⟨j, hj⟩ := List.getElem?_of_mem ha
      exact (h0 z).2 j a (List.getElem?_eq_some_iff.mp hj).1 hj
    · obtain ⟨j, hj⟩ := List.getElem?_of_mem ha
      exact hrel j a (List.getElem?_eq_some_iff.mp hj).1 hj
  have hlt : k < L.length := Nat.lt_of_not_le (fun z => c ((nI_leI (by omega) (by omega)).mpr z))
  obtain ⟨a, ha⟩ : ∃ a, L[k]? = some a := ⟨_, List.getElem?_eq_getElem hlt⟩
  have hmem : a ∈ L := List.mem_of_getElem? ha
  obtain ⟨o1, o2, o3, o4⟩ := ho a hmem
  obtain ⟨b1, b2, b3⟩ := ga k a ha
  have hin : vp_in (nI k) 200 := nI_in (by omega) (by decide)
  have hcl : (nI k).toNatClampNeg = k := nI_clamp (by omega)
  have nx : ∀ (r : Int32) (g2 : Nat → Int32), (r = 0 ∨ r = 1) → (r = 0 → (∀ v, v < 53 → g2 v = f v) ∧ ∀ (j : Nat) (b : gL), j < k + 1 → L[j]? = some b → s ≤ b.1 → s ≤ b.2.1 → (f b.1).toInt < 536870912 → (f b.2.1).toInt ≤ (f b.1).toInt + b.2.2) → (∀ v, v < 53 → (g2 v).toInt ≤ (g v).toInt) → (s ≤ a.1 → s ≤ a.2.1 → (f a.1).toInt < 536870912 → (g2 a.2.1).toInt ≤ (f a.1).toInt + a.2.2) → (∀ v, v < 53 → g2 v = f v ∨ ∃ a ∈ L, s ≤ a.1 ∧ s ≤ a.2.1 ∧ a.2.1 = v ∧ (f a.1).toInt < 536870912 ∧ (g2 v).toInt = (f a.1).toInt + a.2.2) → K (r, nI k + 1, sAF τ 25 g2) := by
    intro r g2 c1 c2 c3 c4 c5
    refine kk _ ⟨k + 1, g2, by omega, nI_1 k, rfl, c1, c2, fun v hv => Int.le_trans (c3 v hv) (hle v hv), fun j b hj hb q1 q2 q3 => ?_, c5⟩ ?_
    · by_cases e : j = k
      · subst e
        have hba : b = a := Option.some.inj (hb.symm.trans ha)
        subst hba
        exact c4 q1 q2 q3
      · have h2 := hrel j b (by omega) hb q1 q2 q3
        have h3 := c3 b.2.1 (ho b (List.mem_of_getElem? hb)).2.1
        omega
    · dsimp only
      rw [nI_1, nI_clamp (by omega), hcl]; omega
  have skip : ¬ (s ≤ a.1 ∧ s ≤ a.2.1 ∧ (f a.1).toInt < 536870912) → K (x3, nI k + 1, sAF τ 25 g) := by
    intro hno
    refine nx x3 g h01 (fun z => ⟨(h0 z).1, fun j b hj hb q1 q2 q3 => ?_⟩) (fun _ _ => Int.le_refl _) (fun q1 q2 q3 => absurd ⟨q1, q2, q3⟩ hno) hat
    by_cases e : j = k
    · subst e
      have hba : b = a := Option.some.inj (hb.symm.trans ha)
      subst hba
      exact absurd ⟨q1, q2, q3⟩ hno
    · exact (h0 z).2 j b (by omega) hb q1 q2 q3
  refine ⟨hin, fun a1 e1 => ⟨hin, fun a2 e2 => ?_⟩⟩
  have e1 : a1 = nI a.1 := by rw [e1, aI_sAF_ne τ (by decide)]; show τ.2.2.1 22 (nI k).toNatClampNeg = _; rw [hcl]; exact b1
  have e2 : a2 = nI a.2.1 := by rw [e2, aI_sAF_ne τ (by decide)]; show τ.2.2.1 23 (nI k).toNatClampNeg = _; rw [hcl]; exact b2
  subst e1; subst e2
  have r26 : aI (sAF τ 25 g) 26 (nI a.1) = f a.1 := by rw [aI_sAF_ne τ (by decide), aI_nI τ 26 (by omega)]; exact h26 a.1 o1
  refine ⟨fun c1 a3 e3 => ?_, fun c1 => ⟨fun c2 a4 e4 => ?_, fun c2 => ⟨nI_in o1 (by decide), ?_⟩⟩⟩
  · subst e3; exact skip (fun z => by have := (nI_ltI (by omega) (by omega)).mp c1; omega)
  · subst e4; exact skip (fun z => by have := (nI_ltI (by omega) (by omega)).mp c2; omega)
  have hs1 : s ≤ a.1 := Nat.le_of_not_lt (fun z => c1 ((nI_ltI (by omega) (by omega)).mpr z))
  have hs2 : s ≤ a.2.1 := Nat.le_of_not_lt (fun z => c2 ((nI_ltI (by omega) (by omega)).mpr z))
  rw [r26]
  refine ⟨fun c3 => ⟨nI_in o1 (by decide), hin, fun a5 e5 => ⟨nI_in o2 (by decide), ?_⟩⟩, fun c3 a9 e9 => ?_⟩
  · rw [fa_lt, far_toInt] at c3
    have t1 := hf a.1 o1
    have e5 : a5.toInt = (f a.1).toInt + a.2.2 := by
      have h24 : (aI (sAF τ 25 g) 24 (nI k)).toInt = a.2.2 := by rw [aI_sAF_ne τ (by decide)]; show (τ.2.2.1 24 (nI k).toNatClampNeg).toInt = _; rw [hcl]; exact b3
      rw [e5, fb_addI (by rw [h24]; omega) (by rw [h24]; omega), h24]
    rw [aI_sAF_nI τ 25 g (by omega)]
    refine ⟨fun c4 a6 e6 => ?_, fun c4 => ⟨nI_in o2 (by decide), fun σ7 e7' a8 e8 => ?_⟩⟩
    · subst e6
      rw [fa_le, e5] at c4
      refine nx x3 g h01 (fun z => ⟨(h0 z).1, fun j b hj hb q1 q2 q3 => ?_⟩) (fun _ _ => Int.le_refl _) (fun _ _ _ => c4) hat
      by_cases e : j = k
      · subst e
        have hba : b = a := Option.some.inj (hb.symm.trans ha)
        subst hba
        rw [(h0 z).1 _ o2] at c4
        exact c4
      · exact (h0 z).2 j b (by omega) hb q1 q2 q3
    · subst e8; subst e7'
      rw [sA_sAF, nI_clamp (by omega)]
      rw [fa_le, e5] at c4
      refine nx 1 _ (Or.inr rfl) (fun z => absurd z (by decide)) (fun v hv => ?_) (fun _ _ _ => by rw [pk_us]; omega) (fun v hv => ?_)
      · by_cases e : v = a.2.1
        · rw [e, pk_us]; omega
        · rw [pk_un e]; exact Int.le_refl _
      · by_cases e : v = a.2.1
        · exact Or.inr ⟨a, hmem, hs1, hs2, e.symm, c3, by rw [e, pk_us]; exact e5⟩
        · rw [pk_un e]; exact hat v hv
  · subst e9
    rw [fa_lt, far_toInt] at c3
    exact skip (fun z => c3 z.2.2)
/-- the bounds that the class follows from a source -/
theorem x_bndS {Q : wS → Prop} {σ : wS} {g : Nat → Int32} {s : Nat} (hs : s < 53) (hg : okT g)
    (hq : ∀ e : Nat → Int32, (∀ v, v < 53 → (e v).toInt ≤ (g v).toInt) → (∀ u v, u < 53 → v < 53 → bok s u v → (e v).toInt ≤ (e u).toInt + bd u v) → (∀ v, v < 53 → ∃ u, u < 53 ∧ (g u).toInt + bd u v ≤ (e v).toInt) → Q (sAF σ 25 e)) : wx_X4_followBounds Q (nI s) (sAF σ 25 g) := by
  by_cases c : s = 0
  · subst c
    exact x_bounds0 hg (fun e b1 b2 b3 => hq e b2 (fun u v hu hv _ => b1 u v hu hv) b3)
  · refine x_followBounds (fun e he => ⟨fun z => absurd ((nI_eq (b := 0) (by omega) (by omega)).mp z) c, fun _ => hq e (fun v hv => ?_) (fun u v hu hv hb => ?_) (fun v hv => ?_)⟩)
    · have := he v hv
      split at this <;> omega
    · rcases hb with z | z
      · exact absurd z c
      · rw [zb_bd z]
        rcases z with rfl | ⟨rfl, z1, z2⟩
        · omega
        · have h1 := he v hv
          have h2 := he (v + 1) hu
          rw [if_pos ⟨z1, z2⟩] at h1
          rw [if_neg (by omega)] at h2
          omega
    · have h1 := he v hv
      by_cases d : 21 ≤ v ∧ v % 2 = 1
      · rw [if_pos d] at h1
        by_cases m : (g v).toInt ≤ (g (v + 1)).toInt
        · exact ⟨v, hv, by rw [bd_self]; omega⟩
        · exact ⟨v + 1, by omega, by rw [zb_bd (Or.inr ⟨rfl, d.1, d.2⟩)]; omega⟩
      · rw [if_neg d] at h1
        exact ⟨v, hv, by rw [bd_self]; omega⟩
/-- the table after j rounds from s -/
def tabS (L : List gL) (s j : Nat) (f : Nat → Int32) : Prop :=
  (∀ v, v < 53 → -100000 * (j : Int) ≤ (f v).toInt ∧ (f v).toInt ≤ 536870912) ∧ (∀ v, v < 53 → (f v).toInt < 536870912 → ∃ l, subL L l ∧ l.length ≤ j ∧ wt s l v ≤ (f v).toInt) ∧
  (∀ l v, v < 53 → subL L l → l.length ≤ j → rok s s l v → (f v).toInt ≤ wt s l v) ∧ (∀ u v, u < 53 → v < 53 → bok s u v → (f v).toInt ≤ (f u).toInt + bd u v) ∧ 0 ≤ (f s).toInt
theorem x_startS {Q : wS → Prop} {σ : wS} {L : List gL} {s : Nat} (hs : s < 53) (hq : ∀ f : Nat → Int32, tabS L s 0 f → Q (sAF σ 25 f)) : wx_X4_startAt Q (nI s) (nI s) σ := by
  refine x_fill (fun f hf => ⟨nI_in hs (by decide), fun σ2 e2 => ?_⟩)
  subst e2
  rw [sA_sAF, nI_clamp (by omega)]
  have z0 : (0 : Int32).toInt = 0 := by decide
  have fv : ∀ v, v < 53 → (upd f s 0 v).toInt = if v = s then 0 else 536870912 := by
    intro v hv
    by_cases e : v = s
    · rw [e, pk_us, if_pos rfl, z0]
    · rw [pk_un e, if_neg e, hf v hv, far_toInt]
  refine x_bndS hs (fun v hv => ?_) (fun e b1 b2 b3 => hq e ⟨fun v hv => ?_, fun v hv hlt => ?_, fun l v hv hl hlen hr => ?_, b2, ?_⟩)
  · rw [fv v hv]; split <;> omega
  · obtain ⟨u, hu, h2⟩ := b3 v hv
    have h3 := bd_nn u v
    have h4 := b1 v hv
    rw [fv u hu] at h2
    rw [fv v hv] at h4
    split at h2 <;> split at h4 <;> omega
  · obtain ⟨u, hu, h2⟩ := b3 v hv
    have h3 := bd_nn u v
    rw [fv u hu] at h2
    by_cases e : u = s
    · subst e
      rw [if_pos rfl] at h2
      exact ⟨[], subL_nil L, Nat.le_refl _, by simp only [wt]; omega⟩
    · rw [if_neg e] at h2; omega
  · have hl0 : l = [] := List.length_eq_zero_iff.mp (by omega)
    subst hl0
    have h1 := b2 s v hs hv hr
    have h2 := b1 s hs
    rw [fv s hs, if_pos rfl] at h2
    simp only [wt]
    omega
  · obtain ⟨u, hu, h2⟩ := b3 s hs
    have h3 := bd_nn u s
    rw [fv u hu] at h2
    split at h2 <;> omega
theorem x_fewer {Q : Int32 → wS → Prop} {σ : wS} {L : List gL} {n s f0 : Nat} (hs : s ≤ 20) (hg : gHas σ L) (ho : okA L) (hn : 1 ≤ n) (hqn : isQ L n) (hf0 : n ≤ f0 ∧ f0 ≤ 54)
    (hq : ∀ (r : Nat) (τ : wS), keepX σ τ → gHas τ L → n ≤ r → r ≤ f0 → (goodS L n s → r ≤ n) → Q (nI r) τ) : wx_X4_fewerLimitsThrough Q (nI s) (nI f0) σ := by
  refine x_startS (L := L) (by omega) (fun f hf m2 em2 => ?_)
  rw [show (1 : Int32) = nI 1 from rfl, pk_sub (by omega), show (53 : Int32) = nI 53 from rfl, pk_sub (by omega), mn_nI (by omega) (by omega)] at em2
  subst em2
  refine wloop_of (fun v : Int32 × wS => ∃ (j : Nat) (f : Nat → Int32) (τ : wS), j ≤ 53 ∧ v.1 = nI (j + 1) ∧ v.2 = sAF τ 25 f ∧ keepX σ τ ∧ gHas τ L ∧ tabS L s j f) (fun v => 60 - v.1.toNatClampNeg) ?_ _ ⟨0, f, σ, by omega, rfl, rfl, keepX.rf σ, hg, hf⟩
  rintro K ⟨x4, υ⟩ ⟨j, f, τ, hj, e4, eυ, kx, hgτ, hf⟩ kk
  dsimp only at e4 eυ kk
  subst e4; subst eυ
  have kx25 : ∀ g : Nat → Int32, keepX σ (sAF τ 25 g) := fun g => kx.trans (keepX.arr τ 25 g (by omega))
  obtain ⟨f1, f2, f3, f4, f5⟩ := id hf
  have late : goodS L n s → j < n := by
    rintro ⟨l, l1, l2, l3, l4⟩
    apply Classical.byContradiction
    intro hc
    have := f3 l s (by omega) l1 (by omega) l3
    omega
  dsimp only [wx_X4_fewerLimitsThrough_L20]
  refine ⟨fun c => hq f0 _ (kx25 f) (hgτ.up f) hf0.1 (Nat.le_refl _) (fun hgd => ?_), fun c σ1 e1 => ?_⟩
  · have c := (nI_ltI (by omega) (by omega)).mp c
    have := good_len ho.L (by omega) hqn hgd
    have := late hgd
    omega
  have hmost : j + 1 ≤ min (f0 - 1) (53 - s) := Nat.le_of_not_lt (fun z => c ((nI_ltI (by omega) (by omega)).mpr z))
  have s25 : ∀ v, v < 53 → σ1.2.2.1 25 v = f v := fun v hv => by
    subst e1
    rw [sAF_out _ (by omega), sAF_at]
  have s26 : ∀ v, v < 53 → σ1.2.2.1 26 v = f v := fun v hv => by
    subst e1
    rw [sAF_at, pk_cpy_in (by omega) (by omega), sAF_at]
    congr 1
    omega
  have kx1 : keepX σ σ1 := by subst e1; exact (kx25 f).trans (keepX.arr _ 26 _ (by omega))
  have hg1 : gHas σ1 L := by subst e1; exact hgτ
  refine x_follow2 (s := s) (f := f) (by omega) hg1 ho s26 s25 (fun v hv => by have := f1 v hv; omega) (fun r g g0 g1 g2 g3 => ⟨fun c1 => ?_, fun c1 => ?_⟩)
  · have glo : ∀ v, v < 53 → -100000 * ((j : Int) + 1) ≤ (g v).toInt := by
      intro v hv
      rcases g3 v hv with z | ⟨a, ha, -, -, -, -, z⟩
      · rw [z]; have := f1 v hv; omega
      · have := f1 a.1 (ho a ha).1
        have := (ho a ha).2.2.1
        omega
    refine x_bndS (s := s) (by omega) (fun v hv => ?_) (fun e b1 b2 b3 => ⟨nI_in (by omega) (by decide), ?_⟩)
    · have := glo v hv; have := g1 v hv; have := f1 v hv
      omega
    have snd : ∀ v, v < 53 → (e v).toInt < 536870912 → ∃ l, subL L l ∧ l.length ≤ j + 1 ∧ wt s l v ≤ (e v).toInt := by
      intro v hv hlt
      obtain ⟨u, hu, h2⟩ := b3 v hv
      have h3 := bd_nn u v
      rcases g3 u hu with z | ⟨a, ha, -, -, z2, z3, z⟩
      · rw [z] at h2
        obtain ⟨l, l1, l2, l3⟩ := f2 u hu (by omega)
        exact ⟨l, l1, by omega, by have := wt_last l s v u; omega⟩
      · obtain ⟨l, l1, l2, l3⟩ := f2 a.1 (ho a ha).1 z3
        refine ⟨l ++ [a], subL_app.mpr ⟨l1, subL_cons.mpr ⟨ha, subL_nil L⟩⟩, by simp; omega, ?_⟩
        rw [wt_cat]
        simp only [wt]
        rw [z2]
        omega
    have cmp : ∀ l v, v < 53 → subL L l → l.length ≤ j + 1 → rok s s l v → (e v).toInt ≤ wt s l v := by
      intro l v hv hl hlen hr
      by_cases c2 : l.length ≤ j
      · have := f3 l v hv hl c2 hr
        have := b1 v hv
        have := g1 v hv
        omega
      · rcases List.eq_nil_or_concat l with rfl | ⟨l0, a, rfl⟩
        · simp at c2
        · rw [List.concat_eq_append] at *
          obtain ⟨s1, s2⟩ := subL_app.mp hl
          have ha := (subL_cons.mp s2).1
          obtain ⟨r1, r2, r3, r4⟩ := rok_last hr
          have hl0 : l0.length ≤ j := by simp at hlen; omega
          have h1 := f3 l0 a.1 (ho a ha).1 s1 hl0 r1
          have h2 := wt_hi ho l0 s a.1 s1
          have h3 := g2 a ha r2 r3 (by omega)
          have h4 := b1 a.2.1 (ho a ha).2.1
          have h5 := b2 a.2.1 v (ho a ha).2.1 hv r4
          rw [wt_cat]
          simp only [wt]
          omega
    rw [aI_sAF_nI σ1 25 e (by omega)]
    have z0 : (0 : Int32).toInt = 0 := by decide
    have kxe : keepX σ (sAF σ1 25 e) := kx1.trans (keepX.arr σ1 25 e (by omega))
    refine ⟨fun c2 a5 e5 => ?_, fun c2 => ?_⟩
    · subst e5
      rw [fa_le, z0] at c2
      refine kk _ ⟨j + 1, e, σ1, by omega, nI_1 (j + 1), rfl, kx1, hg1, fun v hv => ?_, snd, cmp, b2, c2⟩ (by dsimp only; rw [nI_1, nI_clamp (by omega), nI_clamp (by omega)]; omega)
      obtain ⟨u, hu, h2⟩ := b3 v hv
      have h3 := bd_nn u v
      have h4 := glo u hu
      have h5 := b1 v hv; have h6 := g1 v hv; have h7 := f1 v hv
      omega
    · rw [fa_le, z0] at c2
      refine hq (j + 1) _ kxe (hg1.up e) ?_ (by omega) (fun hgd => late hgd)
      obtain ⟨l, l1, l2, l3⟩ := snd s (by omega) (by omega)
      apply Classical.byContradiction
      intro hc
      have := hqn.2 s l (by omega) l1 (by omega)
      omega
  · obtain ⟨q1, q2⟩ := g0 c1
    refine hq f0 _ (kx1.trans (keepX.arr σ1 25 g (by omega))) (hg1.up g) hf0.1 (Nat.le_refl _) (fun hgd => ?_)
    obtain ⟨l, l1, l2, l3, l4⟩ := hgd
    exfalso
    have all : ∀ (m : Nat) (l : List gL) (v : Nat), l.length = m → v < 53 → subL L l → rok s s l v → l.length ≤ n → (f v).toInt ≤ wt s l v := by
      intro m
      induction m with
      | zero => intro l v h1 h2 h3 h4 _; exact f3 l v h2 h3 (by omega) h4
      | succ m ih =>
        intro l v h1 h2 h3 h4 h5
        rcases List.eq_nil_or_concat l with rfl | ⟨l0, a, rfl⟩
        · simp at h1
        · rw [List.concat_eq_append] at *
          obtain ⟨s1, s2⟩ := subL_app.mp h3
          have ha := (subL_cons.mp s2).1
          obtain ⟨r1, r2, r3, r4⟩ := rok_last h4
          have hl0 : l0.length = m := by simp at h1; omega
          have i1 := ih l0 a.1 hl0 (ho a ha).1 s1 r1 (by simp at h5; omega)
          have i2 := wt_hi ho l0 s a.1 s1
          have i3 := q2 a ha r2 r3 (by simp at h5; omega)
          have i4 := f4 a.2.1 v (ho a ha).2.1 h2 r4
          rw [wt_cat]
          simp only [wt]
          omega
    have := all _ l s rfl (by omega) l1 l3 (by omega)
    omega
theorem x_fewest {Q : Int32 → wS → Prop} {σ : wS} {L : List gL} {n : Nat} (hg : gHas σ L) (ho : okA L) (hF : ∀ a ∈ L, a.1 < 21 ∨ a.2.1 < 21) (hn : 1 ≤ n) (hqn : isQ L n) (hq : ∀ τ : wS, keepX σ τ → Q (nI n) τ) : wx_X4_fewestLimits Q σ := by
  have hn53 := isQ_le ho.L hF hn hqn
  refine wloop_of (fun v : Int32 × Int32 × wS => ∃ (s f0 : Nat), s ≤ 21 ∧ v.1 = nI f0 ∧ v.2.1 = nI s ∧ n ≤ f0 ∧ f0 ≤ 54 ∧ keepX σ v.2.2 ∧ gHas v.2.2 L ∧ ∀ t, t < s → goodS L n t → f0 ≤ n) (fun v => 21 - v.2.1.toNatClampNeg) ?_ _ ⟨0, 54, by omega, rfl, rfl, by omega, by omega, keepX.rf σ, hg, fun t ht => absurd ht (Nat.not_lt_zero t)⟩
  rintro K ⟨x1, x2, τ⟩ ⟨s, f0, hs, e1, e2, h1, h2, kx, hgτ, h3⟩ kk
  dsimp only at e1 e2 kx hgτ kk
  subst e1; subst e2
  dsimp only [wx_X4_fewestLimits_L5]
  refine ⟨fun c => ?_, fun c => ?_⟩
  · have : 21 ≤ s := (nI_leI (a := 21) (by omega) (by omega)).mp c
    obtain ⟨t, t1, t2⟩ := good_of hF hn hqn
    have := h3 t (by omega) t2
    have e : f0 = n := by omega
    subst e
    exact hq τ kx
  have hlt : s < 21 := Nat.lt_of_not_le (fun z => c ((nI_leI (a := 21) (by omega) (by omega)).mpr z))
  refine x_fewer (by omega) hgτ ho hn hqn ⟨h1, h2⟩ (fun r υ ku hgu r1 r2 r3 a3 e3 => ?_)
  subst e3
  refine kk _ ⟨s + 1, r, by omega, rfl, nI_1 s, r1, by omega, kx.trans ku, hgu, fun t ht hgt => ?_⟩ (by dsimp only; rw [nI_1, nI_clamp (by omega), nI_clamp (by omega)]; omega)
  by_cases e : t = s
  · subst e; exact r3 hgt
  · have := h3 t (by omega) hgt
    omega
