def rT_frees (Rel : wS → wS → Prop) : Prop := ∀ (σx σm : wS) (x1 x2 : Int32), Rel σx σm → wx_X5_frees (fun r1 σx1 => wm_X6_frees (fun r2 σm1 => r1 = r2 ∧ Rel σx1 σm1) x1 x2 σm) x1 x2 σx
set_option maxRecDepth 100000 in
set_option maxHeartbeats 4000000 in
theorem law_frees {Rel : wS → wS → Prop} (hr : rT_frees Rel) {p : Program} {l : Launch} {e : Env} {s : State} {m : MethodId} {below : List Frame} {meth : Method} {c : Code} {H : Heap} {locs : List Loc} {QQ : State → Prop} {b L : Nat} {xs : Nat → Int32} {gx gm : wG} (C : lwC p s m c b L xs gx gm) {σx σm : wS} (hR : Rel σx σm) (hZ : lwZ gx gm σx σm H s) (hS : va_S (lwA s) s.heap H locs) {ls : Array Slot} {x3 : Int32} (hl : lv_has ls 4 [(0, .ref b), (1, .ref (gx.2.1 0)), (2, .ref (gm.2.1 0)), (3, .int x3)]) (hi : lwI x3 L)
    (kont : ∀ (σx σm : wS) (H : Heap) (locs : List Loc), Rel σx σm → lwZ gx gm σx σm H s → va_S (lwA s) s.heap H locs → W p l e room_1 s m #[Value.ref b] below meth c H locs 65 12543 QQ (F0 m 1114 ls [])) : W p l e room_1 s m #[Value.ref b] below meth c H locs 65 12543 QQ (F0 m 695 ls []) := by
  obtain ⟨hx, hb, hml, hown, hts, hX, hbl, -, -, -⟩ := id C
  have hbA : ¬ lwA s b := Nat.not_le.mpr hbl
  obtain ⟨h_0, h_1, h_2, h_3, h_4, h_5⟩ := hi
  refine lv_aload_n hx hb dL_law_695 rfl (lv_at hl 1 rfl) ?_
  refine lv_aload_n hx hb dL_law_696 rfl (lv_at hl 0 rfl) ?_
  refine lv_iload_n hx hb dL_law_697 rfl (lv_at hl 3 rfl) ?_
  refine lv_iconst (v := 1) hx hb dL_law_698 (by decide) ?_
  refine lv_iadd hx hb dL_law_699 ?_
  refine va_sld hx hb hX hbl hbA hS h_1 dL_law_700 ?_
  refine lv_aload_n hx hb dL_law_701 rfl (lv_at hl 0 rfl) ?_
  refine lv_iload_n hx hb dL_law_702 rfl (lv_at hl 3 rfl) ?_
  refine lv_iconst (v := 2) hx hb dL_law_703 (by decide) ?_
  refine lv_iadd hx hb dL_law_704 ?_
  refine va_sld hx hb hX hbl hbA hS h_2 dL_law_705 ?_
  have hw := hr σx σm (xs (x3 + 1).toNatClampNeg) (xs (x3 + 2).toNatClampNeg)  hR
  refine lawX C (cx_X5_frees l gx (σ := σx) hw) (cwV 2 hts gL_law_X5_frees rfl rfl rfl (by decide +kernel) ⟨Nat.le_of_ble_eq_true rfl, Nat.le_of_ble_eq_true rfl⟩) hZ hS hl.1 rfl rfl (Nat.le_of_ble_eq_true rfl) dL_law_706 (fun r1 σx1 H locs hw hZ hS => ?_)
  refine lv_aload_n hx hb dL_law_709 rfl (lv_at hl 2 rfl) ?_
  refine lv_aload_n hx hb dL_law_710 rfl (lv_at hl 0 rfl) ?_
  refine lv_iload_n hx hb dL_law_711 rfl (lv_at hl 3 rfl) ?_
  refine lv_iconst (v := 1) hx hb dL_law_712 (by decide) ?_
  refine lv_iadd hx hb dL_law_713 ?_
  refine va_sld hx hb hX hbl hbA hS h_1 dL_law_714 ?_
  refine lv_aload_n hx hb dL_law_715 rfl (lv_at hl 0 rfl) ?_
  refine lv_iload_n hx hb dL_law_716 rfl (lv_at hl 3 rfl) ?_
  refine lv_iconst (v := 2) hx hb dL_law_717 (by decide) ?_
  refine lv_iadd hx hb dL_law_718 ?_
  refine va_sld hx hb hX hbl hbA hS h_2 dL_law_719 ?_
  refine lawM C (cm_X6_frees l gm (σ := σm) hw) (cwV 2 hts gL_law_X6_frees rfl rfl rfl (by decide +kernel) ⟨Nat.le_of_ble_eq_true rfl, Nat.le_of_ble_eq_true rfl⟩) hZ hS hl.1 rfl rfl (Nat.le_of_ble_eq_true rfl) dL_law_720 (fun r2 σm1 H locs hw hZ hS => ?_)
  exact lv_icmp_eq (tgt := 1114) hx hb dL_law_723 (by decide) (fun _ => kont _ _ _ _ hw.2 hZ hS) (fun hc => absurd hw.1 hc)
def rT_order (Rel : wS → wS → Prop) : Prop := ∀ (σx σm : wS) (x1 x2 x3 : Int32), Rel σx σm → wx_X5_order (fun r1 σx1 => wm_X6_order (fun r2 σm1 => r1 = r2 ∧ Rel σx1 σm1) x1 x2 x3 σm) x1 x2 x3 σx
set_option maxRecDepth 100000 in
set_option maxHeartbeats 4000000 in
theorem law_order {Rel : wS → wS → Prop} (hr : rT_order Rel) {p : Program} {l : Launch} {e : Env} {s : State} {m : MethodId} {below : List Frame} {meth : Method} {c : Code} {H : Heap} {locs : List Loc} {QQ : State → Prop} {b L : Nat} {xs : Nat → Int32} {gx gm : wG} (C : lwC p s m c b L xs gx gm) {σx σm : wS} (hR : Rel σx σm) (hZ : lwZ gx gm σx σm H s) (hS : va_S (lwA s) s.heap H locs) {ls : Array Slot} {x3 : Int32} (hl : lv_has ls 4 [(0, .ref b), (1, .ref (gx.2.1 0)), (2, .ref (gm.2.1 0)), (3, .int x3)]) (hi : lwI x3 L)
    (kont : ∀ (σx σm : wS) (H : Heap) (locs : List Loc), Rel σx σm → lwZ gx gm σx σm H s → va_S (lwA s) s.heap H locs → W p l e room_1 s m #[Value.ref b] below meth c H locs 65 12543 QQ (F0 m 1114 ls [])) : W p l e room_1 s m #[Value.ref b] below meth c H locs 65 12543 QQ (F0 m 728 ls []) := by
  obtain ⟨hx, hb, hml, hown, hts, hX, hbl, -, -, -⟩ := id C
  have hbA : ¬ lwA s b := Nat.not_le.mpr hbl
  obtain ⟨h_0, h_1, h_2, h_3, h_4, h_5⟩ := hi
  refine lv_aload_n hx hb dL_law_728 rfl (lv_at hl 1 rfl) ?_
  refine lv_aload_n hx hb dL_law_729 rfl (lv_at hl 0 rfl) ?_
  refine lv_iload_n hx hb dL_law_730 rfl (lv_at hl 3 rfl) ?_
  refine lv_iconst (v := 1) hx hb dL_law_731 (by decide) ?_
  refine lv_iadd hx hb dL_law_732 ?_
  refine va_sld hx hb hX hbl hbA hS h_1 dL_law_733 ?_
  refine lv_aload_n hx hb dL_law_734 rfl (lv_at hl 0 rfl) ?_
  refine lv_iload_n hx hb dL_law_735 rfl (lv_at hl 3 rfl) ?_
  refine lv_iconst (v := 2) hx hb dL_law_736 (by decide) ?_
  refine lv_iadd hx hb dL_law_737 ?_
  refine va_sld hx hb hX hbl hbA hS h_2 dL_law_738 ?_
  refine lv_aload_n hx hb dL_law_739 rfl (lv_at hl 0 rfl) ?_
  refine lv_iload_n hx hb dL_law_740 rfl (lv_at hl 3 rfl) ?_
  refine lv_iconst (v := 3) hx hb dL_law_741 (by decide) ?_
  refine lv_iadd hx hb dL_law_742 ?_
  refine va_sld hx hb hX hbl hbA hS h_3 dL_law_743 ?_
  have hw := hr σx σm (xs (x3 + 1).toNatClampNeg) (xs (x3 + 2).toNatClampNeg) (xs (x3 + 3).toNatClampNeg)  hR
  refine lawX C (cx_X5_order l gx (σ := σx) hw) (cwV 3 hts gL_law_X5_order rfl rfl rfl (by decide +kernel) ⟨Nat.le_of_ble_eq_true rfl, Nat.le_of_ble_eq_true rfl⟩) hZ hS hl.1 rfl rfl (Nat.le_of_ble_eq_true rfl) dL_law_744 (fun r1 σx1 H locs hw hZ hS => ?_)
  refine lv_aload_n hx hb dL_law_747 rfl (lv_at hl 2 rfl) ?_
  refine lv_aload_n hx hb dL_law_748 rfl (lv_at hl 0 rfl) ?_
  refine lv_iload_n hx hb dL_law_749 rfl (lv_at hl 3 rfl) ?_
  refine lv_iconst (v := 1) hx hb dL_law_750 (by decide) ?_
  refine lv_iadd hx hb dL_law_751 ?_
  refine va_sld hx hb hX hbl hbA hS h_1 dL_law_752 ?_
  refine lv_aload_n hx hb dL_law_753 rfl (lv_at hl 0 rfl) ?_
  refine lv_iload_n hx hb dL_law_754 rfl (lv_at hl 3 rfl) ?_
  refine lv_iconst (v := 2) hx hb dL_law_755 (by decide) ?_
  refine lv_iadd hx hb dL_law_756 ?_
  refine va_sld hx hb hX hbl hbA hS h_2 dL_law_757 ?_
  refine lv_aload_n hx hb dL_law_758 rfl (lv_at hl 0 rfl) ?_
  refine lv_iload_n hx hb dL_law_759 rfl (lv_at hl 3 rfl) ?_
  refine lv_iconst (v := 3) hx hb dL_law_760 (by decide) ?_
  refine lv_iadd hx hb dL_law_761 ?_
  refine va_sld hx hb hX hbl hbA hS h_3 dL_law_762 ?_
  refine lawM C (cm_X6_order l gm (σ := σm) hw) (cwV 3 hts gL_law_X6_order rfl rfl rfl (by decide +kernel) ⟨Nat.le_of_ble_eq_true rfl, Nat.le_of_ble_eq_true rfl⟩) hZ hS hl.1 rfl rfl (Nat.le_of_ble_eq_true rfl) dL_law_763 (fun r2 σm1 H locs hw hZ hS => ?_)
  exact lv_icmp_eq (tgt := 1114) hx hb dL_law_766 (by decide) (fun _ => kont _ _ _ _ hw.2 hZ hS) (fun hc => absurd hw.1 hc)
def rT_edges (Rel : wS → wS → Prop) : Prop := ∀ (σx σm : wS) (x1 x2 x3 : Int32), Rel σx σm → wx_X5_edges (fun r1 σx1 => wm_X6_edges (fun r2 σm1 => r1 = r2 ∧ Rel σx1 σm1) x1 x2 x3 σm) x1 x2 x3 σx
set_option maxRecDepth 100000 in
set_option maxHeartbeats 4000000 in
theorem law_edges {Rel : wS → wS → Prop} (hr : rT_edges Rel) {p : Program} {l : Launch} {e : Env} {s : State} {m : MethodId} {below : List Frame} {meth : Method} {c : Code} {H : Heap} {locs : List Loc} {QQ : State → Prop} {b L : Nat} {xs : Nat → Int32} {gx gm : wG} (C : lwC p s m c b L xs gx gm) {σx σm : wS} (hR : Rel σx σm) (hZ : lwZ gx gm σx σm H s) (hS : va_S (lwA s) s.heap H locs) {ls : Array Slot} {x3 : Int32} (hl : lv_has ls 4 [(0, .ref b), (1, .ref (gx.2.1 0)), (2, .ref (gm.2.1 0)), (3, .int x3)]) (hi : lwI x3 L)
    (kont : ∀ (σx σm : wS) (H : Heap) (locs : List Loc), Rel σx σm → lwZ gx gm σx σm H s → va_S (lwA s) s.heap H locs → W p l e room_1 s m #[Value.ref b] below meth c H locs 65 12543 QQ (F0 m 1114 ls [])) : W p l e room_1 s m #[Value.ref b] below meth c H locs 65 12543 QQ (F0 m 771 ls []) := by
  obtain ⟨hx, hb, hml, hown, hts, hX, hbl, -, -, -⟩ := id C
  have hbA : ¬ lwA s b := Nat.not_le.mpr hbl
  obtain ⟨h_0, h_1, h_2, h_3, h_4, h_5⟩ := hi
  refine lv_aload_n hx hb dL_law_771 rfl (lv_at hl 1 rfl) ?_
  refine lv_aload_n hx hb dL_law_772 rfl (lv_at hl 0 rfl) ?_
  refine lv_iload_n hx hb dL_law_773 rfl (lv_at hl 3 rfl) ?_
  refine lv_iconst (v := 1) hx hb dL_law_774 (by decide) ?_
  refine lv_iadd hx hb dL_law_775 ?_
  refine va_sld hx hb hX hbl hbA hS h_1 dL_law_776 ?_
  refine lv_aload_n hx hb dL_law_777 rfl (lv_at hl 0 rfl) ?_
  refine lv_iload_n hx hb dL_law_778 rfl (lv_at hl 3 rfl) ?_
  refine lv_iconst (v := 2) hx hb dL_law_779 (by decide) ?_
  refine lv_iadd hx hb dL_law_780 ?_
  refine va_sld hx hb hX hbl hbA hS h_2 dL_law_781 ?_
  refine lv_aload_n hx hb dL_law_782 rfl (lv_at hl 0 rfl) ?_
  refine lv_iload_n hx hb dL_law_783 rfl (lv_at hl 3 rfl) ?_
  refine lv_iconst (v := 3) hx hb dL_law_784 (by decide) ?_
  refine lv_iadd hx hb dL_law_785 ?_
  refine va_sld hx hb hX hbl hbA hS h_3 dL_law_786 ?_
  have hw := hr σx σm (xs (x3 + 1).toNatClampNeg) (xs (x3 + 2).toNatClampNeg) (xs (x3 + 3).toNatClampNeg)  hR
  refine lawX C (cx_X5_edges l gx (σ := σx) hw) (cwV 3 hts gL_law_X5_edges rfl rfl rfl (by decide +kernel) ⟨Nat.le_of_ble_eq_true rfl, Nat.le_of_ble_eq_true rfl⟩) hZ hS hl.1 rfl rfl (Nat.le_of_ble_eq_true rfl) dL_law_787 (fun r1 σx1 H locs hw hZ hS => ?_)
  refine lv_aload_n hx hb dL_law_790 rfl (lv_at hl 2 rfl) ?_
  refine lv_aload_n hx hb dL_law_791 rfl (lv_at hl 0 rfl) ?_
  refine lv_iload_n hx hb dL_law_792 rfl (lv_at hl 3 rfl) ?_
  refine lv_iconst (v := 1) hx hb dL_law_793 (by decide) ?_
  refine lv_iadd hx hb dL_law_794 ?_
  refine va_sld hx hb hX hbl hbA hS h_1 dL_law_795 ?_
  refine lv_aload_n hx hb dL_law_796 rfl (lv_at hl 0 rfl) ?_
  refine lv_iload_n hx hb dL_law_797 rfl (lv_at hl 3 rfl) ?_
  refine lv_iconst (v := 2) hx hb dL_law_798 (by decide) ?_
  refine lv_iadd hx hb dL_law_799 ?_
  refine va_sld hx hb hX hbl hbA hS h_2 dL_law_800 ?_
  refine lv_aload_n hx hb dL_law_801 rfl (lv_at hl 0 rfl) ?_
  refine lv_iload_n hx hb dL_law_802 rfl (lv_at hl 3 rfl) ?_
  refine lv_iconst (v := 3) hx hb dL_law_803 (by decide) ?_
  refine lv_iadd hx hb dL_law_804 ?_
  refine va_sld hx hb hX hbl hbA hS h_3 dL_law_805 ?_
  refine lawM C (cm_X6_edges l gm (σ := σm) hw) (cwV 3 hts gL_law_X6_edges rfl rfl rfl (by decide +kernel) ⟨Nat.le_of_ble_eq_true rfl, Nat.le_of_ble_eq_true rfl⟩) hZ hS hl.1 rfl rfl (Nat.le_of_ble_eq_true rfl) dL_law_806 (fun r2 σm1 H locs hw hZ hS => ?_)
  exact lv_icmp_eq (tgt := 1114) hx hb dL_law_809 (by decide) (fun _ => kont _ _ _ _ hw.2 hZ hS) (fun hc => absurd hw.1 hc)
def rT_row (Rel : wS → wS → Prop) : Prop := ∀ (σx σm : wS) (x1 : Int32), Rel σx σm → wx_X5_row (fun r1 σx1 => wm_X6_row (fun r2 σm1 => r1 = r2 ∧ Rel σx1 σm1) x1 σm) x1 σx
set_option maxRecDepth 100000 in
set_option maxHeartbeats 4000000 in
theorem law_row {Rel : wS → wS → Prop} (hr : rT_row Rel) {p : Program} {l : Launch} {e : Env} {s : State} {m : MethodId} {below : List Frame} {meth : Method} {c : Code} {H : Heap} {locs : List Loc} {QQ : State → Prop} {b L : Nat} {xs : Nat → Int32} {gx gm : wG} (C : lwC p s m c b L xs gx gm) {σx σm : wS} (hR : Rel σx σm) (hZ : lwZ gx gm σx σm H s) (hS : va_S (lwA s) s.heap H locs) {ls : Array Slot} {x3 : Int32} (hl : lv_has ls 4 [(0, .ref b), (1, .ref (gx.2.1 0)), (2, .ref (gm.2.1 0)), (3, .int x3)]) (hi : lwI x3 L)
    (kont : ∀ (σx σm : wS) (H : Heap) (locs : List Loc), Rel σx σm → lwZ gx gm σx σm H s → va_S (lwA s) s.heap H locs → W p l e room_1 s m #[Value.ref b] below meth c H locs 65 12543 QQ (F0 m 1114 ls [])) : W p l e room_1 s m #[Value.ref b] below meth c H locs 65 12543 QQ (F0 m 814 ls []) := by
  obtain ⟨hx, hb, hml, hown, hts, hX, hbl, -, -, -⟩ := id C
  have hbA : ¬ lwA s b := Nat.not_le.mpr hbl
  obtain ⟨h_0, h_1, h_2, h_3, h_4, h_5⟩ := hi
  refine lv_aload_n hx hb dL_law_814 rfl (lv_at hl 1 rfl) ?_
  refine lv_aload_n hx hb dL_law_815 rfl (lv_at hl 0 rfl) ?_
  refine lv_iload_n hx hb dL_law_816 rfl (lv_at hl 3 rfl) ?_
  refine lv_iconst (v := 1) hx hb dL_law_817 (by decide) ?_
  refine lv_iadd hx hb dL_law_818 ?_
  refine va_sld hx hb hX hbl hbA hS h_1 dL_law_819 ?_
  have hw := hr σx σm (xs (x3 + 1).toNatClampNeg)  hR
  refine lawX C (cx_X5_row l gx (σ := σx) hw) (cwV 1 hts gL_law_X5_row rfl rfl rfl (by decide +kernel) ⟨Nat.le_of_ble_eq_true rfl, Nat.le_of_ble_eq_true rfl⟩) hZ hS hl.1 rfl rfl (Nat.le_of_ble_eq_true rfl) dL_law_820 (fun r1 σx1 H locs hw hZ hS => ?_)
  refine lv_aload_n hx hb dL_law_823 rfl (lv_at hl 2 rfl) ?_
  refine lv_aload_n hx hb dL_law_824 rfl (lv_at hl 0 rfl) ?_
  refine lv_iload_n hx hb dL_law_825 rfl (lv_at hl 3 rfl) ?_
  refine lv_iconst (v := 1) hx hb dL_law_826 (by decide) ?_
  refine lv_iadd hx hb dL_law_827 ?_
  refine va_sld hx hb hX hbl hbA hS h_1 dL_law_828 ?_
  refine lawM C (cm_X6_row l gm (σ := σm) hw) (cwV 1 hts gL_law_X6_row rfl rfl rfl (by decide +kernel) ⟨Nat.le_of_ble_eq_true rfl, Nat.le_of_ble_eq_true rfl⟩) hZ hS hl.1 rfl rfl (Nat.le_of_ble_eq_true rfl) dL_law_829 (fun r2 σm1 H locs hw hZ hS => ?_)
  exact lv_icmp_eq (tgt := 1114) hx hb dL_law_832 (by decide) (fun _ => kont _ _ _ _ hw.2 hZ hS) (fun hc => absurd hw.1 hc)
def rT_ring (Rel : wS → wS → Prop) : Prop := ∀ (σx σm : wS) (x1 : Int32), Rel σx σm → wx_X5_ring (fun r1 σx1 => wm_X6_ring (fun r2 σm1 => r1 = r2 ∧ Rel σx1 σm1) x1 σm) x1 σx
set_option maxRecDepth 100000 in
set_option maxHeartbeats 4000000 in
theorem law_ring {Rel : wS → wS → Prop} (hr : rT_ring Rel) {p : Program} {l : Launch} {e : Env} {s : State} {m : MethodId} {below : List Frame} {meth : Method} {c : Code} {H : Heap} {locs : List Loc} {QQ : State → Prop} {b L : Nat} {xs : Nat → Int32} {gx gm : wG} (C : lwC p s m c b L xs gx gm) {σx σm : wS} (hR : Rel σx σm) (hZ : lwZ gx gm σx σm H s) (hS : va_S (lwA s) s.heap H locs) {ls : Array Slot} {x3 : Int32} (hl : lv_has ls 4 [(0, .ref b), (1, .ref (gx.2.1 0)), (2, .ref (gm.2.1 0)), (3, .int x3)]) (hi : lwI x3 L)
    (kont : ∀ (σx σm : wS) (H : Heap) (locs : List Loc), Rel σx σm → lwZ gx gm σx σm H s → va_S (lwA s) s.heap H locs → W p l e room_1 s m #[Value.ref b] below meth c H locs 65 12543 QQ (F0 m 1114 ls [])) : W p l e room_1 s m #[Value.ref b] below meth c H locs 65 12543 QQ (F0 m 837 ls []) := by
  obtain ⟨hx, hb, hml, hown, hts, hX, hbl, -, -, -⟩ := id C
  have hbA : ¬ lwA s b := Nat.not_le.mpr hbl
  obtain ⟨h_0, h_1, h_2, h_3, h_4, h_5⟩ := hi
  refine lv_aload_n hx hb dL_law_837 rfl (lv_at hl 1 rfl) ?_
  refine lv_aload_n hx hb dL_law_838 rfl (lv_at hl 0 rfl) ?_
  refine lv_iload_n hx hb dL_law_839 rfl (lv_at hl 3 rfl) ?_
  refine lv_iconst (v := 1) hx hb dL_law_840 (by decide) ?_
  refine lv_iadd hx hb dL_law_841 ?_
  refine va_sld hx hb hX hbl hbA hS h_1 dL_law_842 ?_
  have hw := hr σx σm (xs (x3 + 1).toNatClampNeg)  hR
  refine lawX C (cx_X5_ring l gx (σ := σx) hw) (cwV 1 hts gL_law_X5_ring rfl rfl rfl (by decide +kernel) ⟨Nat.le_of_ble_eq_true rfl, Nat.le_of_ble_eq_true rfl⟩) hZ hS hl.1 rfl rfl (Nat.le_of_ble_eq_true rfl) dL_law_843 (fun r1 σx1 H locs hw hZ hS => ?_)
  refine lv_aload_n hx hb dL_law_846 rfl (lv_at hl 2 rfl) ?_
  refine lv_aload_n hx hb dL_law_847 rfl (lv_at hl 0 rfl) ?_
  refine lv_iload_n hx hb dL_law_848 rfl (lv_at hl 3 rfl) ?_
  refine lv_iconst (v := 1) hx hb dL_law_849 (by decide) ?_
  refine lv_iadd hx hb dL_law_850 ?_
  refine va_sld hx hb hX hbl hbA hS h_1 dL_law_851 ?_
  refine lawM C (cm_X6_ring l gm (σ := σm) hw) (cwV 1 hts gL_law_X6_ring rfl rfl rfl (by decide +kernel) ⟨Nat.le_of_ble_eq_true rfl, Nat.le_of_ble_eq_true rfl⟩) hZ hS hl.1 rfl rfl (Nat.le_of_ble_eq_true rfl) dL_law_852 (fun r2 σm1 H locs hw hZ hS => ?_)
  exact lv_icmp_eq (tgt := 1114) hx hb dL_law_855 (by decide) (fun _ => kont _ _ _ _ hw.2 hZ hS) (fun hc => absurd hw.1 hc)
def rT_rows (Rel : wS → wS → Prop) : Prop := ∀ (σx σm : wS) (x1 : Int32), Rel σx σm → wx_X5_rows (fun r1 σx1 => wm_X6_rows (fun r2 σm1 => r1 = r2 ∧ Rel σx1 σm1) x1 σm) x1 σx
set_option maxRecDepth 100000 in
set_option maxHeartbeats 4000000 in
theorem law_rows {Rel : wS → wS → Prop} (hr : rT_rows Rel) {p : Program} {l : Launch} {e : Env} {s : State} {m : MethodId} {below : List Frame} {meth : Method} {c : Code} {H : Heap} {locs : List Loc} {QQ : State → Prop} {b L : Nat} {xs : Nat → Int32} {gx gm : wG} (C : lwC p s m c b L xs gx gm) {σx σm : wS} (hR : Rel σx σm) (hZ : lwZ gx gm σx σm H s) (hS : va_S (lwA s) s.heap H locs) {ls : Array Slot} {x3 : Int32} (hl : lv_has ls 4 [(0, .ref b), (1, .ref (gx.2.1 0)), (2, .ref (gm.2.1 0)), (3, .int x3)]) (hi : lwI x3 L)
    (kont : ∀ (σx σm : wS) (H : Heap) (locs : List Loc), Rel σx σm → lwZ gx gm σx σm H s → va_S (lwA s) s.heap H locs → W p l e room_1 s m #[Value.ref b] below meth c H locs 65 12543 QQ (F0 m 1114 ls [])) : W p l e room_1 s m #[Value.ref b] below meth c H locs 65 12543 QQ (F0 m 860 ls []) := by
  obtain ⟨hx, hb, hml, hown, hts, hX, hbl, -, -, -⟩ := id C
  have hbA : ¬ lwA s b := Nat.not_le.mpr hbl
  obtain ⟨h_0, h_1, h_2, h_3, h_4, h_5⟩ := hi
  refine lv_aload_n hx hb dL_law_860 rfl (lv_at hl 1 rfl) ?_
  refine lv_aload_n hx hb dL_law_861 rfl (lv_at hl 0 rfl) ?_
  refine lv_iload_n hx hb dL_law_862 rfl (lv_at hl 3 rfl) ?_
  refine lv_iconst (v := 1) hx hb dL_law_863 (by decide) ?_
  refine lv_iadd hx hb dL_law_864 ?_
  refine va_sld hx hb hX hbl hbA hS h_1 dL_law_865 ?_
  have hw := hr σx σm (xs (x3 + 1).toNatClampNeg)  hR
  refine lawX C (cx_X5_rows l gx (σ := σx) hw) (cwV 1 hts gL_law_X5_rows rfl rfl rfl (by decide +kernel) ⟨Nat.le_of_ble_eq_true rfl, Nat.le_of_ble_eq_true rfl⟩) hZ hS hl.1 rfl rfl (Nat.le_of_ble_eq_true rfl) dL_law_866 (fun r1 σx1 H locs hw hZ hS => ?_)
  refine lv_aload_n hx hb dL_law_869 rfl (lv_at hl 2 rfl) ?_
  refine lv_aload_n hx hb dL_law_870 rfl (lv_at hl 0 rfl) ?_
  refine lv_iload_n hx hb dL_law_871 rfl (lv_at hl 3 rfl) ?_
  refine lv_iconst (v := 1) hx hb dL_law_872 (by decide) ?_
  refine lv_iadd hx hb dL_law_873 ?_
  refine va_sld hx hb hX hbl hbA hS h_1 dL_law_874 ?_
  refine lawM C (cm_X6_rows l gm (σ := σm) hw) (cwV 1 hts gL_law_X6_rows rfl rfl rfl (by decide +kernel) ⟨Nat.le_of_ble_eq_true rfl, Nat.le_of_ble_eq_true rfl⟩) hZ hS hl.1 rfl rfl (Nat.le_of_ble_eq_true rfl) dL_law_875 (fun r2 σm1 H locs hw hZ hS => ?_)
  exact lv_icmp_eq (tgt := 1114) hx hb dL_law_878 (by decide) (fun _ => kont _ _ _ _ hw.2 hZ hS) (fun hc => absurd hw.1 hc)
def rT_out (Rel : wS → wS → Prop) : Prop := ∀ (σx σm : wS) (x1 : Int32), Rel σx σm → wx_X5_out (fun r1 => wm_X6_out (fun r2 σm1 => r1 = r2 ∧ Rel σx σm1) x1 σm) x1 σx
set_option maxRecDepth 100000 in
set_option maxHeartbeats 4000000 in
theorem law_out {Rel : wS → wS → Prop} (hr : rT_out Rel) {p : Program} {l : Launch} {e : Env} {s : State} {m : MethodId} {below : List Frame} {meth : Method} {c : Code} {H : Heap} {locs : List Loc} {QQ : State → Prop} {b L : Nat} {xs : Nat → Int32} {gx gm : wG} (C : lwC p s m c b L xs gx gm) {σx σm : wS} (hR : Rel σx σm) (hZ : lwZ gx gm σx σm H s) (hS : va_S (lwA s) s.heap H locs) {ls : Array Slot} {x3 : Int32} (hl : lv_has ls 4 [(0, .ref b), (1, .ref (gx.2.1 0)), (2, .ref (gm.2.1 0)), (3, .int x3)]) (hi : lwI x3 L)
    (kont : ∀ (σx σm : wS) (H : Heap) (locs : List Loc), Rel σx σm → lwZ gx gm σx σm H s → va_S (lwA s) s.heap H locs → W p l e room_1 s m #[Value.ref b] below meth c H locs 65 12543 QQ (F0 m 1114 ls [])) : W p l e room_1 s m #[Value.ref b] below meth c H locs 65 12543 QQ (F0 m 883 ls []) := by
  obtain ⟨hx, hb, hml, hown, hts, hX, hbl, -, -, -⟩ := id C
  have hbA : ¬ lwA s b := Nat.not_le.mpr hbl
  obtain ⟨h_0, h_1, h_2, h_3, h_4, h_5⟩ := hi
  refine lv_aload_n hx hb dL_law_883 rfl (lv_at hl 1 rfl) ?_
  refine lv_aload_n hx hb dL_law_884 rfl (lv_at hl 0 rfl) ?_
  refine lv_iload_n hx hb dL_law_885 rfl (lv_at hl 3 rfl) ?_
  refine lv_iconst (v := 1) hx hb dL_law_886 (by decide) ?_
  refine lv_iadd hx hb dL_law_887 ?_
  refine va_sld hx hb hX hbl hbA hS h_1 dL_law_888 ?_
  have hw := hr σx σm (xs (x3 + 1).toNatClampNeg)  hR
  refine lawX C (cx_X5_out l gx (σ := σx) hw) (cwV 1 hts gL_law_X5_out rfl rfl rfl (by decide +kernel) ⟨Nat.le_of_ble_eq_true rfl, Nat.le_of_ble_eq_true rfl⟩) hZ hS hl.1 rfl rfl (Nat.le_of_ble_eq_true rfl) dL_law_889 (fun r1 σx1 H locs hw hZ hS => ?_)
  obtain ⟨hw, hq⟩ := hw
  rw [hq] at hZ
  refine lv_aload_n hx hb dL_law_892 rfl (lv_at hl 2 rfl) ?_
  refine lv_aload_n hx hb dL_law_893 rfl (lv_at hl 0 rfl) ?_
  refine lv_iload_n hx hb dL_law_894 rfl (lv_at hl 3 rfl) ?_
  refine lv_iconst (v := 1) hx hb dL_law_895 (by decide) ?_
  refine lv_iadd hx hb dL_law_896 ?_
  refine va_sld hx hb hX hbl hbA hS h_1 dL_law_897 ?_
  refine lawM C (cm_X6_out l gm (σ := σm) hw) (cwV 1 hts gL_law_X6_out rfl rfl rfl (by decide +kernel) ⟨Nat.le_of_ble_eq_true rfl, Nat.le_of_ble_eq_true rfl⟩) hZ hS hl.1 rfl rfl (Nat.le_of_ble_eq_true rfl) dL_law_898 (fun r2 σm1 H locs hw hZ hS => ?_)
  exact lv_icmp_eq (tgt := 1114) hx hb dL_law_901 (by decide) (fun _ => kont _ _ _ _ hw.2 hZ hS) (fun hc => absurd hw.1 hc)
def rT_want (Rel : wS → wS → Prop) : Prop := ∀ (σx σm : wS) (x1 x2 x3 x4 : Int32), Rel σx σm → wx_X5_want (fun r1 σx1 => wm_X6_want (fun r2 σm1 => r1 = r2 ∧ Rel σx1 σm1) x1 x2 x3 x4 σm) x1 x2 x3 x4 σx
set_option maxRecDepth 100000 in
set_option maxHeartbeats 4000000 in
theorem law_want {Rel : wS → wS → Prop} (hr : rT_want Rel) {p : Program} {l : Launch} {e : Env} {s : State} {m : MethodId} {below : List Frame} {meth : Method} {c : Code} {H : Heap} {locs : List Loc} {QQ : State → Prop} {b L : Nat} {xs : Nat → Int32} {gx gm : wG} (C : lwC p s m c b L xs gx gm) {σx σm : wS} (hR : Rel σx σm) (hZ : lwZ gx gm σx σm H s) (hS : va_S (lwA s) s.heap H locs) {ls : Array Slot} {x3 : Int32} (hl : lv_has ls 4 [(0, .ref b), (1, .ref (gx.2.1 0)), (2, .ref (gm.2.1 0)), (3, .int x3)]) (hi : lwI x3 L)
    (kont : ∀ (σx σm : wS) (H : Heap) (locs : List Loc), Rel σx σm → lwZ gx gm σx σm H s → va_S (lwA s) s.heap H locs → W p l e room_1 s m #[Value.ref b] below meth c H locs 65 12543 QQ (F0 m 1114 ls [])) : W p l e room_1 s m #[Value.ref b] below meth c H locs 65 12543 QQ (F0 m 906 ls []) := by
  obtain ⟨hx, hb, hml, hown, hts, hX, hbl, -, -, -⟩ := id C
  have hbA : ¬ lwA s b := Nat.not_le.mpr hbl
  obtain ⟨h_0, h_1, h_2, h_3, h_4, h_5⟩ := hi
  refine lv_aload_n hx hb dL_law_906 rfl (lv_at hl 1 rfl) ?_
  refine lv_aload_n hx hb dL_law_907 rfl (lv_at hl 0 rfl) ?_
  refine lv_iload_n hx hb dL_law_908 rfl (lv_at hl 3 rfl) ?_
  refine lv_iconst (v := 1) hx hb dL_law_909 (by decide) ?_
  refine lv_iadd hx hb dL_law_910 ?_
  refine va_sld hx hb hX hbl hbA hS h_1 dL_law_911 ?_
  refine lv_aload_n hx hb dL_law_912 rfl (lv_at hl 0 rfl) ?_
  refine lv_iload_n hx hb dL_law_913 rfl (lv_at hl 3 rfl) ?_
  refine lv_iconst (v := 2) hx hb dL_law_914 (by decide) ?_
  refine lv_iadd hx hb dL_law_915 ?_
  refine va_sld hx hb hX hbl hbA hS h_2 dL_law_916 ?_
  refine lv_aload_n hx hb dL_law_917 rfl (lv_at hl 0 rfl) ?_
  refine lv_iload_n hx hb dL_law_918 rfl (lv_at hl 3 rfl) ?_
  refine lv_iconst (v := 3) hx hb dL_law_919 (by decide) ?_
  refine lv_iadd hx hb dL_law_920 ?_
  refine va_sld hx hb hX hbl hbA hS h_3 dL_law_921 ?_
  refine lv_aload_n hx hb dL_law_922 rfl (lv_at hl 0 rfl) ?_
  refine lv_iload_n hx hb dL_law_923 rfl (lv_at hl 3 rfl) ?_
  refine lv_iconst (v := 4) hx hb dL_law_924 (by decide) ?_
  refine lv_iadd hx hb dL_law_925 ?_
  refine va_sld hx hb hX hbl hbA hS h_4 dL_law_926 ?_
  have hw := hr σx σm (xs (x3 + 1).toNatClampNeg) (xs (x3 + 2).toNatClampNeg) (xs (x3 + 3).toNatClampNeg) (xs (x3 + 4).toNatClampNeg)  hR
  refine lawX C (cx_X5_want l gx (σ := σx) hw) (cwV 4 hts gL_law_X5_want rfl rfl rfl (by decide +kernel) ⟨Nat.le_of_ble_eq_true rfl, Nat.le_of_ble_eq_true rfl⟩) hZ hS hl.1 rfl rfl (Nat.le_of_ble_eq_true rfl) dL_law_927 (fun r1 σx1 H locs hw hZ hS => ?_)
  refine lv_aload_n hx hb dL_law_930 rfl (lv_at hl 2 rfl) ?_
  refine lv_aload_n hx hb dL_law_931 rfl (lv_at hl 0 rfl) ?_
  refine lv_iload_n hx hb dL_law_932 rfl (lv_at hl 3 rfl) ?_
  refine lv_iconst (v := 1) hx hb dL_law_933 (by decide) ?_
  refine lv_iadd hx hb dL_law_934 ?_
  refine va_sld hx hb hX hbl hbA hS h_1 dL_law_935 ?_
  refine lv_aload_n hx hb dL_law_936 rfl (lv_at hl 0 rfl) ?_
  refine lv_iload_n hx hb dL_law_937 rfl (lv_at hl 3 rfl) ?_
  refine lv_iconst (v := 2) hx hb dL_law_938 (by decide) ?_
  refine lv_iadd hx hb dL_law_939 ?_
  refine va_sld hx hb hX hbl hbA hS h_2 dL_law_940 ?_
  refine lv_aload_n hx hb dL_law_941 rfl (lv_at hl 0 rfl) ?_
  refine lv_iload_n hx hb dL_law_942 rfl (lv_at hl 3 rfl) ?_
  refine lv_iconst (v := 3) hx hb dL_law_943 (by decide) ?_
  refine lv_iadd hx hb dL_law_944 ?_
  refine va_sld hx hb hX hbl hbA hS h_3 dL_law_945 ?_
  refine lv_aload_n hx hb dL_law_946 rfl (lv_at hl 0 rfl) ?_
  refine lv_iload_n hx hb dL_law_947 rfl (lv_at hl 3 rfl) ?_
  refine lv_iconst (v := 4) hx hb dL_law_948 (by decide) ?_
  refine lv_iadd hx hb dL_law_949 ?_
  refine va_sld hx hb hX hbl hbA hS h_4 dL_law_950 ?_
  refine lawM C (cm_X6_want l gm (σ := σm) hw) (cwV 4 hts gL_law_X6_want rfl rfl rfl (by decide +kernel) ⟨Nat.le_of_ble_eq_true rfl, Nat.le_of_ble_eq_true rfl⟩) hZ hS hl.1 rfl rfl (Nat.le_of_ble_eq_true rfl) dL_law_951 (fun r2 σm1 H locs hw hZ hS => ?_)
  exact lv_icmp_eq (tgt := 1114) hx hb dL_law_954 (by decide) (fun _ => kont _ _ _ _ hw.2 hZ hS) (fun hc => absurd hw.1 hc)
def rT_best (Rel : wS → wS → Prop) : Prop := ∀ (σx σm : wS), Rel σx σm → wx_X5_best (fun r1 σx1 => wm_X6_best (fun r2 σm1 => r1 = r2 ∧ Rel σx1 σm1) σm) σx
set_option maxRecDepth 100000 in
set_option maxHeartbeats 4000000 in
theorem law_best {Rel : wS → wS → Prop} (hr : rT_best Rel) {p : Program} {l : Launch} {e : Env} {s : State} {m : MethodId} {below : List Frame} {meth : Method} {c : Code} {H : Heap} {locs : List Loc} {QQ : State → Prop} {b L : Nat} {xs : Nat → Int32} {gx gm : wG} (C : lwC p s m c b L xs gx gm) {σx σm : wS} (hR : Rel σx σm) (hZ : lwZ gx gm σx σm H s) (hS : va_S (lwA s) s.heap H locs) {ls : Array Slot} {x3 : Int32} (hl : lv_has ls 4 [(0, .ref b), (1, .ref (gx.2.1 0)), (2, .ref (gm.2.1 0)), (3, .int x3)]) (hi : lwI x3 L)
    (kont : ∀ (σx σm : wS) (H : Heap) (locs : List Loc), Rel σx σm → lwZ gx gm σx σm H s → va_S (lwA s) s.heap H locs → W p l e room_1 s m #[Value.ref b] below meth c H locs 65 12543 QQ (F0 m 1114 ls [])) : W p l e room_1 s m #[Value.ref b] below meth c H locs 65 12543 QQ (F0 m 959 ls []) := by
  obtain ⟨hx, hb, hml, hown, hts, hX, hbl, -, -, -⟩ := id C
  have hbA : ¬ lwA s b := Nat.not_le.mpr hbl
  obtain ⟨h_0, h_1, h_2, h_3, h_4, h_5⟩ := hi
  refine lv_aload_n hx hb dL_law_959 rfl (lv_at hl 1 rfl) ?_
  have hw := hr σx σm  hR
  refine lawX C (cx_X5_best l gx (σ := σx) hw) (cwV 0 hts gL_law_X5_best rfl rfl rfl (by decide +kernel) ⟨Nat.le_of_ble_eq_true rfl, Nat.le_of_ble_eq_true rfl⟩) hZ hS hl.1 rfl rfl (Nat.le_of_ble_eq_true rfl) dL_law_960 (fun r1 σx1 H locs hw hZ hS => ?_)
  refine lv_aload_n hx hb dL_law_963 rfl (lv_at hl 2 rfl) ?_
  refine lawM C (cm_X6_best l gm (σ := σm) hw) (cwV 0 hts gL_law_X6_best rfl rfl rfl (by decide +kernel) ⟨Nat.le_of_ble_eq_true rfl, Nat.le_of_ble_eq_true rfl⟩) hZ hS hl.1 rfl rfl (Nat.le_of_ble_eq_true rfl) dL_law_964 (fun r2 σm1 H locs hw hZ hS => ?_)
  exact lv_icmp_eq (tgt := 1114) hx hb dL_law_967 (by decide) (fun _ => kont _ _ _ _ hw.2 hZ hS) (fun hc => absurd hw.1 hc)
def rT_hour (Rel : wS → wS → Prop) : Prop := ∀ (σx σm : wS) (x1 : Int32), Rel σx σm → wx_X5_hour (fun r1 σx1 => wm_X6_hour (fun r2 σm1 => r1 = r2 ∧ Rel σx1 σm1) x1 σm) x1 σx
set_option maxRecDepth 100000 in
set_option maxHeartbeats 4000000 in
theorem law_hour {Rel : wS → wS → Prop} (hr : rT_hour Rel) {p : Program} {l : Launch} {e : Env} {s : State} {m : MethodId} {below : List Frame} {meth : Method} {c : Code} {H : Heap} {locs : List Loc} {QQ : State → Prop} {b L : Nat} {xs : Nat → Int32} {gx gm : wG} (C : lwC p s m c b L xs gx gm) {σx σm : wS} (hR : Rel σx σm) (hZ : lwZ gx gm σx σm H s) (hS : va_S (lwA s) s.heap H locs) {ls : Array Slot} {x3 : Int32} (hl : lv_has ls 4 [(0, .ref b), (1, .ref (gx.2.1 0)), (2, .ref (gm.2.1 0)), (3, .int x3)]) (hi : lwI x3 L)
    (kont : ∀ (σx σm : wS) (H : Heap) (locs : List Loc), Rel σx σm → lwZ gx gm σx σm H s → va_S (lwA s) s.heap H locs → W p l e room_1 s m #[Value.ref b] below meth c H locs 65 12543 QQ (F0 m 1114 ls [])) : W p l e room_1 s m #[Value.ref b] below meth c H locs 65 12543 QQ (F0 m 972 ls []) := by
  obtain ⟨hx, hb, hml, hown, hts, hX, hbl, -, -, -⟩ := id C
  have hbA : ¬ lwA s b := Nat.not_le.mpr hbl
  obtain ⟨h_0, h_1, h_2, h_3, h_4, h_5⟩ := hi
  refine lv_aload_n hx hb dL_law_972 rfl (lv_at hl 1 rfl) ?_
  refine lv_aload_n hx hb dL_law_973 rfl (lv_at hl 0 rfl) ?_
  refine lv_iload_n hx hb dL_law_974 rfl (lv_at hl 3 rfl) ?_
  refine lv_iconst (v := 1) hx hb dL_law_975 (by decide) ?_
  refine lv_iadd hx hb dL_law_976 ?_
  refine va_sld hx hb hX hbl hbA hS h_1 dL_law_977 ?_
  have hw := hr σx σm (xs (x3 + 1).toNatClampNeg)  hR
  refine lawX C (cx_X5_hour l gx (σ := σx) hw) (cwV 1 hts gL_law_X5_hour rfl rfl rfl (by decide +kernel) ⟨Nat.le_of_ble_eq_true rfl, Nat.le_of_ble_eq_true rfl⟩) hZ hS hl.1 rfl rfl (Nat.le_of_ble_eq_true rfl) dL_law_978 (fun r1 σx1 H locs hw hZ hS => ?_)
  refine lv_aload_n hx hb dL_law_981 rfl (lv_at hl 2 rfl) ?_
  refine lv_aload_n hx hb dL_law_982 rfl (lv_at hl 0 rfl) ?_
  refine lv_iload_n hx hb dL_law_983 rfl (lv_at hl 3 rfl) ?_
  refine lv_iconst (v := 1) hx hb dL_law_984 (by decide) ?_
  refine lv_iadd hx hb dL_law_985 ?_
  refine va_sld hx hb hX hbl hbA hS h_1 dL_law_986 ?_
  refine lawM C (cm_X6_hour l gm (σ := σm) hw) (cwV 1 hts gL_law_X6_hour rfl rfl rfl (by decide +kernel) ⟨Nat.le_of_ble_eq_true rfl, Nat.le_of_ble_eq_true rfl⟩) hZ hS hl.1 rfl rfl (Nat.le_of_ble_eq_true rfl) dL_law_987 (fun r2 σm1 H locs hw hZ hS => ?_)
  exact lv_icmp_eq (tgt := 1114) hx hb dL_law_990 (by decide) (fun _ => kont _ _ _ _ hw.2 hZ hS) (fun hc => absurd hw.1 hc)
def rT_law (Rel : wS → wS → Prop) : Prop := ∀ (σx σm : wS) (x1 x2 : Int32), Rel σx σm → wx_X5_law (fun r1 σx1 => wm_X6_law (fun r2 σm1 => r1 = r2 ∧ Rel σx1 σm1) x1 x2 σm) x1 x2 σx
set_option maxRecDepth 100000 in
set_option maxHeartbeats 4000000 in
theorem law_law {Rel : wS → wS → Prop} (hr : rT_law Rel) {p : Program} {l : Launch} {e : Env} {s : State} {m : MethodId} {below : List Frame} {meth : Method} {c : Code} {H : Heap} {locs : List Loc} {QQ : State → Prop} {b L : Nat} {xs : Nat → Int32} {gx gm : wG} (C : lwC p s m c b L xs gx gm) {σx σm : wS} (hR : Rel σx σm) (hZ : lwZ gx gm σx σm H s) (hS : va_S (lwA s) s.heap H locs) {ls : Array Slot} {x3 : Int32} (hl : lv_has ls 4 [(0, .ref b), (1, .ref (gx.2.1 0)), (2, .ref (gm.2.1 0)), (3, .int x3)]) (hi : lwI x3 L)
    (kont : ∀ (σx σm : wS) (H : Heap) (locs : List Loc), Rel σx σm → lwZ gx gm σx σm H s → va_S (lwA s) s.heap H locs → W p l e room_1 s m #[Value.ref b] below meth c H locs 65 12543 QQ (F0 m 1114 ls [])) : W p l e room_1 s m #[Value.ref b] below meth c H locs 65 12543 QQ (F0 m 995 ls []) := by
  obtain ⟨hx, hb, hml, hown, hts, hX, hbl, -, -, -⟩ := id C
  have hbA : ¬ lwA s b := Nat.not_le.mpr hbl
  obtain ⟨h_0, h_1, h_2, h_3, h_4, h_5⟩ := hi
  refine lv_aload_n hx hb dL_law_995 rfl (lv_at hl 1 rfl) ?_
  refine lv_aload_n hx hb dL_law_996 rfl (lv_at hl 0 rfl) ?_
  refine lv_iload_n hx hb dL_law_997 rfl (lv_at hl 3 rfl) ?_
  refine lv_iconst (v := 1) hx hb dL_law_998 (by decide) ?_
  refine lv_iadd hx hb dL_law_999 ?_
  refine va_sld hx hb hX hbl hbA hS h_1 dL_law_1000 ?_
  refine lv_aload_n hx hb dL_law_1001 rfl (lv_at hl 0 rfl) ?_
  refine lv_iload_n hx hb dL_law_1002 rfl (lv_at hl 3 rfl) ?_
  refine lv_iconst (v := 2) hx hb dL_law_1003 (by decide) ?_
  refine lv_iadd hx hb dL_law_1004 ?_
  refine va_sld hx hb hX hbl hbA hS h_2 dL_law_1005 ?_
  have hw := hr σx σm (xs (x3 + 1).toNatClampNeg) (xs (x3 + 2).toNatClampNeg)  hR
  refine lawX C (cx_X5_law l gx (σ := σx) hw) (cwV 2 hts gL_law_X5_law rfl rfl rfl (by decide +kernel) ⟨Nat.le_of_ble_eq_true rfl, Nat.le_of_ble_eq_true rfl⟩) hZ hS hl.1 rfl rfl (Nat.le_of_ble_eq_true rfl) dL_law_1006 (fun r1 σx1 H locs hw hZ hS => ?_)
  refine lv_aload_n hx hb dL_law_1009 rfl (lv_at hl 2 rfl) ?_
  refine lv_aload_n hx hb dL_law_1010 rfl (lv_at hl 0 rfl) ?_
  refine lv_iload_n hx hb dL_law_1011 rfl (lv_at hl 3 rfl) ?_
  refine lv_iconst (v := 1) hx hb dL_law_1012 (by decide) ?_
  refine lv_iadd hx hb dL_law_1013 ?_
  refine va_sld hx hb hX hbl hbA hS h_1 dL_law_1014 ?_
  refine lv_aload_n hx hb dL_law_1015 rfl (lv_at hl 0 rfl) ?_
  refine lv_iload_n hx hb dL_law_1016 rfl (lv_at hl 3 rfl) ?_
  refine lv_iconst (v := 2) hx hb dL_law_1017 (by decide) ?_
  refine lv_iadd hx hb dL_law_1018 ?_
  refine va_sld hx hb hX hbl hbA hS h_2 dL_law_1019 ?_
  refine lawM C (cm_X6_law l gm (σ := σm) hw) (cwV 2 hts gL_law_X6_law rfl rfl rfl (by decide +kernel) ⟨Nat.le_of_ble_eq_true rfl, Nat.le_of_ble_eq_true rfl⟩) hZ hS hl.1 rfl rfl (Nat.le_of_ble_eq_true rfl) dL_law_1020 (fun r2 σm1 H locs hw hZ hS => ?_)
  exact lv_icmp_eq (tgt := 1114) hx hb dL_law_1023 (by decide) (fun _ => kont _ _ _ _ hw.2 hZ hS) (fun hc => absurd hw.1 hc)
def rT_death (Rel : wS → wS → Prop) : Prop := ∀ (σx σm : wS) (x1 x2 x3 : Int32), Rel σx σm → wx_X5_death (fun r1 σx1 => wm_X6_death (fun r2 σm1 => r1 = r2 ∧ Rel σx1 σm1) x1 x2 x3 σm) x1 x2 x3 σx
set_option maxRecDepth 100000 in
set_option maxHeartbeats 4000000 in
theorem law_death {Rel : wS → wS → Prop} (hr : rT_death Rel) {p : Program} {l : Launch} {e : Env} {s : State} {m : MethodId} {below : List Frame} {meth : Method} {c : Code} {H : Heap} {locs : List Loc} {QQ : State → Prop} {b L : Nat} {xs : Nat → Int32} {gx gm : wG} (C : lwC p s m c b L xs gx gm) {σx σm : wS} (hR : Rel σx σm) (hZ : lwZ gx gm σx σm H s) (hS : va_S (lwA s) s.heap H locs) {ls : Array Slot} {x3 : Int32} (hl : lv_has ls 4 [(0, .ref b), (1, .ref (gx.2.1 0)), (2, .ref (gm.2.1 0)), (3, .int x3)]) (hi : lwI x3 L)
    (kont : ∀ (σx σm : wS) (H : Heap) (locs : List Loc), Rel σx σm → lwZ gx gm σx σm H s → va_S (lwA s) s.heap H locs → W p l e room_1 s m #[Value.ref b] below meth c H locs 65 12543 QQ (F0 m 1114 ls [])) : W p l e room_1 s m #[Value.ref b] below meth c H locs 65 12543 QQ (F0 m 1028 ls []) := by
  obtain ⟨hx, hb, hml, hown, hts, hX, hbl, -, -, -⟩ := id C
  have hbA : ¬ lwA s b := Nat.not_le.mpr hbl
  obtain ⟨h_0, h_1, h_2, h_3, h_4, h_5⟩ := hi
  refine lv_aload_n hx hb dL_law_1028 rfl (lv_at hl 1 rfl) ?_
  refine lv_aload_n hx hb dL_law_1029 rfl (lv_at hl 0 rfl) ?_
  refine lv_iload_n hx hb dL_law_1030 rfl (lv_at hl 3 rfl) ?_
  refine lv_iconst (v := 1) hx hb dL_law_1031 (by decide) ?_
  refine lv_iadd hx hb dL_law_1032 ?_
  refine va_sld hx hb hX hbl hbA hS h_1 dL_law_1033 ?_
  refine lv_aload_n hx hb dL_law_1034 rfl (lv_at hl 0 rfl) ?_
  refine lv_iload_n hx hb dL_law_1035 rfl (lv_at hl 3 rfl) ?_
  refine lv_iconst (v := 2) hx hb dL_law_1036 (by decide) ?_
  refine lv_iadd hx hb dL_law_1037 ?_
  refine va_sld hx hb hX hbl hbA hS h_2 dL_law_1038 ?_
  refine lv_aload_n hx hb dL_law_1039 rfl (lv_at hl 0 rfl) ?_
  refine lv_iload_n hx hb dL_law_1040 rfl (lv_at hl 3 rfl) ?_
  refine lv_iconst (v := 3) hx hb dL_law_1041 (by decide) ?_
  refine lv_iadd hx hb dL_law_1042 ?_
  refine va_sld hx hb hX hbl hbA hS h_3 dL_law_1043 ?_
  have hw := hr σx σm (xs (x3 + 1).toNatClampNeg) (xs (x3 + 2).toNatClampNeg) (xs (x3 + 3).toNatClampNeg)  hR
  refine lawX C (cx_X5_death l gx (σ := σx) hw) (cwV 3 hts gL_law_X5_death rfl rfl rfl (by decide +kernel) ⟨Nat.le_of_ble_eq_true rfl, Nat.le_of_ble_eq_true rfl⟩) hZ hS hl.1 rfl rfl (Nat.le_of_ble_eq_true rfl) dL_law_1044 (fun r1 σx1 H locs hw hZ hS => ?_)
  refine lv_aload_n hx hb dL_law_1047 rfl (lv_at hl 2 rfl) ?_
  refine lv_aload_n hx hb dL_law_1048 rfl (lv_at hl 0 rfl) ?_
  refine lv_iload_n hx hb dL_law_1049 rfl (lv_at hl 3 rfl) ?_
  refine lv_iconst (v := 1) hx hb dL_law_1050 (by decide) ?_
  refine lv_iadd hx hb dL_law_1051 ?_
  refine va_sld hx hb hX hbl hbA hS h_1 dL_law_1052 ?_
  refine lv_aload_n hx hb dL_law_1053 rfl (lv_at hl 0 rfl) ?_
  refine lv_iload_n hx hb dL_law_1054 rfl (lv_at hl 3 rfl) ?_
  refine lv_iconst (v := 2) hx hb dL_law_1055 (by decide) ?_
  refine lv_iadd hx hb dL_law_1056 ?_
  refine va_sld hx hb hX hbl hbA hS h_2 dL_law_1057 ?_
  refine lv_aload_n hx hb dL_law_1058 rfl (lv_at hl 0 rfl) ?_
  refine lv_iload_n hx hb dL_law_1059 rfl (lv_at hl 3 rfl) ?_
  refine lv_iconst (v := 3) hx hb dL_law_1060 (by decide) ?_
  refine lv_iadd hx hb dL_law_1061 ?_
  refine va_sld hx hb hX hbl hbA hS h_3 dL_law_1062 ?_
  refine lawM C (cm_X6_death l gm (σ := σm) hw) (cwV 3 hts gL_law_X6_death rfl rfl rfl (by decide +kernel) ⟨Nat.le_of_ble_eq_true rfl, Nat.le_of_ble_eq_true rfl⟩) hZ hS hl.1 rfl rfl (Nat.le_of_ble_eq_true rfl) dL_law_1063 (fun r2 σm1 H locs hw hZ hS => ?_)
  exact lv_icmp_eq (tgt := 1114) hx hb dL_law_1066 (by decide) (fun _ => kont _ _ _ _ hw.2 hZ hS) (fun hc => absurd hw.1 hc)
def rT_free (Rel : wS → wS → Prop) : Prop := ∀ (σx σm : wS) (x1 x2 x3 : Int32), Rel σx σm → wx_X5_free (fun r1 σx1 => wm_X6_free (fun r2 σm1 => r1 = r2 ∧ Rel σx1 σm1) x1 x2 x3 σm) x1 x2 x3 σx
set_option maxRecDepth 100000 in
set_option maxHeartbeats 4000000 in
theorem law_free {Rel : wS → wS → Prop} (hr : rT_free Rel) {p : Program} {l : Launch} {e : Env} {s : State} {m : MethodId} {below : List Frame} {meth : Method} {c : Code} {H : Heap} {locs : List Loc} {QQ : State → Prop} {b L : Nat} {xs : Nat → Int32} {gx gm : wG} (C : lwC p s m c b L xs gx gm) {σx σm : wS} (hR : Rel σx σm) (hZ : lwZ gx gm σx σm H s) (hS : va_S (lwA s) s.heap H locs) {ls : Array Slot} {x3 : Int32} (hl : lv_has ls 4 [(0, .ref b), (1, .ref (gx.2.1 0)), (2, .ref (gm.2.1 0)), (3, .int x3)]) (hi : lwI x3 L)
    (kont : ∀ (σx σm : wS) (H : Heap) (locs : List Loc), Rel σx σm → lwZ gx gm σx σm H s → va_S (lwA s) s.heap H locs → W p l e room_1 s m #[Value.ref b] below meth c H locs 65 12543 QQ (F0 m 1114 ls [])) : W p l e room_1 s m #[Value.ref b] below meth c H locs 65 12543 QQ (F0 m 1071 ls []) := by
  obtain ⟨hx, hb, hml, hown, hts, hX, hbl, -, -, -⟩ := id C
  have hbA : ¬ lwA s b := Nat.not_le.mpr hbl
  obtain ⟨h_0, h_1, h_2, h_3, h_4, h_5⟩ := hi
  refine lv_aload_n hx hb dL_law_1071 rfl (lv_at hl 1 rfl) ?_
  refine lv_aload_n hx hb dL_law_1072 rfl (lv_at hl 0 rfl) ?_
  refine lv_iload_n hx hb dL_law_1073 rfl (lv_at hl 3 rfl) ?_
  refine lv_iconst (v := 1) hx hb dL_law_1074 (by decide) ?_
  refine lv_iadd hx hb dL_law_1075 ?_
  refine va_sld hx hb hX hbl hbA hS h_1 dL_law_1076 ?_
  refine lv_aload_n hx hb dL_law_1077 rfl (lv_at hl 0 rfl) ?_
  refine lv_iload_n hx hb dL_law_1078 rfl (lv_at hl 3 rfl) ?_
  refine lv_iconst (v := 2) hx hb dL_law_1079 (by decide) ?_
  refine lv_iadd hx hb dL_law_1080 ?_
  refine va_sld hx hb hX hbl hbA hS h_2 dL_law_1081 ?_
  refine lv_aload_n hx hb dL_law_1082 rfl (lv_at hl 0 rfl) ?_
  refine lv_iload_n hx hb dL_law_1083 rfl (lv_at hl 3 rfl) ?_
  refine lv_iconst (v := 3) hx hb dL_law_1084 (by decide) ?_
  refine lv_iadd hx hb dL_law_1085 ?_
  refine va_sld hx hb hX hbl hbA hS h_3 dL_law_1086 ?_
  have hw := hr σx σm (xs (x3 + 1).toNatClampNeg) (xs (x3 + 2).toNatClampNeg) (xs (x3 + 3).toNatClampNeg)  hR
  refine lawX C (cx_X5_free l gx (σ := σx) hw) (cwV 3 hts gL_law_X5_free rfl rfl rfl (by decide +kernel) ⟨Nat.le_of_ble_eq_true rfl, Nat.le_of_ble_eq_true rfl⟩) hZ hS hl.1 rfl rfl (Nat.le_of_ble_eq_true rfl) dL_law_1087 (fun r1 σx1 H locs hw hZ hS => ?_)
  refine lv_aload_n hx hb dL_law_1090 rfl (lv_at hl 2 rfl) ?_
  refine lv_aload_n hx hb dL_law_1091 rfl (lv_at hl 0 rfl) ?_
  refine lv_iload_n hx hb dL_law_1092 rfl (lv_at hl 3 rfl) ?_
  refine lv_iconst (v := 1) hx hb dL_law_1093 (by decide) ?_
  refine lv_iadd hx hb dL_law_1094 ?_
  refine va_sld hx hb hX hbl hbA hS h_1 dL_law_1095 ?_
  refine lv_aload_n hx hb dL_law_1096 rfl (lv_at hl 0 rfl) ?_
  refine lv_iload_n hx hb dL_law_1097 rfl (lv_at hl 3 rfl) ?_
  refine lv_iconst (v := 2) hx hb dL_law_1098 (by decide) ?_
  refine lv_iadd hx hb dL_law_1099 ?_
  refine va_sld hx hb hX hbl hbA hS h_2 dL_law_1100 ?_
  refine lv_aload_n hx hb dL_law_1101 rfl (lv_at hl 0 rfl) ?_
  refine lv_iload_n hx hb dL_law_1102 rfl (lv_at hl 3 rfl) ?_
  refine lv_iconst (v := 3) hx hb dL_law_1103 (by decide) ?_
  refine lv_iadd hx hb dL_law_1104 ?_
  refine va_sld hx hb hX hbl hbA hS h_3 dL_law_1105 ?_
  refine lawM C (cm_X6_free l gm (σ := σm) hw) (cwV 3 hts gL_law_X6_free rfl rfl rfl (by decide +kernel) ⟨Nat.le_of_ble_eq_true rfl, Nat.le_of_ble_eq_true rfl⟩) hZ hS hl.1 rfl rfl (Nat.le_of_ble_eq_true rfl) dL_law_1106 (fun r2 σm1 H locs hw hZ hS => ?_)
  exact lv_icmp_eq (tgt := 1114) hx hb dL_law_1109 (by decide) (fun _ => kont _ _ _ _ hw.2 hZ hS) (fun hc => absurd hw.1 hc)
