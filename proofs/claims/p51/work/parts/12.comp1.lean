section
def v_X2_canBeTold (b0 : Int64) : Int32 := if (lg_cmp b0 (-2147483648)) < 0 then 0 else (if 0 < (lg_cmp b0 2147483647) then 0 else 1)
theorem b01_X2_canBeTold {b0 : Int64} : (v_X2_canBeTold b0) = 0 ∨ (v_X2_canBeTold b0) = 1 := by
  unfold v_X2_canBeTold
  by_cases q1 : (lg_cmp b0 (-2147483648)) < 0
  · rw [if_pos q1]
    exact Or.inl rfl
  · rw [if_neg q1]
    by_cases q2 : 0 < (lg_cmp b0 2147483647)
    · rw [if_pos q2]
      exact Or.inl rfl
    · rw [if_neg q2]
      exact Or.inr rfl
set_option maxHeartbeats 4000000 in
set_option maxRecDepth 100000 in
theorem c_X2_canBeTold (l : Launch) (g : GG) (N : Nat) (ad : Nat → Nat) (x : Nat → va_E) (sp dy : Nat → TR) (la kn re : Int32) (hN : 23 ≤ N) (b0 : Int64) : KI l yX2_canBeTold cX2_canBeTold 2 (some .boolean) (rm 0 0 0) g [.long b0] N ad (cf g ad x sp dy la kn re) N (fun r ad' f' => ad = ad' ∧ (v_X2_canBeTold b0) = r ∧ (cf g ad x sp dy la kn re) = f') := by
  intro sz
  refine mt_start (by decide) (Nat.le_of_ble_eq_true rfl) ?_
  intro p e s m args below meth c hsz X hr hnam hA hK hT H locs B ls hl
  obtain ⟨hx, hb, hml, hown, hts, hlocks⟩ := id X
  have hl : lv_has ls 2 [(0, .long b0)] := hl
  refine lv_lload_n hx hb dX2_canBeTold_0 rfl (lv_at hl 0 rfl) ?_
  refine lv_ldc2 hx hb hown (hts _ (List.mem_cons_of_mem _ lk_X2_260)) dX2_canBeTold_1 ?_
  refine W.lcmp hx hb dX2_canBeTold_4 ?_
  refine lv_if_lt (tgt := 20) hx hb dX2_canBeTold_5 (by decide) (fun c1 => ?_) (fun c1 => ?_)
  · refine lv_iconst (v := 0) hx hb dX2_canBeTold_20 (by decide) ?_
    have ev := (show v_X2_canBeTold b0 = 0 from by unfold v_X2_canBeTold; rw [if_pos c1])
    exact rt_i X hr (ad, (cf g ad x sp dy la kn re)) B (PO_of B) ⟨rfl, by rw [ev], rfl⟩ rfl (Nat.le_of_ble_eq_true rfl) (Nat.le_of_ble_eq_true rfl) dX2_canBeTold_21
  · refine lv_lload_n hx hb dX2_canBeTold_8 rfl (lv_at hl 0 rfl) ?_
    refine lv_ldc2 hx hb hown (hts _ (List.mem_cons_of_mem _ lk_X2_262)) dX2_canBeTold_9 ?_
    refine W.lcmp hx hb dX2_canBeTold_12 ?_
    refine lv_if_gt (tgt := 20) hx hb dX2_canBeTold_13 (by decide) (fun c2 => ?_) (fun c2 => ?_)
    · refine lv_iconst (v := 0) hx hb dX2_canBeTold_20 (by decide) ?_
      have ev := (show v_X2_canBeTold b0 = 0 from by unfold v_X2_canBeTold; rw [if_neg c1, if_pos c2])
      exact rt_i X hr (ad, (cf g ad x sp dy la kn re)) B (PO_of B) ⟨rfl, by rw [ev], rfl⟩ rfl (Nat.le_of_ble_eq_true rfl) (Nat.le_of_ble_eq_true rfl) dX2_canBeTold_21
    · refine lv_iconst (v := 1) hx hb dX2_canBeTold_16 (by decide) ?_
      refine lv_goto (tgt := 21) hx hb dX2_canBeTold_17 (by decide) ?_
      have ev := (show v_X2_canBeTold b0 = 1 from by unfold v_X2_canBeTold; rw [if_neg c1, if_neg c2])
      exact rt_i X hr (ad, (cf g ad x sp dy la kn re)) B (PO_of B) ⟨rfl, by rw [ev], rfl⟩ rfl (Nat.le_of_ble_eq_true rfl) (Nat.le_of_ble_eq_true rfl) dX2_canBeTold_21
def v_X1_put (sp : Nat → TR) (i0 : Nat) (b1 : Int64) (b2 : Int64) (b3 : Int64) : Int32 × (Nat → TR) := if (v_X2_canBeTold b1) = 0 then (0, sp) else (if (v_X2_canBeTold b2) = 0 then (0, sp) else (if (v_X2_canBeTold b3) = 0 then (0, sp) else (1, va_up sp i0 (b1.toInt32, b2.toInt32, b3.toInt32))))
theorem kp_X1_put_sp {sp : Nat → TR} {i0 : Nat} {b1 : Int64} {b2 : Int64} {b3 : Int64} {j : Nat} (h : j ≠ i0) : (v_X1_put sp i0 b1 b2 b3).2 j = sp j := by
  unfold v_X1_put
  by_cases q1 : (v_X2_canBeTold b1) = 0
  · rw [if_pos q1]
    all_goals rfl
  · rw [if_neg q1]
    by_cases q2 : (v_X2_canBeTold b2) = 0
    · rw [if_pos q2]
      all_goals rfl
    · rw [if_neg q2]
      by_cases q3 : (v_X2_canBeTold b3) = 0
      · rw [if_pos q3]
        all_goals rfl
      · rw [if_neg q3]
        exact va_up_ne _ _ h
theorem b01_X1_put {sp : Nat → TR} {i0 : Nat} {b1 : Int64} {b2 : Int64} {b3 : Int64} : (v_X1_put sp i0 b1 b2 b3).1 = 0 ∨ (v_X1_put sp i0 b1 b2 b3).1 = 1 := by
  unfold v_X1_put
  by_cases q1 : (v_X2_canBeTold b1) = 0
  · rw [if_pos q1]
    exact Or.inl rfl
  · rw [if_neg q1]
    by_cases q2 : (v_X2_canBeTold b2) = 0
    · rw [if_pos q2]
      exact Or.inl rfl
    · rw [if_neg q2]
      by_cases q3 : (v_X2_canBeTold b3) = 0
      · rw [if_pos q3]
        exact Or.inl rfl
      · rw [if_neg q3]
        exact Or.inr rfl
set_option maxHeartbeats 4000000 in
set_option maxRecDepth 100000 in
theorem c_X1_put (l : Launch) (g : GG) (N : Nat) (ad : Nat → Nat) (x : Nat → va_E) (sp dy : Nat → TR) (la kn re : Int32) (hN : 23 ≤ N) (i0 : Nat) (hi0 : i0 < 14) (b1 : Int64) (b2 : Int64) (b3 : Int64) : KI l yX1_put cX1_put 7 (some .boolean) (rm 1 0 0) g [.ref (ad (4 + i0)), .long b1, .long b2, .long b3] N ad (cf g ad x sp dy la kn re) N (fun r ad' f' => ad = ad' ∧ (v_X1_put sp i0 b1 b2 b3).1 = r ∧ (cf g ad x (v_X1_put sp i0 b1 b2 b3).2 dy la kn re) = f') := by
  intro sz
  refine mt_start (by decide) (Nat.le_of_ble_eq_true rfl) ?_
  intro p e s m args below meth c hsz X hr hnam hA hK hT H locs B ls hl
  obtain ⟨hx, hb, hml, hown, hts, hlocks⟩ := id X
  have hl : lv_has ls 7 [(0, .ref (ad (4 + i0))), (1, .long b1), (3, .long b2), (5, .long b3)] := hl
  refine lv_lload_n hx hb dX1_put_0 rfl (lv_at hl 1 rfl) ?_
  refine k_i (k := 0) (n := 0) hA B (u_SN (rest := []) X (c_X2_canBeTold l g N ad x sp dy la kn re hN b1 H.size) mw_X2_canBeTold md_X2_canBeTold rfl lk_X1_9 ⟨Nat.le_of_ble_eq_true rfl, Nat.le_of_ble_eq_true rfl⟩ hA hK hT B hl.1 rfl (Nat.le_of_ble_eq_true rfl) dX1_put_1 ⟨Nat.le_of_ble_eq_true rfl, Nat.le_of_ble_eq_true rfl⟩) (Nat.le_of_ble_eq_true rfl) (Nat.le_of_ble_eq_true rfl) (fun r ad' f' H locs hw B => ?_)
  obtain ⟨rfl, rfl, rfl⟩ := hw
  refine lv_if_eq (tgt := 22) hx hb dX1_put_4 (by decide) (fun c1 => ?_) (fun c1 => ?_)
  · refine lv_iconst (v := 0) hx hb dX1_put_22 (by decide) ?_
    have ev := (show v_X1_put sp i0 b1 b2 b3 = (0, sp) from by unfold v_X1_put; rw [if_pos c1])
    exact rt_i X hr (ad, (cf g ad x sp dy la kn re)) B (PO_of B) ⟨rfl, by rw [ev], by rw [ev]⟩ rfl (Nat.le_of_ble_eq_true rfl) (Nat.le_of_ble_eq_true rfl) dX1_put_23
  · refine lv_lload_n hx hb dX1_put_7 rfl (lv_at hl 2 rfl) ?_
    refine k_i (k := 0) (n := 0) hA B (u_SN (rest := []) X (c_X2_canBeTold l g N ad x sp dy la kn re hN b2 H.size) mw_X2_canBeTold md_X2_canBeTold rfl lk_X1_9 ⟨Nat.le_of_ble_eq_true rfl, Nat.le_of_ble_eq_true rfl⟩ hA hK hT B hl.1 rfl (Nat.le_of_ble_eq_true rfl) dX1_put_8 ⟨Nat.le_of_ble_eq_true rfl, Nat.le_of_ble_eq_true rfl⟩) (Nat.le_of_ble_eq_true rfl) (Nat.le_of_ble_eq_true rfl) (fun r ad' f' H locs hw B => ?_)
    obtain ⟨rfl, rfl, rfl⟩ := hw
    refine lv_if_eq (tgt := 22) hx hb dX1_put_11 (by decide) (fun c2 => ?_) (fun c2 => ?_)
    · refine lv_iconst (v := 0) hx hb dX1_put_22 (by decide) ?_
      have ev := (show v_X1_put sp i0 b1 b2 b3 = (0, sp) from by unfold v_X1_put; rw [if_neg c1, if_pos c2])
      exact rt_i X hr (ad, (cf g ad x sp dy la kn re)) B (PO_of B) ⟨rfl, by rw [ev], by rw [ev]⟩ rfl (Nat.le_of_ble_eq_true rfl) (Nat.le_of_ble_eq_true rfl) dX1_put_23
    · refine lv_lload hx hb dX1_put_14 (lv_at hl 3 rfl) ?_
      refine k_i (k := 0) (n := 0) hA B (u_SN (rest := []) X (c_X2_canBeTold l g N ad x sp dy la kn re hN b3 H.size) mw_X2_canBeTold md_X2_canBeTold rfl lk_X1_9 ⟨Nat.le_of_ble_eq_true rfl, Nat.le_of_ble_eq_true rfl⟩ hA hK hT B hl.1 rfl (Nat.le_of_ble_eq_true rfl) dX1_put_16 ⟨Nat.le_of_ble_eq_true rfl, Nat.le_of_ble_eq_true rfl⟩) (Nat.le_of_ble_eq_true rfl) (Nat.le_of_ble_eq_true rfl) (fun r ad' f' H locs hw B => ?_)
      obtain ⟨rfl, rfl, rfl⟩ := hw
      refine lv_if_ne (tgt := 24) hx hb dX1_put_19 (by decide) (fun c3 => ?_) (fun c3 => ?_)
      · refine lv_aload_n hx hb dX1_put_24 rfl (lv_at hl 0 rfl) ?_
        refine lv_lload_n hx hb dX1_put_25 rfl (lv_at hl 1 rfl) ?_
        refine lv_l2i (v := b1.toInt32) hx hb dX1_put_26 rfl ?_
        refine g_put (q := (4 + i0)) (k := 0) X hK B rfl in_X1 tyX1_ok nmX1 (pl_sp hN hi0) (cf_sp hi0) (by decide) lk_X1_13 rfl rfl rfl rfl rfl (Nat.le_of_ble_eq_true rfl) dX1_put_27 (fun H locs B => ?_)
        have B : WB g (aw N ad sz) s.heap N ad (cf g ad x (va_up sp i0 (b1.toInt32, (sp i0).2.1, (sp i0).2.2)) dy la kn re) H locs := by rw [← cf_up_sp hi0]; exact B
        refine lv_aload_n hx hb dX1_put_30 rfl (lv_at hl 0 rfl) ?_
        refine lv_lload_n hx hb dX1_put_31 rfl (lv_at hl 2 rfl) ?_
        refine lv_l2i (v := b2.toInt32) hx hb dX1_put_32 rfl ?_
        refine g_put (q := (4 + i0)) (k := 1) X hK B rfl in_X1 tyX1_ok nmX1 (pl_sp hN hi0) (cf_spU hi0) (by decide) lk_X1_19 rfl rfl rfl rfl rfl (Nat.le_of_ble_eq_true rfl) dX1_put_33 (fun H locs B => ?_)
        have B : WB g (aw N ad sz) s.heap N ad (cf g ad x (va_up sp i0 (b1.toInt32, b2.toInt32, (sp i0).2.2)) dy la kn re) H locs := by rw [← cf_up_spU hi0 (b1.toInt32, (sp i0).2.1, (sp i0).2.2)]; exact B
        refine lv_aload_n hx hb dX1_put_36 rfl (lv_at hl 0 rfl) ?_
        refine lv_lload hx hb dX1_put_37 (lv_at hl 3 rfl) ?_
        refine lv_l2i (v := b3.toInt32) hx hb dX1_put_39 rfl ?_
        refine g_put (q := (4 + i0)) (k := 2) X hK B rfl in_X1 tyX1_ok nmX1 (pl_sp hN hi0) (cf_spU hi0) (by decide) lk_X1_22 rfl rfl rfl rfl rfl (Nat.le_of_ble_eq_true rfl) dX1_put_40 (fun H locs B => ?_)
        have B : WB g (aw N ad sz) s.heap N ad (cf g ad x (va_up sp i0 (b1.toInt32, b2.toInt32, b3.toInt32)) dy la kn re) H locs := by rw [← cf_up_spU hi0 (b1.toInt32, b2.toInt32, (sp i0).2.2)]; exact B
        refine lv_iconst (v := 1) hx hb dX1_put_43 (by decide) ?_
        have ev := (show v_X1_put sp i0 b1 b2 b3 = (1, va_up sp i0 (b1.toInt32, b2.toInt32, b3.toInt32)) from by unfold v_X1_put; rw [if_neg c1, if_neg c2, if_neg c3])
        exact rt_i X hr (ad, (cf g ad x (va_up sp i0 (b1.toInt32, b2.toInt32, b3.toInt32)) dy la kn re)) B (PO_of B) ⟨rfl, by rw [ev], by rw [ev]⟩ rfl (Nat.le_of_ble_eq_true rfl) (Nat.le_of_ble_eq_true rfl) dX1_put_44
      · refine lv_iconst (v := 0) hx hb dX1_put_22 (by decide) ?_
        have ev := (show v_X1_put sp i0 b1 b2 b3 = (0, sp) from by unfold v_X1_put; rw [if_neg c1, if_neg c2, if_pos c3])
        exact rt_i X hr (ad, (cf g ad x sp dy la kn re)) B (PO_of B) ⟨rfl, by rw [ev], by rw [ev]⟩ rfl (Nat.le_of_ble_eq_true rfl) (Nat.le_of_ble_eq_true rfl) dX1_put_23
def v_X1_putSpan (sp : Nat → TR) (i0 : Nat) (i1 : Nat) : (Nat → TR) := va_up sp i0 ((sp i1).1, ((va_up sp i0 ((sp i1).1, (sp i0).2.1, (sp i0).2.2)) i1).2.1, ((va_up sp i0 ((sp i1).1, ((va_up sp i0 ((sp i1).1, (sp i0).2.1, (sp i0).2.2)) i1).2.1, (sp i0).2.2)) i1).2.2)
theorem kp_X1_putSpan_sp {sp : Nat → TR} {i0 : Nat} {i1 : Nat} {j : Nat} (h : j ≠ i0) : (v_X1_putSpan sp i0 i1) j = sp j := by
  unfold v_X1_putSpan
  exact va_up_ne _ _ h
set_option maxHeartbeats 4000000 in
set_option maxRecDepth 100000 in
theorem c_X1_putSpan (l : Launch) (g : GG) (N : Nat) (ad : Nat → Nat) (x : Nat → va_E) (sp dy : Nat → TR) (la kn re : Int32) (hN : 23 ≤ N) (i0 : Nat) (hi0 : i0 < 14) (i1 : Nat) (hi1 : i1 < 14) : KV l yX1_putSpan cX1_putSpan 2 (rm 0 0 0) g [.ref (ad (4 + i0)), .ref (ad (4 + i1))] N ad (cf g ad x sp dy la kn re) N (fun ad' f' => ad = ad' ∧ (cf g ad x (v_X1_putSpan sp i0 i1) dy la kn re) = f') := by
  intro sz
  refine mt_start (by decide) (Nat.le_of_ble_eq_true rfl) ?_
  intro p e s m args below meth c hsz X hr hnam hA hK hT H locs B ls hl
  obtain ⟨hx, hb, hml, hown, hts, hlocks⟩ := id X
  have hl : lv_has ls 2 [(0, .ref (ad (4 + i0))), (1, .ref (ad (4 + i1)))] := hl
  refine lv_aload_n hx hb dX1_putSpan_0 rfl (lv_at hl 0 rfl) ?_
  refine lv_aload_n hx hb dX1_putSpan_1 rfl (lv_at hl 1 rfl) ?_
  refine g_get (q := (4 + i1)) (k := 0) X hK B rfl in_X1 (pl_sp hN hi1) (cf_sp hi1) (by decide) lk_X1_13 rfl rfl dX1_putSpan_2 ?_
  refine g_put (q := (4 + i0)) (k := 0) X hK B rfl in_X1 tyX1_ok nmX1 (pl_sp hN hi0) (cf_sp hi0) (by decide) lk_X1_13 rfl rfl rfl rfl rfl (Nat.le_of_ble_eq_true rfl) dX1_putSpan_5 (fun H locs B => ?_)
  have B : WB g (aw N ad sz) s.heap N ad (cf g ad x (va_up sp i0 ((sp i1).1, (sp i0).2.1, (sp i0).2.2)) dy la kn re) H locs := by rw [← cf_up_sp hi0]; exact B
  refine lv_aload_n hx hb dX1_putSpan_8 rfl (lv_at hl 0 rfl) ?_
  refine lv_aload_n hx hb dX1_putSpan_9 rfl (lv_at hl 1 rfl) ?_
  refine g_get (q := (4 + i1)) (k := 1) X hK B rfl in_X1 (pl_sp hN hi1) (cf_sp hi1) (by decide) lk_X1_19 rfl rfl dX1_putSpan_10 ?_
  refine g_put (q := (4 + i0)) (k := 1) X hK B rfl in_X1 tyX1_ok nmX1 (pl_sp hN hi0) (cf_spU hi0) (by decide) lk_X1_19 rfl rfl rfl rfl rfl (Nat.le_of_ble_eq_true rfl) dX1_putSpan_13 (fun H locs B => ?_)
  have B : WB g (aw N ad sz) s.heap N ad (cf g ad x (va_up sp i0 ((sp i1).1, ((va_up sp i0 ((sp i1).1, (sp i0).2.1, (sp i0).2.2)) i1).2.1, (sp i0).2.2)) dy la kn re) H locs := by rw [← cf_up_spU hi0 ((sp i1).1, (sp i0).2.1, (sp i0).2.2)]; exact B
  refine lv_aload_n hx hb dX1_putSpan_16 rfl (lv_at hl 0 rfl) ?_
  refine lv_aload_n hx hb dX1_putSpan_17 rfl (lv_at hl 1 rfl) ?_
  refine g_get (q := (4 + i1)) (k := 2) X hK B rfl in_X1 (pl_sp hN hi1) (cf_sp hi1) (by decide) lk_X1_22 rfl rfl dX1_putSpan_18 ?_
  refine g_put (q := (4 + i0)) (k := 2) X hK B rfl in_X1 tyX1_ok nmX1 (pl_sp hN hi0) (cf_spU hi0) (by decide) lk_X1_22 rfl rfl rfl rfl rfl (Nat.le_of_ble_eq_true rfl) dX1_putSpan_21 (fun H locs B => ?_)
  have B : WB g (aw N ad sz) s.heap N ad (cf g ad x (va_up sp i0 ((sp i1).1, ((va_up sp i0 ((sp i1).1, (sp i0).2.1, (sp i0).2.2)) i1).2.1, ((va_up sp i0 ((sp i1).1, ((va_up sp i0 ((sp i1).1, (sp i0).2.1, (sp i0).2.2)) i1).2.1, (sp i0).2.2)) i1).2.2)) dy la kn re) H locs := by rw [← cf_up_spU hi0 ((sp i1).1, ((va_up sp i0 ((sp i1).1, (sp i0).2.1, (sp i0).2.2)) i1).2.1, (sp i0).2.2)]; exact B
  have ev := (show v_X1_putSpan sp i0 i1 = va_up sp i0 ((sp i1).1, ((va_up sp i0 ((sp i1).1, (sp i0).2.1, (sp i0).2.2)) i1).2.1, ((va_up sp i0 ((sp i1).1, ((va_up sp i0 ((sp i1).1, (sp i0).2.1, (sp i0).2.2)) i1).2.1, (sp i0).2.2)) i1).2.2) from rfl)
  exact rt_v X hr (ad, (cf g ad x (va_up sp i0 ((sp i1).1, ((va_up sp i0 ((sp i1).1, (sp i0).2.1, (sp i0).2.2)) i1).2.1, ((va_up sp i0 ((sp i1).1, ((va_up sp i0 ((sp i1).1, (sp i0).2.1, (sp i0).2.2)) i1).2.1, (sp i0).2.2)) i1).2.2)) dy la kn re)) B (PO_of B) ⟨rfl, by rw [ev]⟩ (Nat.le_of_ble_eq_true rfl) (Nat.le_of_ble_eq_true rfl) dX1_putSpan_24
def v_X1_allMonths (sp : Nat → TR) (i0 : Nat) : Int64 := (((sp i0).1.toInt64) * 12) + ((sp i0).2.1.toInt64)
set_option maxHeartbeats 4000000 in
set_option maxRecDepth 100000 in
theorem c_X1_allMonths (l : Launch) (g : GG) (N : Nat) (ad : Nat → Nat) (x : Nat → va_E) (sp dy : Nat → TR) (la kn re : Int32) (hN : 23 ≤ N) (i0 : Nat) (hi0 : i0 < 14) : KL l yX1_allMonths cX1_allMonths 1 (rm 0 0 0) g [.ref (ad (4 + i0))] N ad (cf g ad x sp dy la kn re) N (fun r ad' f' => ad = ad' ∧ (v_X1_allMonths sp i0) = r ∧ (cf g ad x sp dy la kn re) = f') := by
  intro sz
  refine mt_start (by decide) (Nat.le_of_ble_eq_true rfl) ?_
  intro p e s m args below meth c hsz X hr hnam hA hK hT H locs B ls hl
  obtain ⟨hx, hb, hml, hown, hts, hlocks⟩ := id X
  have hl : lv_has ls 1 [(0, .ref (ad (4 + i0)))] := hl
  refine lv_aload_n hx hb dX1_allMonths_0 rfl (lv_at hl 0 rfl) ?_
  refine g_get (q := (4 + i0)) (k := 0) X hK B rfl in_X1 (pl_sp hN hi0) (cf_sp hi0) (by decide) lk_X1_13 rfl rfl dX1_allMonths_1 ?_
  refine lv_i2l (v := (sp i0).1.toInt64) hx hb dX1_allMonths_4 rfl ?_
  refine lv_ldc2 hx hb hown (hts _ (List.mem_cons_of_mem _ lk_X1_39)) dX1_allMonths_5 ?_
  refine lv_lmul hx hb dX1_allMonths_8 ?_
  refine lv_aload_n hx hb dX1_allMonths_9 rfl (lv_at hl 0 rfl) ?_
  refine g_get (q := (4 + i0)) (k := 1) X hK B rfl in_X1 (pl_sp hN hi0) (cf_sp hi0) (by decide) lk_X1_19 rfl rfl dX1_allMonths_10 ?_
  refine lv_i2l (v := (sp i0).2.1.toInt64) hx hb dX1_allMonths_13 rfl ?_
  refine lv_ladd hx hb dX1_allMonths_14 ?_
  have ev := (show v_X1_allMonths sp i0 = (((sp i0).1.toInt64) * 12) + ((sp i0).2.1.toInt64) from rfl)
  exact rt_l X hr (ad, (cf g ad x sp dy la kn re)) B (PO_of B) ⟨rfl, by rw [ev], rfl⟩ (Nat.le_of_ble_eq_true rfl) (Nat.le_of_ble_eq_true rfl) dX1_allMonths_15
def v_X1_putSum (sp : Nat → TR) (i0 : Nat) (i1 : Nat) (i2 : Nat) : Int32 × (Nat → TR) := ((v_X1_put sp i0 (((sp i1).1.toInt64) + ((sp i2).1.toInt64)) (((sp i1).2.1.toInt64) + ((sp i2).2.1.toInt64)) (((sp i1).2.2.toInt64) + ((sp i2).2.2.toInt64))).1, (v_X1_put sp i0 (((sp i1).1.toInt64) + ((sp i2).1.toInt64)) (((sp i1).2.1.toInt64) + ((sp i2).2.1.toInt64)) (((sp i1).2.2.toInt64) + ((sp i2).2.2.toInt64))).2)
theorem kp_X1_putSum_sp {sp : Nat → TR} {i0 : Nat} {i1 : Nat} {i2 : Nat} {j : Nat} (h : j ≠ i0) : (v_X1_putSum sp i0 i1 i2).2 j = sp j := by
  unfold v_X1_putSum
  first | (dsimp only; exact kp_X1_put_sp h) | exact kp_X1_put_sp h
theorem b01_X1_putSum {sp : Nat → TR} {i0 : Nat} {i1 : Nat} {i2 : Nat} : (v_X1_putSum sp i0 i1 i2).1 = 0 ∨ (v_X1_putSum sp i0 i1 i2).1 = 1 := by
  unfold v_X1_putSum
  first | (dsimp only; exact b01_X1_put) | exact b01_X1_put
set_option maxHeartbeats 4000000 in
set_option maxRecDepth 100000 in
theorem c_X1_putSum (l : Launch) (g : GG) (N : Nat) (ad : Nat → Nat) (x : Nat → va_E) (sp dy : Nat → TR) (la kn re : Int32) (hN : 23 ≤ N) (i0 : Nat) (hi0 : i0 < 14) (i1 : Nat) (hi1 : i1 < 14) (i2 : Nat) (hi2 : i2 < 14) : KI l yX1_putSum cX1_putSum 3 (some .boolean) (rm 2 0 0) g [.ref (ad (4 + i0)), .ref (ad (4 + i1)), .ref (ad (4 + i2))] N ad (cf g ad x sp dy la kn re) N (fun r ad' f' => ad = ad' ∧ (v_X1_putSum sp i0 i1 i2).1 = r ∧ (cf g ad x (v_X1_putSum sp i0 i1 i2).2 dy la kn re) = f') := by
  intro sz
  refine mt_start (by decide) (Nat.le_of_ble_eq_true rfl) ?_
  intro p e s m args below meth c hsz X hr hnam hA hK hT H locs B ls hl
  obtain ⟨hx, hb, hml, hown, hts, hlocks⟩ := id X
  have hl : lv_has ls 3 [(0, .ref (ad (4 + i0))), (1, .ref (ad (4 + i1))), (2, .ref (ad (4 + i2)))] := hl
  refine lv_aload_n hx hb dX1_putSum_0 rfl (lv_at hl 0 rfl) ?_
  refine lv_aload_n hx hb dX1_putSum_1 rfl (lv_at hl 1 rfl) ?_
  refine g_get (q := (4 + i1)) (k := 0) X hK B rfl in_X1 (pl_sp hN hi1) (cf_sp hi1) (by decide) lk_X1_13 rfl rfl dX1_putSum_2 ?_
  refine lv_i2l (v := (sp i1).1.toInt64) hx hb dX1_putSum_5 rfl ?_
  refine lv_aload_n hx hb dX1_putSum_6 rfl (lv_at hl 2 rfl) ?_
  refine g_get (q := (4 + i2)) (k := 0) X hK B rfl in_X1 (pl_sp hN hi2) (cf_sp hi2) (by decide) lk_X1_13 rfl rfl dX1_putSum_7 ?_
  refine lv_i2l (v := (sp i2).1.toInt64) hx hb dX1_putSum_10 rfl ?_
  refine lv_ladd hx hb dX1_putSum_11 ?_
  refine lv_aload_n hx hb dX1_putSum_12 rfl (lv_at hl 1 rfl) ?_
  refine g_get (q := (4 + i1)) (k := 1) X hK B rfl in_X1 (pl_sp hN hi1) (cf_sp hi1) (by decide) lk_X1_19 rfl rfl dX1_putSum_13 ?_
  refine lv_i2l (v := (sp i1).2.1.toInt64) hx hb dX1_putSum_16 rfl ?_
  refine lv_aload_n hx hb dX1_putSum_17 rfl (lv_at hl 2 rfl) ?_
  refine g_get (q := (4 + i2)) (k := 1) X hK B rfl in_X1 (pl_sp hN hi2) (cf_sp hi2) (by decide) lk_X1_19 rfl rfl dX1_putSum_18 ?_
  refine lv_i2l (v := (sp i2).2.1.toInt64) hx hb dX1_putSum_21 rfl ?_
  refine lv_ladd hx hb dX1_putSum_22 ?_
  refine lv_aload_n hx hb dX1_putSum_23 rfl (lv_at hl 1 rfl) ?_
  refine g_get (q := (4 + i1)) (k := 2) X hK B rfl in_X1 (pl_sp hN hi1) (cf_sp hi1) (by decide) lk_X1_22 rfl rfl dX1_putSum_24 ?_
  refine lv_i2l (v := (sp i1).2.2.toInt64) hx hb dX1_putSum_27 rfl ?_
  refine lv_aload_n hx hb dX1_putSum_28 rfl (lv_at hl 2 rfl) ?_
  refine g_get (q := (4 + i2)) (k := 2) X hK B rfl in_X1 (pl_sp hN hi2) (cf_sp hi2) (by decide) lk_X1_22 rfl rfl dX1_putSum_29 ?_
  refine lv_i2l (v := (sp i2).2.2.toInt64) hx hb dX1_putSum_32 rfl ?_
  refine lv_ladd hx hb dX1_putSum_33 ?_
  refine k_i (k := 0) (n := 0) hA B (u_V (rest := []) X (c_X1_put l g N ad x sp dy la kn re hN i0 hi0 (((sp i1).1.toInt64) + ((sp i2).1.toInt64)) (((sp i1).2.1.toInt64) + ((sp i2).2.1.toInt64)) (((sp i1).2.2.toInt64) + ((sp i2).2.2.toInt64)) H.size) mw_X1_put md_X1_put rfl lk_X1_25 ⟨Nat.le_of_ble_eq_true rfl, Nat.le_of_ble_eq_true rfl⟩ hA hK hT B (pl_sp hN hi0) (cf_sp hi0) rfl rfl hl.1 rfl (Nat.le_of_ble_eq_true rfl) dX1_putSum_34 ⟨Nat.le_of_ble_eq_true rfl, Nat.le_of_ble_eq_true rfl⟩) (Nat.le_of_ble_eq_true rfl) (Nat.le_of_ble_eq_true rfl) (fun r ad' f' H locs hw B => ?_)
  obtain ⟨rfl, rfl, rfl⟩ := hw
  have ev := (show v_X1_putSum sp i0 i1 i2 = ((v_X1_put sp i0 (((sp i1).1.toInt64) + ((sp i2).1.toInt64)) (((sp i1).2.1.toInt64) + ((sp i2).2.1.toInt64)) (((sp i1).2.2.toInt64) + ((sp i2).2.2.toInt64))).1, (v_X1_put sp i0 (((sp i1).1.toInt64) + ((sp i2).1.toInt64)) (((sp i1).2.1.toInt64) + ((sp i2).2.1.toInt64)) (((sp i1).2.2.toInt64) + ((sp i2).2.2.toInt64))).2) from rfl)
  exact rt_i X hr (ad, (cf g ad x (v_X1_put sp i0 (((sp i1).1.toInt64) + ((sp i2).1.toInt64)) (((sp i1).2.1.toInt64) + ((sp i2).2.1.toInt64)) (((sp i1).2.2.toInt64) + ((sp i2).2.2.toInt64))).2 dy la kn re)) B (PO_of B) ⟨rfl, by rw [ev], by rw [ev]⟩ (nb_of b01_X1_put) (Nat.le_of_ble_eq_true rfl) (Nat.le_of_ble_eq_true rfl) dX1_putSum_37
def v_X1_putDifference (sp : Nat → TR) (i0 : Nat) (i1 : Nat) (i2 : Nat) : Int32 × (Nat → TR) := ((v_X1_put sp i0 (((sp i1).1.toInt64) - ((sp i2).1.toInt64)) (((sp i1).2.1.toInt64) - ((sp i2).2.1.toInt64)) (((sp i1).2.2.toInt64) - ((sp i2).2.2.toInt64))).1, (v_X1_put sp i0 (((sp i1).1.toInt64) - ((sp i2).1.toInt64)) (((sp i1).2.1.toInt64) - ((sp i2).2.1.toInt64)) (((sp i1).2.2.toInt64) - ((sp i2).2.2.toInt64))).2)
theorem kp_X1_putDifference_sp {sp : Nat → TR} {i0 : Nat} {i1 : Nat} {i2 : Nat} {j : Nat} (h : j ≠ i0) : (v_X1_putDifference sp i0 i1 i2).2 j = sp j := by
  unfold v_X1_putDifference
  first | (dsimp only; exact kp_X1_put_sp h) | exact kp_X1_put_sp h
theorem b01_X1_putDifference {sp : Nat → TR} {i0 : Nat} {i1 : Nat} {i2 : Nat} : (v_X1_putDifference sp i0 i1 i2).1 = 0 ∨ (v_X1_putDifference sp i0 i1 i2).1 = 1 := by
  unfold v_X1_putDifference
  first | (dsimp only; exact b01_X1_put) | exact b01_X1_put
set_option maxHeartbeats 4000000 in
set_option maxRecDepth 100000 in
theorem c_X1_putDifference (l : Launch) (g : GG) (N : Nat) (ad : Nat → Nat) (x : Nat → va_E) (sp dy : Nat → TR) (la kn re : Int32) (hN : 23 ≤ N) (i0 : Nat) (hi0 : i0 < 14) (i1 : Nat) (hi1 : i1 < 14) (i2 : Nat) (hi2 : i2 < 14) : KI l yX1_putDifference cX1_putDifference 3 (some .boolean) (rm 2 0 0) g [.ref (ad (4 + i0)), .ref (ad (4 + i1)), .ref (ad (4 + i2))] N ad (cf g ad x sp dy la kn re) N (fun r ad' f' => ad = ad' ∧ (v_X1_putDifference sp i0 i1 i2).1 = r ∧ (cf g ad x (v_X1_putDifference sp i0 i1 i2).2 dy la kn re) = f') := by
  intro sz
  refine mt_start (by decide) (Nat.le_of_ble_eq_true rfl) ?_
  intro p e s m args below meth c hsz X hr hnam hA hK hT H locs B ls hl
  obtain ⟨hx, hb, hml, hown, hts, hlocks⟩ := id X
  have hl : lv_has ls 3 [(0, .ref (ad (4 + i0))), (1, .ref (ad (4 + i1))), (2, .ref (ad (4 + i2)))] := hl
  refine lv_aload_n hx hb dX1_putDifference_0 rfl (lv_at hl 0 rfl) ?_
  refine lv_aload_n hx hb dX1_putDifference_1 rfl (lv_at hl 1 rfl) ?_
  refine g_get (q := (4 + i1)) (k := 0) X hK B rfl in_X1 (pl_sp hN hi1) (cf_sp hi1) (by decide) lk_X1_13 rfl rfl dX1_putDifference_2 ?_
  refine lv_i2l (v := (sp i1).1.toInt64) hx hb dX1_putDifference_5 rfl ?_
  refine lv_aload_n hx hb dX1_putDifference_6 rfl (lv_at hl 2 rfl) ?_
  refine g_get (q := (4 + i2)) (k := 0) X hK B rfl in_X1 (pl_sp hN hi2) (cf_sp hi2) (by decide) lk_X1_13 rfl rfl dX1_putDifference_7 ?_
  refine lv_i2l (v := (sp i2).1.toInt64) hx hb dX1_putDifference_10 rfl ?_
  refine lv_lsub hx hb dX1_putDifference_11 ?_
  refine lv_aload_n hx hb dX1_putDifference_12 rfl (lv_at hl 1 rfl) ?_
  refine g_get (q := (4 + i1)) (k := 1) X hK B rfl in_X1 (pl_sp hN hi1) (cf_sp hi1) (by decide) lk_X1_19 rfl rfl dX1_putDifference_13 ?_
  refine lv_i2l (v := (sp i1).2.1.toInt64) hx hb dX1_putDifference_16 rfl ?_
  refine lv_aload_n hx hb dX1_putDifference_17 rfl (lv_at hl 2 rfl) ?_
  refine g_get (q := (4 + i2)) (k := 1) X hK B rfl in_X1 (pl_sp hN hi2) (cf_sp hi2) (by decide) lk_X1_19 rfl rfl dX1_putDifference_18 ?_
  refine lv_i2l (v := (sp i2).2.1.toInt64) hx hb dX1_putDifference_21 rfl ?_
  refine lv_lsub hx hb dX1_putDifference_22 ?_
  refine lv_aload_n hx hb dX1_putDifference_23 rfl (lv_at hl 1 rfl) ?_
  refine g_get (q := (4 + i1)) (k := 2) X hK B rfl in_X1 (pl_sp hN hi1) (cf_sp hi1) (by decide) lk_X1_22 rfl rfl dX1_putDifference_24 ?_
  refine lv_i2l (v := (sp i1).2.2.toInt64) hx hb dX1_putDifference_27 rfl ?_
  refine lv_aload_n hx hb dX1_putDifference_28 rfl (lv_at hl 2 rfl) ?_
  refine g_get (q := (4 + i2)) (k := 2) X hK B rfl in_X1 (pl_sp hN hi2) (cf_sp hi2) (by decide) lk_X1_22 rfl rfl dX1_putDifference_29 ?_
  refine lv_i2l (v := (sp i2).2.2.toInt64) hx hb dX1_putDifference_32 rfl ?_
  refine lv_lsub hx hb dX1_putDifference_33 ?_
  refine k_i (k := 0) (n := 0) hA B (u_V (rest := []) X (c_X1_put l g N ad x sp dy la kn re hN i0 hi0 (((sp i1).1.toInt64) - ((sp i2).1.toInt64)) (((sp i1).2.1.toInt64) - ((sp i2).2.1.toInt64)) (((sp i1).2.2.toInt64) - ((sp i2).2.2.toInt64)) H.size) mw_X1_put md_X1_put rfl lk_X1_25 ⟨Nat.le_of_ble_eq_true rfl, Nat.le_of_ble_eq_true rfl⟩ hA hK hT B (pl_sp hN hi0) (cf_sp hi0) rfl rfl hl.1 rfl (Nat.le_of_ble_eq_true rfl) dX1_putDifference_34 ⟨Nat.le_of_ble_eq_true rfl, Nat.le_of_ble_eq_true rfl⟩) (Nat.le_of_ble_eq_true rfl) (Nat.le_of_ble_eq_true rfl) (fun r ad' f' H locs hw B => ?_)
  obtain ⟨rfl, rfl, rfl⟩ := hw
  have ev := (show v_X1_putDifference sp i0 i1 i2 = ((v_X1_put sp i0 (((sp i1).1.toInt64) - ((sp i2).1.toInt64)) (((sp i1).2.1.toInt64) - ((sp i2).2.1.toInt64)) (((sp i1).2.2.toInt64) - ((sp i2).2.2.toInt64))).1, (v_X1_put sp i0 (((sp i1).1.toInt64) - ((sp i2).1.toInt64)) (((sp i1).2.1.toInt64) - ((sp i2).2.1.toInt64)) (((sp i1).2.2.toInt64) - ((sp i2).2.2.toInt64))).2) from rfl)
  exact rt_i X hr (ad, (cf g ad x (v_X1_put sp i0 (((sp i1).1.toInt64) - ((sp i2).1.toInt64)) (((sp i1).2.1.toInt64) - ((sp i2).2.1.toInt64)) (((sp i1).2.2.toInt64) - ((sp i2).2.2.toInt64))).2 dy la kn re)) B (PO_of B) ⟨rfl, by rw [ev], by rw [ev]⟩ (nb_of b01_X1_put) (Nat.le_of_ble_eq_true rfl) (Nat.le_of_ble_eq_true rfl) dX1_putDifference_37
def v_X1_putTimes (sp : Nat → TR) (i0 : Nat) (i1 : Nat) (b2 : Int64) : Int32 × (Nat → TR) := ((v_X1_put sp i0 (b2 * ((sp i1).1.toInt64)) (b2 * ((sp i1).2.1.toInt64)) (b2 * ((sp i1).2.2.toInt64))).1, (v_X1_put sp i0 (b2 * ((sp i1).1.toInt64)) (b2 * ((sp i1).2.1.toInt64)) (b2 * ((sp i1).2.2.toInt64))).2)
theorem kp_X1_putTimes_sp {sp : Nat → TR} {i0 : Nat} {i1 : Nat} {b2 : Int64} {j : Nat} (h : j ≠ i0) : (v_X1_putTimes sp i0 i1 b2).2 j = sp j := by
  unfold v_X1_putTimes
  first | (dsimp only; exact kp_X1_put_sp h) | exact kp_X1_put_sp h
theorem b01_X1_putTimes {sp : Nat → TR} {i0 : Nat} {i1 : Nat} {b2 : Int64} : (v_X1_putTimes sp i0 i1 b2).1 = 0 ∨ (v_X1_putTimes sp i0 i1 b2).1 = 1 := by
  unfold v_X1_putTimes
  first | (dsimp only; exact b01_X1_put) | exact b01_X1_put
set_option maxHeartbeats 4000000 in
set_option maxRecDepth 100000 in
theorem c_X1_putTimes (l : Launch) (g : GG) (N : Nat) (ad : Nat → Nat) (x : Nat → va_E) (sp dy : Nat → TR) (la kn re : Int32) (hN : 23 ≤ N) (i0 : Nat) (hi0 : i0 < 14) (i1 : Nat) (hi1 : i1 < 14) (b2 : Int64) : KI l yX1_putTimes cX1_putTimes 4 (some .boolean) (rm 2 0 0) g [.ref (ad (4 + i0)), .ref (ad (4 + i1)), .long b2] N ad (cf g ad x sp dy la kn re) N (fun r ad' f' => ad = ad' ∧ (v_X1_putTimes sp i0 i1 b2).1 = r ∧ (cf g ad x (v_X1_putTimes sp i0 i1 b2).2 dy la kn re) = f') := by
  intro sz
  refine mt_start (by decide) (Nat.le_of_ble_eq_true rfl) ?_
  intro p e s m args below meth c hsz X hr hnam hA hK hT H locs B ls hl
  obtain ⟨hx, hb, hml, hown, hts, hlocks⟩ := id X
  have hl : lv_has ls 4 [(0, .ref (ad (4 + i0))), (1, .ref (ad (4 + i1))), (2, .long b2)] := hl
  refine lv_aload_n hx hb dX1_putTimes_0 rfl (lv_at hl 0 rfl) ?_
  refine lv_lload_n hx hb dX1_putTimes_1 rfl (lv_at hl 2 rfl) ?_
  refine lv_aload_n hx hb dX1_putTimes_2 rfl (lv_at hl 1 rfl) ?_
  refine g_get (q := (4 + i1)) (k := 0) X hK B rfl in_X1 (pl_sp hN hi1) (cf_sp hi1) (by decide) lk_X1_13 rfl rfl dX1_putTimes_3 ?_
  refine lv_i2l (v := (sp i1).1.toInt64) hx hb dX1_putTimes_6 rfl ?_
  refine lv_lmul hx hb dX1_putTimes_7 ?_
  refine lv_lload_n hx hb dX1_putTimes_8 rfl (lv_at hl 2 rfl) ?_
  refine lv_aload_n hx hb dX1_putTimes_9 rfl (lv_at hl 1 rfl) ?_
  refine g_get (q := (4 + i1)) (k := 1) X hK B rfl in_X1 (pl_sp hN hi1) (cf_sp hi1) (by decide) lk_X1_19 rfl rfl dX1_putTimes_10 ?_
  refine lv_i2l (v := (sp i1).2.1.toInt64) hx hb dX1_putTimes_13 rfl ?_
  refine lv_lmul hx hb dX1_putTimes_14 ?_
  refine lv_lload_n hx hb dX1_putTimes_15 rfl (lv_at hl 2 rfl) ?_
  refine lv_aload_n hx hb dX1_putTimes_16 rfl (lv_at hl 1 rfl) ?_
  refine g_get (q := (4 + i1)) (k := 2) X hK B rfl in_X1 (pl_sp hN hi1) (cf_sp hi1) (by decide) lk_X1_22 rfl rfl dX1_putTimes_17 ?_
  refine lv_i2l (v := (sp i1).2.2.toInt64) hx hb dX1_putTimes_20 rfl ?_
  refine lv_lmul hx hb dX1_putTimes_21 ?_
  refine k_i (k := 0) (n := 0) hA B (u_V (rest := []) X (c_X1_put l g N ad x sp dy la kn re hN i0 hi0 (b2 * ((sp i1).1.toInt64)) (b2 * ((sp i1).2.1.toInt64)) (b2 * ((sp i1).2.2.toInt64)) H.size) mw_X1_put md_X1_put rfl lk_X1_25 ⟨Nat.le_of_ble_eq_true rfl, Nat.le_of_ble_eq_true rfl⟩ hA hK hT B (pl_sp hN hi0) (cf_sp hi0) rfl rfl hl.1 rfl (Nat.le_of_ble_eq_true rfl) dX1_putTimes_22 ⟨Nat.le_of_ble_eq_true rfl, Nat.le_of_ble_eq_true rfl⟩) (Nat.le_of_ble_eq_true rfl) (Nat.le_of_ble_eq_true rfl) (fun r ad' f' H locs hw B => ?_)
  obtain ⟨rfl, rfl, rfl⟩ := hw
  have ev := (show v_X1_putTimes sp i0 i1 b2 = ((v_X1_put sp i0 (b2 * ((sp i1).1.toInt64)) (b2 * ((sp i1).2.1.toInt64)) (b2 * ((sp i1).2.2.toInt64))).1, (v_X1_put sp i0 (b2 * ((sp i1).1.toInt64)) (b2 * ((sp i1).2.1.toInt64)) (b2 * ((sp i1).2.2.toInt64))).2) from rfl)
  exact rt_i X hr (ad, (cf g ad x (v_X1_put sp i0 (b2 * ((sp i1).1.toInt64)) (b2 * ((sp i1).2.1.toInt64)) (b2 * ((sp i1).2.2.toInt64))).2 dy la kn re)) B (PO_of B) ⟨rfl, by rw [ev], by rw [ev]⟩ (nb_of b01_X1_put) (Nat.le_of_ble_eq_true rfl) (Nat.le_of_ble_eq_true rfl) dX1_putTimes_25
def v_X1_putOpposite (sp : Nat → TR) (i0 : Nat) (i1 : Nat) : Int32 × (Nat → TR) := ((v_X1_putTimes sp i0 i1 (-1)).1, (v_X1_putTimes sp i0 i1 (-1)).2)
theorem kp_X1_putOpposite_sp {sp : Nat → TR} {i0 : Nat} {i1 : Nat} {j : Nat} (h : j ≠ i0) : (v_X1_putOpposite sp i0 i1).2 j = sp j := by
  unfold v_X1_putOpposite
  first | (dsimp only; exact kp_X1_putTimes_sp h) | exact kp_X1_putTimes_sp h
theorem b01_X1_putOpposite {sp : Nat → TR} {i0 : Nat} {i1 : Nat} : (v_X1_putOpposite sp i0 i1).1 = 0 ∨ (v_X1_putOpposite sp i0 i1).1 = 1 := by
  unfold v_X1_putOpposite
  first | (dsimp only; exact b01_X1_putTimes) | exact b01_X1_putTimes
set_option maxHeartbeats 4000000 in
set_option maxRecDepth 100000 in
theorem c_X1_putOpposite (l : Launch) (g : GG) (N : Nat) (ad : Nat → Nat) (x : Nat → va_E) (sp dy : Nat → TR) (la kn re : Int32) (hN : 23 ≤ N) (i0 : Nat) (hi0 : i0 < 14) (i1 : Nat) (hi1 : i1 < 14) : KI l yX1_putOpposite cX1_putOpposite 2 (some .boolean) (rm 3 0 0) g [.ref (ad (4 + i0)), .ref (ad (4 + i1))] N ad (cf g ad x sp dy la kn re) N (fun r ad' f' => ad = ad' ∧ (v_X1_putOpposite sp i0 i1).1 = r ∧ (cf g ad x (v_X1_putOpposite sp i0 i1).2 dy la kn re) = f') := by
  intro sz
  refine mt_start (by decide) (Nat.le_of_ble_eq_true rfl) ?_
  intro p e s m args below meth c hsz X hr hnam hA hK hT H locs B ls hl
  obtain ⟨hx, hb, hml, hown, hts, hlocks⟩ := id X
  have hl : lv_has ls 2 [(0, .ref (ad (4 + i0))), (1, .ref (ad (4 + i1)))] := hl
  refine lv_aload_n hx hb dX1_putOpposite_0 rfl (lv_at hl 0 rfl) ?_
  refine lv_aload_n hx hb dX1_putOpposite_1 rfl (lv_at hl 1 rfl) ?_
  refine lv_ldc2 hx hb hown (hts _ (List.mem_cons_of_mem _ lk_X1_29)) dX1_putOpposite_2 ?_
  refine k_i (k := 0) (n := 0) hA B (u_V (rest := []) X (c_X1_putTimes l g N ad x sp dy la kn re hN i0 hi0 i1 hi1 (-1) H.size) mw_X1_putTimes md_X1_putTimes rfl lk_X1_31 ⟨Nat.le_of_ble_eq_true rfl, Nat.le_of_ble_eq_true rfl⟩ hA hK hT B (pl_sp hN hi0) (cf_sp hi0) rfl rfl hl.1 rfl (Nat.le_of_ble_eq_true rfl) dX1_putOpposite_5 ⟨Nat.le_of_ble_eq_true rfl, Nat.le_of_ble_eq_true rfl⟩) (Nat.le_of_ble_eq_true rfl) (Nat.le_of_ble_eq_true rfl) (fun r ad' f' H locs hw B => ?_)
  obtain ⟨rfl, rfl, rfl⟩ := hw
  have ev := (show v_X1_putOpposite sp i0 i1 = ((v_X1_putTimes sp i0 i1 (-1)).1, (v_X1_putTimes sp i0 i1 (-1)).2) from rfl)
  exact rt_i X hr (ad, (cf g ad x (v_X1_putTimes sp i0 i1 (-1)).2 dy la kn re)) B (PO_of B) ⟨rfl, by rw [ev], by rw [ev]⟩ (nb_of b01_X1_putTimes) (Nat.le_of_ble_eq_true rfl) (Nat.le_of_ble_eq_true rfl) dX1_putOpposite_8
def v_X1_putTidy (sp : Nat → TR) (i0 : Nat) (i1 : Nat) : Int32 × (Nat → TR) := ((v_X1_put sp i0 ((v_X1_allMonths sp i1) / 12) ((v_X1_allMonths sp i1) - (v_X1_allMonths sp i1) / 12 * 12) ((sp i1).2.2.toInt64)).1, (v_X1_put sp i0 ((v_X1_allMonths sp i1) / 12) ((v_X1_allMonths sp i1) - (v_X1_allMonths sp i1) / 12 * 12) ((sp i1).2.2.toInt64)).2)
theorem kp_X1_putTidy_sp {sp : Nat → TR} {i0 : Nat} {i1 : Nat} {j : Nat} (h : j ≠ i0) : (v_X1_putTidy sp i0 i1).2 j = sp j := by
  unfold v_X1_putTidy
  first | (dsimp only; exact kp_X1_put_sp h) | exact kp_X1_put_sp h
theorem b01_X1_putTidy {sp : Nat → TR} {i0 : Nat} {i1 : Nat} : (v_X1_putTidy sp i0 i1).1 = 0 ∨ (v_X1_putTidy sp i0 i1).1 = 1 := by
  unfold v_X1_putTidy
  first | (dsimp only; exact b01_X1_put) | exact b01_X1_put
set_option maxHeartbeats 4000000 in
set_option maxRecDepth 100000 in
theorem c_X1_putTidy (l : Launch) (g : GG) (N : Nat) (ad : Nat → Nat) (x : Nat → va_E) (sp dy : Nat → TR) (la kn re : Int32) (hN : 23 ≤ N) (i0 : Nat) (hi0 : i0 < 14) (i1 : Nat) (hi1 : i1 < 14) : KI l yX1_putTidy cX1_putTidy 4 (some .boolean) (rm 2 0 0) g [.ref (ad (4 + i0)), .ref (ad (4 + i1))] N ad (cf g ad x sp dy la kn re) N (fun r ad' f' => ad = ad' ∧ (v_X1_putTidy sp i0 i1).1 = r ∧ (cf g ad x (v_X1_putTidy sp i0 i1).2 dy la kn re) = f') := by
  intro sz
  refine mt_start (by decide) (Nat.le_of_ble_eq_true rfl) ?_
  intro p e s m args below meth c hsz X hr hnam hA hK hT H locs B ls hl
  obtain ⟨hx, hb, hml, hown, hts, hlocks⟩ := id X
  have hl : lv_has ls 4 [(0, .ref (ad (4 + i0))), (1, .ref (ad (4 + i1)))] := hl
  refine lv_aload_n hx hb dX1_putTidy_0 rfl (lv_at hl 1 rfl) ?_
  refine k_l (k := 0) (n := 0) hA B (u_V (rest := []) X (c_X1_allMonths l g N ad x sp dy la kn re hN i1 hi1 H.size) mw_X1_allMonths md_X1_allMonths rfl lk_X1_35 ⟨Nat.le_of_ble_eq_true rfl, Nat.le_of_ble_eq_true rfl⟩ hA hK hT B (pl_sp hN hi1) (cf_sp hi1) rfl rfl hl.1 rfl (Nat.le_of_ble_eq_true rfl) dX1_putTidy_1 ⟨Nat.le_of_ble_eq_true rfl, Nat.le_of_ble_eq_true rfl⟩) (Nat.le_of_ble_eq_true rfl) (Nat.le_of_ble_eq_true rfl) (fun r ad' f' H locs hw B => ?_)
  obtain ⟨rfl, rfl, rfl⟩ := hw
  refine lv_lstore_n (lv' := [(2, .long (v_X1_allMonths sp i1)), (0, .ref (ad (4 + i0))), (1, .ref (ad (4 + i1)))]) hx hb dX1_putTidy_4 rfl hl (by decide) rfl (fun ls hl => ?_)
  refine lv_aload_n hx hb dX1_putTidy_5 rfl (lv_at hl 1 rfl) ?_
  refine lv_lload_n hx hb dX1_putTidy_6 rfl (lv_at hl 0 rfl) ?_
  refine lv_ldc2 hx hb hown (hts _ (List.mem_cons_of_mem _ lk_X1_39)) dX1_putTidy_7 ?_
  refine lv_ldiv hx hb dX1_putTidy_10 (by decide) ?_
  refine lv_lload_n hx hb dX1_putTidy_11 rfl (lv_at hl 0 rfl) ?_
  refine lv_ldc2 hx hb hown (hts _ (List.mem_cons_of_mem _ lk_X1_39)) dX1_putTidy_12 ?_
  refine lv_lrem hx hb dX1_putTidy_15 (by decide) ?_
  refine lv_aload_n hx hb dX1_putTidy_16 rfl (lv_at hl 2 rfl) ?_
  refine g_get (q := (4 + i1)) (k := 2) X hK B rfl in_X1 (pl_sp hN hi1) (cf_sp hi1) (by decide) lk_X1_22 rfl rfl dX1_putTidy_17 ?_
  refine lv_i2l (v := (sp i1).2.2.toInt64) hx hb dX1_putTidy_20 rfl ?_
  refine k_i (k := 0) (n := 0) hA B (u_V (rest := []) X (c_X1_put l g N ad x sp dy la kn re hN i0 hi0 ((v_X1_allMonths sp i1) / 12) ((v_X1_allMonths sp i1) - (v_X1_allMonths sp i1) / 12 * 12) ((sp i1).2.2.toInt64) H.size) mw_X1_put md_X1_put rfl lk_X1_25 ⟨Nat.le_of_ble_eq_true rfl, Nat.le_of_ble_eq_true rfl⟩ hA hK hT B (pl_sp hN hi0) (cf_sp hi0) rfl rfl hl.1 rfl (Nat.le_of_ble_eq_true rfl) dX1_putTidy_21 ⟨Nat.le_of_ble_eq_true rfl, Nat.le_of_ble_eq_true rfl⟩) (Nat.le_of_ble_eq_true rfl) (Nat.le_of_ble_eq_true rfl) (fun r ad' f' H locs hw B => ?_)
  obtain ⟨rfl, rfl, rfl⟩ := hw
  have ev := (show v_X1_putTidy sp i0 i1 = ((v_X1_put sp i0 ((v_X1_allMonths sp i1) / 12) ((v_X1_allMonths sp i1) - (v_X1_allMonths sp i1) / 12 * 12) ((sp i1).2.2.toInt64)).1, (v_X1_put sp i0 ((v_X1_allMonths sp i1) / 12) ((v_X1_allMonths sp i1) - (v_X1_allMonths sp i1) / 12 * 12) ((sp i1).2.2.toInt64)).2) from rfl)
  exact rt_i X hr (ad, (cf g ad x (v_X1_put sp i0 ((v_X1_allMonths sp i1) / 12) ((v_X1_allMonths sp i1) - (v_X1_allMonths sp i1) / 12 * 12) ((sp i1).2.2.toInt64)).2 dy la kn re)) B (PO_of B) ⟨rfl, by rw [ev], by rw [ev]⟩ (nb_of b01_X1_put) (Nat.le_of_ble_eq_true rfl) (Nat.le_of_ble_eq_true rfl) dX1_putTidy_24
def v_X1_number (sp : Nat → TR) (i0 : Nat) (a1 : Int32) : Int32 := if a1 = 0 then (sp i0).1 else (if a1 = 1 then (sp i0).2.1 else (sp i0).2.2)
set_option maxHeartbeats 4000000 in
set_option maxRecDepth 100000 in
theorem c_X1_number (l : Launch) (g : GG) (N : Nat) (ad : Nat → Nat) (x : Nat → va_E) (sp dy : Nat → TR) (la kn re : Int32) (hN : 23 ≤ N) (i0 : Nat) (hi0 : i0 < 14) (a1 : Int32) : KI l yX1_number cX1_number 2 (some .int) (rm 0 0 0) g [.ref (ad (4 + i0)), .int a1] N ad (cf g ad x sp dy la kn re) N (fun r ad' f' => ad = ad' ∧ (v_X1_number sp i0 a1) = r ∧ (cf g ad x sp dy la kn re) = f') := by
  intro sz
  refine mt_start (by decide) (Nat.le_of_ble_eq_true rfl) ?_
  intro p e s m args below meth c hsz X hr hnam hA hK hT H locs B ls hl
  obtain ⟨hx, hb, hml, hown, hts, hlocks⟩ := id X
  have hl : lv_has ls 2 [(0, .ref (ad (4 + i0))), (1, .int a1)] := hl
  refine lv_iload_n hx hb dX1_number_0 rfl (lv_at hl 1 rfl) ?_
  refine lv_if_ne (tgt := 11) hx hb dX1_number_1 (by decide) (fun c1 => ?_) (fun c1 => ?_)
  · refine lv_iload_n hx hb dX1_number_11 rfl (lv_at hl 1 rfl) ?_
    refine lv_iconst (v := 1) hx hb dX1_number_12 (by decide) ?_
    refine lv_icmp_ne (tgt := 23) hx hb dX1_number_13 (by decide) (fun c2 => ?_) (fun c2 => ?_)
    · refine lv_aload_n hx hb dX1_number_23 rfl (lv_at hl 0 rfl) ?_
      refine g_get (q := (4 + i0)) (k := 2) X hK B rfl in_X1 (pl_sp hN hi0) (cf_sp hi0) (by decide) lk_X1_22 rfl rfl dX1_number_24 ?_
      have ev := (show v_X1_number sp i0 a1 = (sp i0).2.2 from by unfold v_X1_number; rw [if_neg c1, if_neg c2])
      exact rt_i X hr (ad, (cf g ad x sp dy la kn re)) B (PO_of B) ⟨rfl, by rw [ev], rfl⟩ rfl (Nat.le_of_ble_eq_true rfl) (Nat.le_of_ble_eq_true rfl) dX1_number_27
    · refine lv_aload_n hx hb dX1_number_16 rfl (lv_at hl 0 rfl) ?_
      refine g_get (q := (4 + i0)) (k := 1) X hK B rfl in_X1 (pl_sp hN hi0) (cf_sp hi0) (by decide) lk_X1_19 rfl rfl dX1_number_17 ?_
      refine lv_goto (tgt := 27) hx hb dX1_number_20 (by decide) ?_
      have ev := (show v_X1_number sp i0 a1 = (sp i0).2.1 from by unfold v_X1_number; rw [if_neg c1, if_pos c2])
      exact rt_i X hr (ad, (cf g ad x sp dy la kn re)) B (PO_of B) ⟨rfl, by rw [ev], rfl⟩ rfl (Nat.le_of_ble_eq_true rfl) (Nat.le_of_ble_eq_true rfl) dX1_number_27
  · refine lv_aload_n hx hb dX1_number_4 rfl (lv_at hl 0 rfl) ?_
    refine g_get (q := (4 + i0)) (k := 0) X hK B rfl in_X1 (pl_sp hN hi0) (cf_sp hi0) (by decide) lk_X1_13 rfl rfl dX1_number_5 ?_
    refine lv_goto (tgt := 27) hx hb dX1_number_8 (by decide) ?_
    have ev := (show v_X1_number sp i0 a1 = (sp i0).1 from by unfold v_X1_number; rw [if_pos c1])
    exact rt_i X hr (ad, (cf g ad x sp dy la kn re)) B (PO_of B) ⟨rfl, by rw [ev], rfl⟩ rfl (Nat.le_of_ble_eq_true rfl) (Nat.le_of_ble_eq_true rfl) dX1_number_27
def v_X1_isNothing (sp : Nat → TR) (i0 : Nat) : Int32 := if (sp i0).1 = 0 then (if (sp i0).2.1 = 0 then (if (sp i0).2.2 = 0 then 1 else 0) else 0) else 0
theorem b01_X1_isNothing {sp : Nat → TR} {i0 : Nat} : (v_X1_isNothing sp i0) = 0 ∨ (v_X1_isNothing sp i0) = 1 := by
  unfold v_X1_isNothing
  by_cases q1 : (sp i0).1 = 0
  · rw [if_pos q1]
    by_cases q2 : (sp i0).2.1 = 0
    · rw [if_pos q2]
      by_cases q3 : (sp i0).2.2 = 0
      · rw [if_pos q3]
        exact Or.inr rfl
      · rw [if_neg q3]
        exact Or.inl rfl
    · rw [if_neg q2]
      exact Or.inl rfl
  · rw [if_neg q1]
    exact Or.inl rfl
set_option maxHeartbeats 4000000 in
set_option maxRecDepth 100000 in
theorem c_X1_isNothing (l : Launch) (g : GG) (N : Nat) (ad : Nat → Nat) (x : Nat → va_E) (sp dy : Nat → TR) (la kn re : Int32) (hN : 23 ≤ N) (i0 : Nat) (hi0 : i0 < 14) : KI l yX1_isNothing cX1_isNothing 1 (some .boolean) (rm 0 0 0) g [.ref (ad (4 + i0))] N ad (cf g ad x sp dy la kn re) N (fun r ad' f' => ad = ad' ∧ (v_X1_isNothing sp i0) = r ∧ (cf g ad x sp dy la kn re) = f') := by
  intro sz
  refine mt_start (by decide) (Nat.le_of_ble_eq_true rfl) ?_
  intro p e s m args below meth c hsz X hr hnam hA hK hT H locs B ls hl
  obtain ⟨hx, hb, hml, hown, hts, hlocks⟩ := id X
  have hl : lv_has ls 1 [(0, .ref (ad (4 + i0)))] := hl
  refine lv_aload_n hx hb dX1_isNothing_0 rfl (lv_at hl 0 rfl) ?_
  refine g_get (q := (4 + i0)) (k := 0) X hK B rfl in_X1 (pl_sp hN hi0) (cf_sp hi0) (by decide) lk_X1_13 rfl rfl dX1_isNothing_1 ?_
  refine lv_if_ne (tgt := 25) hx hb dX1_isNothing_4 (by decide) (fun c1 => ?_) (fun c1 => ?_)
  · refine lv_iconst (v := 0) hx hb dX1_isNothing_25 (by decide) ?_
    have ev := (show v_X1_isNothing sp i0 = 0 from by unfold v_X1_isNothing; rw [if_neg c1])
    exact rt_i X hr (ad, (cf g ad x sp dy la kn re)) B (PO_of B) ⟨rfl, by rw [ev], rfl⟩ rfl (Nat.le_of_ble_eq_true rfl) (Nat.le_of_ble_eq_true rfl) dX1_isNothing_26
  · refine lv_aload_n hx hb dX1_isNothing_7 rfl (lv_at hl 0 rfl) ?_
    refine g_get (q := (4 + i0)) (k := 1) X hK B rfl in_X1 (pl_sp hN hi0) (cf_sp hi0) (by decide) lk_X1_19 rfl rfl dX1_isNothing_8 ?_
    refine lv_if_ne (tgt := 25) hx hb dX1_isNothing_11 (by decide) (fun c2 => ?_) (fun c2 => ?_)
    · refine lv_iconst (v := 0) hx hb dX1_isNothing_25 (by decide) ?_
      have ev := (show v_X1_isNothing sp i0 = 0 from by unfold v_X1_isNothing; rw [if_pos c1, if_neg c2])
      exact rt_i X hr (ad, (cf g ad x sp dy la kn re)) B (PO_of B) ⟨rfl, by rw [ev], rfl⟩ rfl (Nat.le_of_ble_eq_true rfl) (Nat.le_of_ble_eq_true rfl) dX1_isNothing_26
    · refine lv_aload_n hx hb dX1_isNothing_14 rfl (lv_at hl 0 rfl) ?_
      refine g_get (q := (4 + i0)) (k := 2) X hK B rfl in_X1 (pl_sp hN hi0) (cf_sp hi0) (by decide) lk_X1_22 rfl rfl dX1_isNothing_15 ?_
      refine lv_if_ne (tgt := 25) hx hb dX1_isNothing_18 (by decide) (fun c3 => ?_) (fun c3 => ?_)
      · refine lv_iconst (v := 0) hx hb dX1_isNothing_25 (by decide) ?_
        have ev := (show v_X1_isNothing sp i0 = 0 from by unfold v_X1_isNothing; rw [if_pos c1, if_pos c2, if_neg c3])
        exact rt_i X hr (ad, (cf g ad x sp dy la kn re)) B (PO_of B) ⟨rfl, by rw [ev], rfl⟩ rfl (Nat.le_of_ble_eq_true rfl) (Nat.le_of_ble_eq_true rfl) dX1_isNothing_26
      · refine lv_iconst (v := 1) hx hb dX1_isNothing_21 (by decide) ?_
        refine lv_goto (tgt := 26) hx hb dX1_isNothing_22 (by decide) ?_
        have ev := (show v_X1_isNothing sp i0 = 1 from by unfold v_X1_isNothing; rw [if_pos c1, if_pos c2, if_pos c3])
        exact rt_i X hr (ad, (cf g ad x sp dy la kn re)) B (PO_of B) ⟨rfl, by rw [ev], rfl⟩ rfl (Nat.le_of_ble_eq_true rfl) (Nat.le_of_ble_eq_true rfl) dX1_isNothing_26
def v_X1_isBelowZero (sp : Nat → TR) (i0 : Nat) : Int32 := if (sp i0).1 < 0 then 1 else (if (sp i0).2.1 < 0 then 1 else (if 0 ≤ (sp i0).2.2 then 0 else 1))
theorem b01_X1_isBelowZero {sp : Nat → TR} {i0 : Nat} : (v_X1_isBelowZero sp i0) = 0 ∨ (v_X1_isBelowZero sp i0) = 1 := by
  unfold v_X1_isBelowZero
  by_cases q1 : (sp i0).1 < 0
  · rw [if_pos q1]
    exact Or.inr rfl
  · rw [if_neg q1]
    by_cases q2 : (sp i0).2.1 < 0
    · rw [if_pos q2]
      exact Or.inr rfl
    · rw [if_neg q2]
      by_cases q3 : 0 ≤ (sp i0).2.2
      · rw [if_pos q3]
        exact Or.inl rfl
      · rw [if_neg q3]
        exact Or.inr rfl
set_option maxHeartbeats 4000000 in
set_option maxRecDepth 100000 in
theorem c_X1_isBelowZero (l : Launch) (g : GG) (N : Nat) (ad : Nat → Nat) (x : Nat → va_E) (sp dy : Nat → TR) (la kn re : Int32) (hN : 23 ≤ N) (i0 : Nat) (hi0 : i0 < 14) : KI l yX1_isBelowZero cX1_isBelowZero 1 (some .boolean) (rm 0 0 0) g [.ref (ad (4 + i0))] N ad (cf g ad x sp dy la kn re) N (fun r ad' f' => ad = ad' ∧ (v_X1_isBelowZero sp i0) = r ∧ (cf g ad x sp dy la kn re) = f') := by
  intro sz
  refine mt_start (by decide) (Nat.le_of_ble_eq_true rfl) ?_
  intro p e s m args below meth c hsz X hr hnam hA hK hT H locs B ls hl
  obtain ⟨hx, hb, hml, hown, hts, hlocks⟩ := id X
  have hl : lv_has ls 1 [(0, .ref (ad (4 + i0)))] := hl
  refine lv_aload_n hx hb dX1_isBelowZero_0 rfl (lv_at hl 0 rfl) ?_
  refine g_get (q := (4 + i0)) (k := 0) X hK B rfl in_X1 (pl_sp hN hi0) (cf_sp hi0) (by decide) lk_X1_13 rfl rfl dX1_isBelowZero_1 ?_
  refine lv_if_lt (tgt := 21) hx hb dX1_isBelowZero_4 (by decide) (fun c1 => ?_) (fun c1 => ?_)
  · refine lv_iconst (v := 1) hx hb dX1_isBelowZero_21 (by decide) ?_
    refine lv_goto (tgt := 26) hx hb dX1_isBelowZero_22 (by decide) ?_
    have ev := (show v_X1_isBelowZero sp i0 = 1 from by unfold v_X1_isBelowZero; rw [if_pos c1])
    exact rt_i X hr (ad, (cf g ad x sp dy la kn re)) B (PO_of B) ⟨rfl, by rw [ev], rfl⟩ rfl (Nat.le_of_ble_eq_true rfl) (Nat.le_of_ble_eq_true rfl) dX1_isBelowZero_26
  · refine lv_aload_n hx hb dX1_isBelowZero_7 rfl (lv_at hl 0 rfl) ?_
    refine g_get (q := (4 + i0)) (k := 1) X hK B rfl in_X1 (pl_sp hN hi0) (cf_sp hi0) (by decide) lk_X1_19 rfl rfl dX1_isBelowZero_8 ?_
    refine lv_if_lt (tgt := 21) hx hb dX1_isBelowZero_11 (by decide) (fun c2 => ?_) (fun c2 => ?_)
    · refine lv_iconst (v := 1) hx hb dX1_isBelowZero_21 (by decide) ?_
      refine lv_goto (tgt := 26) hx hb dX1_isBelowZero_22 (by decide) ?_
      have ev := (show v_X1_isBelowZero sp i0 = 1 from by unfold v_X1_isBelowZero; rw [if_neg c1, if_pos c2])
      exact rt_i X hr (ad, (cf g ad x sp dy la kn re)) B (PO_of B) ⟨rfl, by rw [ev], rfl⟩ rfl (Nat.le_of_ble_eq_true rfl) (Nat.le_of_ble_eq_true rfl) dX1_isBelowZero_26
    · refine lv_aload_n hx hb dX1_isBelowZero_14 rfl (lv_at hl 0 rfl) ?_
      refine g_get (q := (4 + i0)) (k := 2) X hK B rfl in_X1 (pl_sp hN hi0) (cf_sp hi0) (by decide) lk_X1_22 rfl rfl dX1_isBelowZero_15 ?_
      refine lv_if_ge (tgt := 25) hx hb dX1_isBelowZero_18 (by decide) (fun c3 => ?_) (fun c3 => ?_)
      · refine lv_iconst (v := 0) hx hb dX1_isBelowZero_25 (by decide) ?_
        have ev := (show v_X1_isBelowZero sp i0 = 0 from by unfold v_X1_isBelowZero; rw [if_neg c1, if_neg c2, if_pos c3])
        exact rt_i X hr (ad, (cf g ad x sp dy la kn re)) B (PO_of B) ⟨rfl, by rw [ev], rfl⟩ rfl (Nat.le_of_ble_eq_true rfl) (Nat.le_of_ble_eq_true rfl) dX1_isBelowZero_26
      · refine lv_iconst (v := 1) hx hb dX1_isBelowZero_21 (by decide) ?_
        refine lv_goto (tgt := 26) hx hb dX1_isBelowZero_22 (by decide) ?_
        have ev := (show v_X1_isBelowZero sp i0 = 1 from by unfold v_X1_isBelowZero; rw [if_neg c1, if_neg c2, if_neg c3])
        exact rt_i X hr (ad, (cf g ad x sp dy la kn re)) B (PO_of B) ⟨rfl, by rw [ev], rfl⟩ rfl (Nat.le_of_ble_eq_true rfl) (Nat.le_of_ble_eq_true rfl) dX1_isBelowZero_26
def v_X1_isSameAs (sp : Nat → TR) (i0 : Nat) (i1 : Nat) : Int32 := if (sp i0).1 = (sp i1).1 then (if (sp i0).2.1 = (sp i1).2.1 then (if (sp i0).2.2 = (sp i1).2.2 then 1 else 0) else 0) else 0
theorem b01_X1_isSameAs {sp : Nat → TR} {i0 : Nat} {i1 : Nat} : (v_X1_isSameAs sp i0 i1) = 0 ∨ (v_X1_isSameAs sp i0 i1) = 1 := by
  unfold v_X1_isSameAs
  by_cases q1 : (sp i0).1 = (sp i1).1
  · rw [if_pos q1]
    by_cases q2 : (sp i0).2.1 = (sp i1).2.1
    · rw [if_pos q2]
      by_cases q3 : (sp i0).2.2 = (sp i1).2.2
      · rw [if_pos q3]
        exact Or.inr rfl
      · rw [if_neg q3]
        exact Or.inl rfl
    · rw [if_neg q2]
      exact Or.inl rfl
  · rw [if_neg q1]
    exact Or.inl rfl
set_option maxHeartbeats 4000000 in
set_option maxRecDepth 100000 in
theorem c_X1_isSameAs (l : Launch) (g : GG) (N : Nat) (ad : Nat → Nat) (x : Nat → va_E) (sp dy : Nat → TR) (la kn re : Int32) (hN : 23 ≤ N) (i0 : Nat) (hi0 : i0 < 14) (i1 : Nat) (hi1 : i1 < 14) : KI l yX1_isSameAs cX1_isSameAs 2 (some .boolean) (rm 0 0 0) g [.ref (ad (4 + i0)), .ref (ad (4 + i1))] N ad (cf g ad x sp dy la kn re) N (fun r ad' f' => ad = ad' ∧ (v_X1_isSameAs sp i0 i1) = r ∧ (cf g ad x sp dy la kn re) = f') := by
  intro sz
  refine mt_start (by decide) (Nat.le_of_ble_eq_true rfl) ?_
  intro p e s m args below meth c hsz X hr hnam hA hK hT H locs B ls hl
  obtain ⟨hx, hb, hml, hown, hts, hlocks⟩ := id X
  have hl : lv_has ls 2 [(0, .ref (ad (4 + i0))), (1, .ref (ad (4 + i1)))] := hl
  refine lv_aload_n hx hb dX1_isSameAs_0 rfl (lv_at hl 0 rfl) ?_
  refine g_get (q := (4 + i0)) (k := 0) X hK B rfl in_X1 (pl_sp hN hi0) (cf_sp hi0) (by decide) lk_X1_13 rfl rfl dX1_isSameAs_1 ?_
  refine lv_aload_n hx hb dX1_isSameAs_4 rfl (lv_at hl 1 rfl) ?_
  refine g_get (q := (4 + i1)) (k := 0) X hK B rfl in_X1 (pl_sp hN hi1) (cf_sp hi1) (by decide) lk_X1_13 rfl rfl dX1_isSameAs_5 ?_
  refine lv_icmp_ne (tgt := 37) hx hb dX1_isSameAs_8 (by decide) (fun c1 => ?_) (fun c1 => ?_)
  · refine lv_iconst (v := 0) hx hb dX1_isSameAs_37 (by decide) ?_
    have ev := (show v_X1_isSameAs sp i0 i1 = 0 from by unfold v_X1_isSameAs; rw [if_neg c1])
    exact rt_i X hr (ad, (cf g ad x sp dy la kn re)) B (PO_of B) ⟨rfl, by rw [ev], rfl⟩ rfl (Nat.le_of_ble_eq_true rfl) (Nat.le_of_ble_eq_true rfl) dX1_isSameAs_38
  · refine lv_aload_n hx hb dX1_isSameAs_11 rfl (lv_at hl 0 rfl) ?_
    refine g_get (q := (4 + i0)) (k := 1) X hK B rfl in_X1 (pl_sp hN hi0) (cf_sp hi0) (by decide) lk_X1_19 rfl rfl dX1_isSameAs_12 ?_
    refine lv_aload_n hx hb dX1_isSameAs_15 rfl (lv_at hl 1 rfl) ?_
    refine g_get (q := (4 + i1)) (k := 1) X hK B rfl in_X1 (pl_sp hN hi1) (cf_sp hi1) (by decide) lk_X1_19 rfl rfl dX1_isSameAs_16 ?_
    refine lv_icmp_ne (tgt := 37) hx hb dX1_isSameAs_19 (by decide) (fun c2 => ?_) (fun c2 => ?_)
    · refine lv_iconst (v := 0) hx hb dX1_isSameAs_37 (by decide) ?_
      have ev := (show v_X1_isSameAs sp i0 i1 = 0 from by unfold v_X1_isSameAs; rw [if_pos c1, if_neg c2])
      exact rt_i X hr (ad, (cf g ad x sp dy la kn re)) B (PO_of B) ⟨rfl, by rw [ev], rfl⟩ rfl (Nat.le_of_ble_eq_true rfl) (Nat.le_of_ble_eq_true rfl) dX1_isSameAs_38
    · refine lv_aload_n hx hb dX1_isSameAs_22 rfl (lv_at hl 0 rfl) ?_
      refine g_get (q := (4 + i0)) (k := 2) X hK B rfl in_X1 (pl_sp hN hi0) (cf_sp hi0) (by decide) lk_X1_22 rfl rfl dX1_isSameAs_23 ?_
      refine lv_aload_n hx hb dX1_isSameAs_26 rfl (lv_at hl 1 rfl) ?_
      refine g_get (q := (4 + i1)) (k := 2) X hK B rfl in_X1 (pl_sp hN hi1) (cf_sp hi1) (by decide) lk_X1_22 rfl rfl dX1_isSameAs_27 ?_
      refine lv_icmp_ne (tgt := 37) hx hb dX1_isSameAs_30 (by decide) (fun c3 => ?_) (fun c3 => ?_)
      · refine lv_iconst (v := 0) hx hb dX1_isSameAs_37 (by decide) ?_
        have ev := (show v_X1_isSameAs sp i0 i1 = 0 from by unfold v_X1_isSameAs; rw [if_pos c1, if_pos c2, if_neg c3])
        exact rt_i X hr (ad, (cf g ad x sp dy la kn re)) B (PO_of B) ⟨rfl, by rw [ev], rfl⟩ rfl (Nat.le_of_ble_eq_true rfl) (Nat.le_of_ble_eq_true rfl) dX1_isSameAs_38
      · refine lv_iconst (v := 1) hx hb dX1_isSameAs_33 (by decide) ?_
        refine lv_goto (tgt := 38) hx hb dX1_isSameAs_34 (by decide) ?_
        have ev := (show v_X1_isSameAs sp i0 i1 = 1 from by unfold v_X1_isSameAs; rw [if_pos c1, if_pos c2, if_pos c3])
        exact rt_i X hr (ad, (cf g ad x sp dy la kn re)) B (PO_of B) ⟨rfl, by rw [ev], rfl⟩ rfl (Nat.le_of_ble_eq_true rfl) (Nat.le_of_ble_eq_true rfl) dX1_isSameAs_38
def v_X1_isAlikeTo (sp : Nat → TR) (i0 : Nat) (i1 : Nat) : Int32 := if (lg_cmp (v_X1_allMonths sp i0) (v_X1_allMonths sp i1)) = 0 then (if (sp i0).2.2 = (sp i1).2.2 then 1 else 0) else 0
theorem b01_X1_isAlikeTo {sp : Nat → TR} {i0 : Nat} {i1 : Nat} : (v_X1_isAlikeTo sp i0 i1) = 0 ∨ (v_X1_isAlikeTo sp i0 i1) = 1 := by
  unfold v_X1_isAlikeTo
  by_cases q1 : (lg_cmp (v_X1_allMonths sp i0) (v_X1_allMonths sp i1)) = 0
  · rw [if_pos q1]
    by_cases q2 : (sp i0).2.2 = (sp i1).2.2
    · rw [if_pos q2]
      exact Or.inr rfl
    · rw [if_neg q2]
      exact Or.inl rfl
  · rw [if_neg q1]
    exact Or.inl rfl
set_option maxHeartbeats 4000000 in
set_option maxRecDepth 100000 in
theorem c_X1_isAlikeTo (l : Launch) (g : GG) (N : Nat) (ad : Nat → Nat) (x : Nat → va_E) (sp dy : Nat → TR) (la kn re : Int32) (hN : 23 ≤ N) (i0 : Nat) (hi0 : i0 < 14) (i1 : Nat) (hi1 : i1 < 14) : KI l yX1_isAlikeTo cX1_isAlikeTo 2 (some .boolean) (rm 1 0 0) g [.ref (ad (4 + i0)), .ref (ad (4 + i1))] N ad (cf g ad x sp dy la kn re) N (fun r ad' f' => ad = ad' ∧ (v_X1_isAlikeTo sp i0 i1) = r ∧ (cf g ad x sp dy la kn re) = f') := by
  intro sz
  refine mt_start (by decide) (Nat.le_of_ble_eq_true rfl) ?_
  intro p e s m args below meth c hsz X hr hnam hA hK hT H locs B ls hl
  obtain ⟨hx, hb, hml, hown, hts, hlocks⟩ := id X
  have hl : lv_has ls 2 [(0, .ref (ad (4 + i0))), (1, .ref (ad (4 + i1)))] := hl
  refine lv_aload_n hx hb dX1_isAlikeTo_0 rfl (lv_at hl 0 rfl) ?_
  refine k_l (k := 0) (n := 0) hA B (u_V (rest := []) X (c_X1_allMonths l g N ad x sp dy la kn re hN i0 hi0 H.size) mw_X1_allMonths md_X1_allMonths rfl lk_X1_35 ⟨Nat.le_of_ble_eq_true rfl, Nat.le_of_ble_eq_true rfl⟩ hA hK hT B (pl_sp hN hi0) (cf_sp hi0) rfl rfl hl.1 rfl (Nat.le_of_ble_eq_true rfl) dX1_isAlikeTo_1 ⟨Nat.le_of_ble_eq_true rfl, Nat.le_of_ble_eq_true rfl⟩) (Nat.le_of_ble_eq_true rfl) (Nat.le_of_ble_eq_true rfl) (fun r ad' f' H locs hw B => ?_)
  obtain ⟨rfl, rfl, rfl⟩ := hw
  refine lv_aload_n hx hb dX1_isAlikeTo_4 rfl (lv_at hl 1 rfl) ?_
  refine k_l (k := 0) (n := 0) hA B (u_V (rest := [.long (v_X1_allMonths sp i0)]) X (c_X1_allMonths l g N ad x sp dy la kn re hN i1 hi1 H.size) mw_X1_allMonths md_X1_allMonths rfl lk_X1_35 ⟨Nat.le_of_ble_eq_true rfl, Nat.le_of_ble_eq_true rfl⟩ hA hK hT B (pl_sp hN hi1) (cf_sp hi1) rfl rfl hl.1 rfl (Nat.le_of_ble_eq_true rfl) dX1_isAlikeTo_5 ⟨Nat.le_of_ble_eq_true rfl, Nat.le_of_ble_eq_true rfl⟩) (Nat.le_of_ble_eq_true rfl) (Nat.le_of_ble_eq_true rfl) (fun r ad' f' H locs hw B => ?_)
  obtain ⟨rfl, rfl, rfl⟩ := hw
  refine W.lcmp hx hb dX1_isAlikeTo_8 ?_
  refine lv_if_ne (tgt := 27) hx hb dX1_isAlikeTo_9 (by decide) (fun c1 => ?_) (fun c1 => ?_)
  · refine lv_iconst (v := 0) hx hb dX1_isAlikeTo_27 (by decide) ?_
    have ev := (show v_X1_isAlikeTo sp i0 i1 = 0 from by unfold v_X1_isAlikeTo; rw [if_neg c1])
    exact rt_i X hr (ad, (cf g ad x sp dy la kn re)) B (PO_of B) ⟨rfl, by rw [ev], rfl⟩ rfl (Nat.le_of_ble_eq_true rfl) (Nat.le_of_ble_eq_true rfl) dX1_isAlikeTo_28
  · refine lv_aload_n hx hb dX1_isAlikeTo_12 rfl (lv_at hl 0 rfl) ?_
    refine g_get (q := (4 + i0)) (k := 2) X hK B rfl in_X1 (pl_sp hN hi0) (cf_sp hi0) (by decide) lk_X1_22 rfl rfl dX1_isAlikeTo_13 ?_
    refine lv_aload_n hx hb dX1_isAlikeTo_16 rfl (lv_at hl 1 rfl) ?_
    refine g_get (q := (4 + i1)) (k := 2) X hK B rfl in_X1 (pl_sp hN hi1) (cf_sp hi1) (by decide) lk_X1_22 rfl rfl dX1_isAlikeTo_17 ?_
    refine lv_icmp_ne (tgt := 27) hx hb dX1_isAlikeTo_20 (by decide) (fun c2 => ?_) (fun c2 => ?_)
    · refine lv_iconst (v := 0) hx hb dX1_isAlikeTo_27 (by decide) ?_
      have ev := (show v_X1_isAlikeTo sp i0 i1 = 0 from by unfold v_X1_isAlikeTo; rw [if_pos c1, if_neg c2])
      exact rt_i X hr (ad, (cf g ad x sp dy la kn re)) B (PO_of B) ⟨rfl, by rw [ev], rfl⟩ rfl (Nat.le_of_ble_eq_true rfl) (Nat.le_of_ble_eq_true rfl) dX1_isAlikeTo_28
    · refine lv_iconst (v := 1) hx hb dX1_isAlikeTo_23 (by decide) ?_
      refine lv_goto (tgt := 28) hx hb dX1_isAlikeTo_24 (by decide) ?_
      have ev := (show v_X1_isAlikeTo sp i0 i1 = 1 from by unfold v_X1_isAlikeTo; rw [if_pos c1, if_pos c2])
      exact rt_i X hr (ad, (cf g ad x sp dy la kn re)) B (PO_of B) ⟨rfl, by rw [ev], rfl⟩ rfl (Nat.le_of_ble_eq_true rfl) (Nat.le_of_ble_eq_true rfl) dX1_isAlikeTo_28
def v_X0_put (dy : Nat → TR) (j0 : Nat) (a1 : Int32) (a2 : Int32) (a3 : Int32) : (Nat → TR) := va_up dy j0 (a1, a2, a3)
theorem kp_X0_put_dy {dy : Nat → TR} {j0 : Nat} {a1 : Int32} {a2 : Int32} {a3 : Int32} {j : Nat} (h : j ≠ j0) : (v_X0_put dy j0 a1 a2 a3) j = dy j := by
  unfold v_X0_put
  exact va_up_ne _ _ h
set_option maxHeartbeats 4000000 in
set_option maxRecDepth 100000 in
theorem c_X0_put (l : Launch) (g : GG) (N : Nat) (ad : Nat → Nat) (x : Nat → va_E) (sp dy : Nat → TR) (la kn re : Int32) (hN : 23 ≤ N) (j0 : Nat) (hj0 : j0 < 5) (a1 : Int32) (a2 : Int32) (a3 : Int32) : KV l yX0_put cX0_put 4 (rm 0 0 0) g [.ref (ad (18 + j0)), .int a1, .int a2, .int a3] N ad (cf g ad x sp dy la kn re) N (fun ad' f' => ad = ad' ∧ (cf g ad x sp (v_X0_put dy j0 a1 a2 a3) la kn re) = f') := by
  intro sz
  refine mt_start (by decide) (Nat.le_of_ble_eq_true rfl) ?_
  intro p e s m args below meth c hsz X hr hnam hA hK hT H locs B ls hl
  obtain ⟨hx, hb, hml, hown, hts, hlocks⟩ := id X
  have hl : lv_has ls 4 [(0, .ref (ad (18 + j0))), (1, .int a1), (2, .int a2), (3, .int a3)] := hl
  refine lv_aload_n hx hb dX0_put_0 rfl (lv_at hl 0 rfl) ?_
  refine lv_iload_n hx hb dX0_put_1 rfl (lv_at hl 1 rfl) ?_
  refine g_put (q := (18 + j0)) (k := 0) X hK B rfl in_X0 tyX0_ok nmX0 (pl_dy hN hj0) (cf_dy hj0) (by decide) lk_X0_9 rfl rfl rfl rfl rfl (Nat.le_of_ble_eq_true rfl) dX0_put_2 (fun H locs B => ?_)
  have B : WB g (aw N ad sz) s.heap N ad (cf g ad x sp (va_up dy j0 (a1, (dy j0).2.1, (dy j0).2.2)) la kn re) H locs := by rw [← cf_up_dy hj0]; exact B
  refine lv_aload_n hx hb dX0_put_5 rfl (lv_at hl 0 rfl) ?_
  refine lv_iload_n hx hb dX0_put_6 rfl (lv_at hl 2 rfl) ?_
  refine g_put (q := (18 + j0)) (k := 1) X hK B rfl in_X0 tyX0_ok nmX0 (pl_dy hN hj0) (cf_dyU hj0) (by decide) lk_X0_15 rfl rfl rfl rfl rfl (Nat.le_of_ble_eq_true rfl) dX0_put_7 (fun H locs B => ?_)
  have B : WB g (aw N ad sz) s.heap N ad (cf g ad x sp (va_up dy j0 (a1, a2, (dy j0).2.2)) la kn re) H locs := by rw [← cf_up_dyU hj0 (a1, (dy j0).2.1, (dy j0).2.2)]; exact B
  refine lv_aload_n hx hb dX0_put_10 rfl (lv_at hl 0 rfl) ?_
  refine lv_iload_n hx hb dX0_put_11 rfl (lv_at hl 3 rfl) ?_
  refine g_put (q := (18 + j0)) (k := 2) X hK B rfl in_X0 tyX0_ok nmX0 (pl_dy hN hj0) (cf_dyU hj0) (by decide) lk_X0_18 rfl rfl rfl rfl rfl (Nat.le_of_ble_eq_true rfl) dX0_put_12 (fun H locs B => ?_)
  have B : WB g (aw N ad sz) s.heap N ad (cf g ad x sp (va_up dy j0 (a1, a2, a3)) la kn re) H locs := by rw [← cf_up_dyU hj0 (a1, a2, (dy j0).2.2)]; exact B
  have ev := (show v_X0_put dy j0 a1 a2 a3 = va_up dy j0 (a1, a2, a3) from rfl)
  exact rt_v X hr (ad, (cf g ad x sp (va_up dy j0 (a1, a2, a3)) la kn re)) B (PO_of B) ⟨rfl, by rw [ev]⟩ (Nat.le_of_ble_eq_true rfl) (Nat.le_of_ble_eq_true rfl) dX0_put_15
def v_X0_putDay (dy : Nat → TR) (j0 : Nat) (j1 : Nat) : (Nat → TR) := (v_X0_put dy j0 (dy j1).1 (dy j1).2.1 (dy j1).2.2)
theorem kp_X0_putDay_dy {dy : Nat → TR} {j0 : Nat} {j1 : Nat} {j : Nat} (h : j ≠ j0) : (v_X0_putDay dy j0 j1) j = dy j := by
  unfold v_X0_putDay
  first | (dsimp only; exact kp_X0_put_dy h) | exact kp_X0_put_dy h
set_option maxHeartbeats 4000000 in
set_option maxRecDepth 100000 in
theorem c_X0_putDay (l : Launch) (g : GG) (N : Nat) (ad : Nat → Nat) (x : Nat → va_E) (sp dy : Nat → TR) (la kn re : Int32) (hN : 23 ≤ N) (j0 : Nat) (hj0 : j0 < 5) (j1 : Nat) (hj1 : j1 < 5) : KV l yX0_putDay cX0_putDay 2 (rm 1 0 0) g [.ref (ad (18 + j0)), .ref (ad (18 + j1))] N ad (cf g ad x sp dy la kn re) N (fun ad' f' => ad = ad' ∧ (cf g ad x sp (v_X0_putDay dy j0 j1) la kn re) = f') := by
  intro sz
  refine mt_start (by decide) (Nat.le_of_ble_eq_true rfl) ?_
  intro p e s m args below meth c hsz X hr hnam hA hK hT H locs B ls hl
  obtain ⟨hx, hb, hml, hown, hts, hlocks⟩ := id X
  have hl : lv_has ls 2 [(0, .ref (ad (18 + j0))), (1, .ref (ad (18 + j1)))] := hl
  refine lv_aload_n hx hb dX0_putDay_0 rfl (lv_at hl 0 rfl) ?_
  refine lv_aload_n hx hb dX0_putDay_1 rfl (lv_at hl 1 rfl) ?_
  refine g_get (q := (18 + j1)) (k := 0) X hK B rfl in_X0 (pl_dy hN hj1) (cf_dy hj1) (by decide) lk_X0_9 rfl rfl dX0_putDay_2 ?_
  refine lv_aload_n hx hb dX0_putDay_5 rfl (lv_at hl 1 rfl) ?_
  refine g_get (q := (18 + j1)) (k := 1) X hK B rfl in_X0 (pl_dy hN hj1) (cf_dy hj1) (by decide) lk_X0_15 rfl rfl dX0_putDay_6 ?_
  refine lv_aload_n hx hb dX0_putDay_9 rfl (lv_at hl 1 rfl) ?_
  refine g_get (q := (18 + j1)) (k := 2) X hK B rfl in_X0 (pl_dy hN hj1) (cf_dy hj1) (by decide) lk_X0_18 rfl rfl dX0_putDay_10 ?_
  refine k_v (k := 0) (n := 0) hA B (u_V (rest := []) X (c_X0_put l g N ad x sp dy la kn re hN j0 hj0 (dy j1).1 (dy j1).2.1 (dy j1).2.2 H.size) mw_X0_put md_X0_put rfl lk_X0_21 ⟨Nat.le_of_ble_eq_true rfl, Nat.le_of_ble_eq_true rfl⟩ hA hK hT B (pl_dy hN hj0) (cf_dy hj0) rfl rfl hl.1 rfl (Nat.le_of_ble_eq_true rfl) dX0_putDay_13 ⟨Nat.le_of_ble_eq_true rfl, Nat.le_of_ble_eq_true rfl⟩) (Nat.le_of_ble_eq_true rfl) (Nat.le_of_ble_eq_true rfl) (fun ad' f' H locs hw B => ?_)
  obtain ⟨rfl, rfl⟩ := hw
  have ev := (show v_X0_putDay dy j0 j1 = (v_X0_put dy j0 (dy j1).1 (dy j1).2.1 (dy j1).2.2) from rfl)
  exact rt_v X hr (ad, (cf g ad x sp (v_X0_put dy j0 (dy j1).1 (dy j1).2.1 (dy j1).2.2) la kn re)) B (PO_of B) ⟨rfl, by rw [ev]⟩ (Nat.le_of_ble_eq_true rfl) (Nat.le_of_ble_eq_true rfl) dX0_putDay_16
def v_X0_monthPlace (dy : Nat → TR) (j0 : Nat) : Int32 := (((dy j0).1 * 12) + (dy j0).2.1) - 1
set_option maxHeartbeats 4000000 in
set_option maxRecDepth 100000 in
theorem c_X0_monthPlace (l : Launch) (g : GG) (N : Nat) (ad : Nat → Nat) (x : Nat → va_E) (sp dy : Nat → TR) (la kn re : Int32) (hN : 23 ≤ N) (j0 : Nat) (hj0 : j0 < 5) : KI l yX0_monthPlace cX0_monthPlace 1 (some .int) (rm 0 0 0) g [.ref (ad (18 + j0))] N ad (cf g ad x sp dy la kn re) N (fun r ad' f' => ad = ad' ∧ (v_X0_monthPlace dy j0) = r ∧ (cf g ad x sp dy la kn re) = f') := by
  intro sz
  refine mt_start (by decide) (Nat.le_of_ble_eq_true rfl) ?_
  intro p e s m args below meth c hsz X hr hnam hA hK hT H locs B ls hl
  obtain ⟨hx, hb, hml, hown, hts, hlocks⟩ := id X
  have hl : lv_has ls 1 [(0, .ref (ad (18 + j0)))] := hl
  refine lv_aload_n hx hb dX0_monthPlace_0 rfl (lv_at hl 0 rfl) ?_
  refine g_get (q := (18 + j0)) (k := 0) X hK B rfl in_X0 (pl_dy hN hj0) (cf_dy hj0) (by decide) lk_X0_9 rfl rfl dX0_monthPlace_1 ?_
  refine lv_bipush (v := 12) hx hb dX0_monthPlace_4 (by decide) ?_
  refine lv_imul hx hb dX0_monthPlace_6 ?_
  refine lv_aload_n hx hb dX0_monthPlace_7 rfl (lv_at hl 0 rfl) ?_
  refine g_get (q := (18 + j0)) (k := 1) X hK B rfl in_X0 (pl_dy hN hj0) (cf_dy hj0) (by decide) lk_X0_15 rfl rfl dX0_monthPlace_8 ?_
  refine lv_iadd hx hb dX0_monthPlace_11 ?_
  refine lv_iconst (v := 1) hx hb dX0_monthPlace_12 (by decide) ?_
  refine lv_isub hx hb dX0_monthPlace_13 ?_
  have ev := (show v_X0_monthPlace dy j0 = (((dy j0).1 * 12) + (dy j0).2.1) - 1 from rfl)
  exact rt_i X hr (ad, (cf g ad x sp dy la kn re)) B (PO_of B) ⟨rfl, by rw [ev], rfl⟩ rfl (Nat.le_of_ble_eq_true rfl) (Nat.le_of_ble_eq_true rfl) dX0_monthPlace_14
def v_X2_howMany (a0 : Int32) (a1 : Int32) : Int64 := if a1 = 0 then a0.toInt64 else (a0.toInt64 * 4000000000)
set_option maxHeartbeats 4000000 in
set_option maxRecDepth 100000 in
theorem c_X2_howMany (l : Launch) (g : GG) (N : Nat) (ad : Nat → Nat) (x : Nat → va_E) (sp dy : Nat → TR) (la kn re : Int32) (hN : 23 ≤ N) (a0 : Int32) (a1 : Int32) : KL l yX2_howMany cX2_howMany 2 (rm 0 0 0) g [.int a0, .int a1] N ad (cf g ad x sp dy la kn re) N (fun r ad' f' => ad = ad' ∧ (v_X2_howMany a0 a1) = r ∧ (cf g ad x sp dy la kn re) = f') := by
  intro sz
  refine mt_start (by decide) (Nat.le_of_ble_eq_true rfl) ?_
  intro p e s m args below meth c hsz X hr hnam hA hK hT H locs B ls hl
  obtain ⟨hx, hb, hml, hown, hts, hlocks⟩ := id X
  have hl : lv_has ls 2 [(0, .int a0), (1, .int a1)] := hl
  refine lv_iload_n hx hb dX2_howMany_0 rfl (lv_at hl 1 rfl) ?_
  refine lv_if_eq (tgt := 13) hx hb dX2_howMany_1 (by decide) (fun c1 => ?_) (fun c1 => ?_)
  · refine lv_iload_n hx hb dX2_howMany_13 rfl (lv_at hl 0 rfl) ?_
    refine lv_i2l (v := a0.toInt64) hx hb dX2_howMany_14 rfl ?_
    have ev := (show v_X2_howMany a0 a1 = a0.toInt64 from by unfold v_X2_howMany; rw [if_pos c1])
    exact rt_l X hr (ad, (cf g ad x sp dy la kn re)) B (PO_of B) ⟨rfl, by rw [ev], rfl⟩ (Nat.le_of_ble_eq_true rfl) (Nat.le_of_ble_eq_true rfl) dX2_howMany_15
  · refine lv_iload_n hx hb dX2_howMany_4 rfl (lv_at hl 0 rfl) ?_
    refine lv_i2l (v := a0.toInt64) hx hb dX2_howMany_5 rfl ?_
    refine lv_ldc2 hx hb hown (hts _ (List.mem_cons_of_mem _ lk_X2_258)) dX2_howMany_6 ?_
    refine lv_lmul hx hb dX2_howMany_9 ?_
    refine lv_goto (tgt := 15) hx hb dX2_howMany_10 (by decide) ?_
    have ev := (show v_X2_howMany a0 a1 = a0.toInt64 * 4000000000 from by unfold v_X2_howMany; rw [if_neg c1])
    exact rt_l X hr (ad, (cf g ad x sp dy la kn re)) B (PO_of B) ⟨rfl, by rw [ev], rfl⟩ (Nat.le_of_ble_eq_true rfl) (Nat.le_of_ble_eq_true rfl) dX2_howMany_15
def v_X2_daysOfMonth (a0 : Int32) (a1 : Int32) : Int32 := if a1 = 2 then (if (a0 - a0 / 4 * 4) = 0 then (if (a0 - a0 / 100 * 100) = 0 then (if (a0 - a0 / 400 * 400) = 0 then 29 else 28) else 29) else 28) else (if a1 = 4 then 30 else (if a1 = 6 then 30 else (if a1 = 9 then 30 else (if a1 = 11 then 30 else 31))))
set_option maxHeartbeats 4000000 in
set_option maxRecDepth 100000 in
theorem c_X2_daysOfMonth (l : Launch) (g : GG) (N : Nat) (ad : Nat → Nat) (x : Nat → va_E) (sp dy : Nat → TR) (la kn re : Int32) (hN : 23 ≤ N) (a0 : Int32) (a1 : Int32) : KI l yX2_daysOfMonth cX2_daysOfMonth 3 (some .int) (rm 0 0 0) g [.int a0, .int a1] N ad (cf g ad x sp dy la kn re) N (fun r ad' f' => ad = ad' ∧ (v_X2_daysOfMonth a0 a1) = r ∧ (cf g ad x sp dy la kn re) = f') := by
  intro sz
  refine mt_start (by decide) (Nat.le_of_ble_eq_true rfl) ?_
  intro p e s m args below meth c hsz X hr hnam hA hK hT H locs B ls hl
  obtain ⟨hx, hb, hml, hown, hts, hlocks⟩ := id X
  have hl : lv_has ls 3 [(0, .int a0), (1, .int a1)] := hl
  refine lv_iload_n hx hb dX2_daysOfMonth_0 rfl (lv_at hl 1 rfl) ?_
  refine lv_iconst (v := 2) hx hb dX2_daysOfMonth_1 (by decide) ?_
  refine lv_icmp_ne (tgt := 44) hx hb dX2_daysOfMonth_2 (by decide) (fun c1 => ?_) (fun c1 => ?_)
  · refine lv_iload_n hx hb dX2_daysOfMonth_44 rfl (lv_at hl 1 rfl) ?_
    refine lv_iconst (v := 4) hx hb dX2_daysOfMonth_45 (by decide) ?_
    refine lv_icmp_eq (tgt := 67) hx hb dX2_daysOfMonth_46 (by decide) (fun c2 => ?_) (fun c2 => ?_)
    · refine lv_bipush (v := 30) hx hb dX2_daysOfMonth_67 (by decide) ?_
      refine lv_goto (tgt := 74) hx hb dX2_daysOfMonth_69 (by decide) ?_
      have ev := (show v_X2_daysOfMonth a0 a1 = 30 from by unfold v_X2_daysOfMonth; rw [if_neg c1, if_pos c2])
      exact rt_i X hr (ad, (cf g ad x sp dy la kn re)) B (PO_of B) ⟨rfl, by rw [ev], rfl⟩ rfl (Nat.le_of_ble_eq_true rfl) (Nat.le_of_ble_eq_true rfl) dX2_daysOfMonth_74
    · refine lv_iload_n hx hb dX2_daysOfMonth_49 rfl (lv_at hl 1 rfl) ?_
      refine lv_bipush (v := 6) hx hb dX2_daysOfMonth_50 (by decide) ?_
      refine lv_icmp_eq (tgt := 67) hx hb dX2_daysOfMonth_52 (by decide) (fun c3 => ?_) (fun c3 => ?_)
      · refine lv_bipush (v := 30) hx hb dX2_daysOfMonth_67 (by decide) ?_
        refine lv_goto (tgt := 74) hx hb dX2_daysOfMonth_69 (by decide) ?_
        have ev := (show v_X2_daysOfMonth a0 a1 = 30 from by unfold v_X2_daysOfMonth; rw [if_neg c1, if_neg c2, if_pos c3])
        exact rt_i X hr (ad, (cf g ad x sp dy la kn re)) B (PO_of B) ⟨rfl, by rw [ev], rfl⟩ rfl (Nat.le_of_ble_eq_true rfl) (Nat.le_of_ble_eq_true rfl) dX2_daysOfMonth_74
      · refine lv_iload_n hx hb dX2_daysOfMonth_55 rfl (lv_at hl 1 rfl) ?_
        refine lv_bipush (v := 9) hx hb dX2_daysOfMonth_56 (by decide) ?_
        refine lv_icmp_eq (tgt := 67) hx hb dX2_daysOfMonth_58 (by decide) (fun c4 => ?_) (fun c4 => ?_)
        · refine lv_bipush (v := 30) hx hb dX2_daysOfMonth_67 (by decide) ?_
          refine lv_goto (tgt := 74) hx hb dX2_daysOfMonth_69 (by decide) ?_
          have ev := (show v_X2_daysOfMonth a0 a1 = 30 from by unfold v_X2_daysOfMonth; rw [if_neg c1, if_neg c2, if_neg c3, if_pos c4])
          exact rt_i X hr (ad, (cf g ad x sp dy la kn re)) B (PO_of B) ⟨rfl, by rw [ev], rfl⟩ rfl (Nat.le_of_ble_eq_true rfl) (Nat.le_of_ble_eq_true rfl) dX2_daysOfMonth_74
        · refine lv_iload_n hx hb dX2_daysOfMonth_61 rfl (lv_at hl 1 rfl) ?_
          refine lv_bipush (v := 11) hx hb dX2_daysOfMonth_62 (by decide) ?_
          refine lv_icmp_ne (tgt := 72) hx hb dX2_daysOfMonth_64 (by decide) (fun c5 => ?_) (fun c5 => ?_)
          · refine lv_bipush (v := 31) hx hb dX2_daysOfMonth_72 (by decide) ?_
            have ev := (show v_X2_daysOfMonth a0 a1 = 31 from by unfold v_X2_daysOfMonth; rw [if_neg c1, if_neg c2, if_neg c3, if_neg c4, if_neg c5])
            exact rt_i X hr (ad, (cf g ad x sp dy la kn re)) B (PO_of B) ⟨rfl, by rw [ev], rfl⟩ rfl (Nat.le_of_ble_eq_true rfl) (Nat.le_of_ble_eq_true rfl) dX2_daysOfMonth_74
          · refine lv_bipush (v := 30) hx hb dX2_daysOfMonth_67 (by decide) ?_
            refine lv_goto (tgt := 74) hx hb dX2_daysOfMonth_69 (by decide) ?_
            have ev := (show v_X2_daysOfMonth a0 a1 = 30 from by unfold v_X2_daysOfMonth; rw [if_neg c1, if_neg c2, if_neg c3, if_neg c4, if_pos c5])
            exact rt_i X hr (ad, (cf g ad x sp dy la kn re)) B (PO_of B) ⟨rfl, by rw [ev], rfl⟩ rfl (Nat.le_of_ble_eq_true rfl) (Nat.le_of_ble_eq_true rfl) dX2_daysOfMonth_74
  · refine lv_iload_n hx hb dX2_daysOfMonth_5 rfl (lv_at hl 0 rfl) ?_
    refine lv_iconst (v := 4) hx hb dX2_daysOfMonth_6 (by decide) ?_
    refine lv_irem hx hb dX2_daysOfMonth_7 (by decide) ?_
    refine lv_if_ne (tgt := 30) hx hb dX2_daysOfMonth_8 (by decide) (fun c6 => ?_) (fun c6 => ?_)
    · refine lv_iconst (v := 0) hx hb dX2_daysOfMonth_30 (by decide) ?_
      refine lv_istore_n (lv' := [(2, .int 0), (0, .int a0), (1, .int a1)]) hx hb dX2_daysOfMonth_31 rfl hl (by decide) rfl (fun ls hl => ?_)
      refine lv_iload_n hx hb dX2_daysOfMonth_32 rfl (lv_at hl 0 rfl) ?_
      refine lv_if_eq (tgt := 41) hx hb dX2_daysOfMonth_33 (by decide) (fun _ => ?_) (fun z => absurd z (by decide))
      refine lv_bipush (v := 28) hx hb dX2_daysOfMonth_41 (by decide) ?_
      have ev := (show v_X2_daysOfMonth a0 a1 = 28 from by unfold v_X2_daysOfMonth; rw [if_pos c1, if_neg c6])
      exact rt_i X hr (ad, (cf g ad x sp dy la kn re)) B (PO_of B) ⟨rfl, by rw [ev], rfl⟩ rfl (Nat.le_of_ble_eq_true rfl) (Nat.le_of_ble_eq_true rfl) dX2_daysOfMonth_43
    · refine lv_iload_n hx hb dX2_daysOfMonth_11 rfl (lv_at hl 0 rfl) ?_
      refine lv_bipush (v := 100) hx hb dX2_daysOfMonth_12 (by decide) ?_
      refine lv_irem hx hb dX2_daysOfMonth_14 (by decide) ?_
      refine lv_if_ne (tgt := 26) hx hb dX2_daysOfMonth_15 (by decide) (fun c7 => ?_) (fun c7 => ?_)
      · refine lv_iconst (v := 1) hx hb dX2_daysOfMonth_26 (by decide) ?_
        refine lv_goto (tgt := 31) hx hb dX2_daysOfMonth_27 (by decide) ?_
        refine lv_istore_n (lv' := [(2, .int 1), (0, .int a0), (1, .int a1)]) hx hb dX2_daysOfMonth_31 rfl hl (by decide) rfl (fun ls hl => ?_)
        refine lv_iload_n hx hb dX2_daysOfMonth_32 rfl (lv_at hl 0 rfl) ?_
        refine lv_if_eq (tgt := 41) hx hb dX2_daysOfMonth_33 (by decide) (fun z => absurd z (by decide)) (fun _ => ?_)
        refine lv_bipush (v := 29) hx hb dX2_daysOfMonth_36 (by decide) ?_
        refine lv_goto (tgt := 43) hx hb dX2_daysOfMonth_38 (by decide) ?_
        have ev := (show v_X2_daysOfMonth a0 a1 = 29 from by unfold v_X2_daysOfMonth; rw [if_pos c1, if_pos c6, if_neg c7])
        exact rt_i X hr (ad, (cf g ad x sp dy la kn re)) B (PO_of B) ⟨rfl, by rw [ev], rfl⟩ rfl (Nat.le_of_ble_eq_true rfl) (Nat.le_of_ble_eq_true rfl) dX2_daysOfMonth_43
      · refine lv_iload_n hx hb dX2_daysOfMonth_18 rfl (lv_at hl 0 rfl) ?_
        refine lv_sipush (v := 400) hx hb dX2_daysOfMonth_19 (by decide) ?_
        refine lv_irem hx hb dX2_daysOfMonth_22 (by decide) ?_
        refine lv_if_ne (tgt := 30) hx hb dX2_daysOfMonth_23 (by decide) (fun c8 => ?_) (fun c8 => ?_)
        · refine lv_iconst (v := 0) hx hb dX2_daysOfMonth_30 (by decide) ?_
          refine lv_istore_n (lv' := [(2, .int 0), (0, .int a0), (1, .int a1)]) hx hb dX2_daysOfMonth_31 rfl hl (by decide) rfl (fun ls hl => ?_)
          refine lv_iload_n hx hb dX2_daysOfMonth_32 rfl (lv_at hl 0 rfl) ?_
          refine lv_if_eq (tgt := 41) hx hb dX2_daysOfMonth_33 (by decide) (fun _ => ?_) (fun z => absurd z (by decide))
          refine lv_bipush (v := 28) hx hb dX2_daysOfMonth_41 (by decide) ?_
          have ev := (show v_X2_daysOfMonth a0 a1 = 28 from by unfold v_X2_daysOfMonth; rw [if_pos c1, if_pos c6, if_pos c7, if_neg c8])
          exact rt_i X hr (ad, (cf g ad x sp dy la kn re)) B (PO_of B) ⟨rfl, by rw [ev], rfl⟩ rfl (Nat.le_of_ble_eq_true rfl) (Nat.le_of_ble_eq_true rfl) dX2_daysOfMonth_43
        · refine lv_iconst (v := 1) hx hb dX2_daysOfMonth_26 (by decide) ?_
          refine lv_goto (tgt := 31) hx hb dX2_daysOfMonth_27 (by decide) ?_
          refine lv_istore_n (lv' := [(2, .int 1), (0, .int a0), (1, .int a1)]) hx hb dX2_daysOfMonth_31 rfl hl (by decide) rfl (fun ls hl => ?_)
          refine lv_iload_n hx hb dX2_daysOfMonth_32 rfl (lv_at hl 0 rfl) ?_
          refine lv_if_eq (tgt := 41) hx hb dX2_daysOfMonth_33 (by decide) (fun z => absurd z (by decide)) (fun _ => ?_)
          refine lv_bipush (v := 29) hx hb dX2_daysOfMonth_36 (by decide) ?_
          refine lv_goto (tgt := 43) hx hb dX2_daysOfMonth_38 (by decide) ?_
          have ev := (show v_X2_daysOfMonth a0 a1 = 29 from by unfold v_X2_daysOfMonth; rw [if_pos c1, if_pos c6, if_pos c7, if_pos c8])
          exact rt_i X hr (ad, (cf g ad x sp dy la kn re)) B (PO_of B) ⟨rfl, by rw [ev], rfl⟩ rfl (Nat.le_of_ble_eq_true rfl) (Nat.le_of_ble_eq_true rfl) dX2_daysOfMonth_43
def v_X2_daysToYear (a0 : Int32) : Int32 := ((((a0 - 1600) * 365) + (((a0 - 1600) + 3) / 4)) - (((a0 - 1600) + 99) / 100)) + (((a0 - 1600) + 399) / 400)
set_option maxHeartbeats 4000000 in
set_option maxRecDepth 100000 in
theorem c_X2_daysToYear (l : Launch) (g : GG) (N : Nat) (ad : Nat → Nat) (x : Nat → va_E) (sp dy : Nat → TR) (la kn re : Int32) (hN : 23 ≤ N) (a0 : Int32) : KI l yX2_daysToYear cX2_daysToYear 2 (some .int) (rm 0 0 0) g [.int a0] N ad (cf g ad x sp dy la kn re) N (fun r ad' f' => ad = ad' ∧ (v_X2_daysToYear a0) = r ∧ (cf g ad x sp dy la kn re) = f') := by
  intro sz
  refine mt_start (by decide) (Nat.le_of_ble_eq_true rfl) ?_
  intro p e s m args below meth c hsz X hr hnam hA hK hT H locs B ls hl
  obtain ⟨hx, hb, hml, hown, hts, hlocks⟩ := id X
  have hl : lv_has ls 2 [(0, .int a0)] := hl
  refine lv_iload_n hx hb dX2_daysToYear_0 rfl (lv_at hl 0 rfl) ?_
  refine lv_sipush (v := 1600) hx hb dX2_daysToYear_1 (by decide) ?_
  refine lv_isub hx hb dX2_daysToYear_4 ?_
  refine lv_istore_n (lv' := [(1, .int (a0 - 1600)), (0, .int a0)]) hx hb dX2_daysToYear_5 rfl hl (by decide) rfl (fun ls hl => ?_)
  refine lv_iload_n hx hb dX2_daysToYear_6 rfl (lv_at hl 0 rfl) ?_
  refine lv_sipush (v := 365) hx hb dX2_daysToYear_7 (by decide) ?_
  refine lv_imul hx hb dX2_daysToYear_10 ?_
  refine lv_iload_n hx hb dX2_daysToYear_11 rfl (lv_at hl 0 rfl) ?_
  refine lv_iconst (v := 3) hx hb dX2_daysToYear_12 (by decide) ?_
  refine lv_iadd hx hb dX2_daysToYear_13 ?_
  refine lv_iconst (v := 4) hx hb dX2_daysToYear_14 (by decide) ?_
  refine lv_idiv hx hb dX2_daysToYear_15 (by decide) ?_
  refine lv_iadd hx hb dX2_daysToYear_16 ?_
  refine lv_iload_n hx hb dX2_daysToYear_17 rfl (lv_at hl 0 rfl) ?_
  refine lv_bipush (v := 99) hx hb dX2_daysToYear_18 (by decide) ?_
  refine lv_iadd hx hb dX2_daysToYear_20 ?_
  refine lv_bipush (v := 100) hx hb dX2_daysToYear_21 (by decide) ?_
  refine lv_idiv hx hb dX2_daysToYear_23 (by decide) ?_
  refine lv_isub hx hb dX2_daysToYear_24 ?_
  refine lv_iload_n hx hb dX2_daysToYear_25 rfl (lv_at hl 0 rfl) ?_
  refine lv_sipush (v := 399) hx hb dX2_daysToYear_26 (by decide) ?_
  refine lv_iadd hx hb dX2_daysToYear_29 ?_
  refine lv_sipush (v := 400) hx hb dX2_daysToYear_30 (by decide) ?_
  refine lv_idiv hx hb dX2_daysToYear_33 (by decide) ?_
  refine lv_iadd hx hb dX2_daysToYear_34 ?_
  have ev := (show v_X2_daysToYear a0 = ((((a0 - 1600) * 365) + (((a0 - 1600) + 3) / 4)) - (((a0 - 1600) + 99) / 100)) + (((a0 - 1600) + 399) / 400) from rfl)
  exact rt_i X hr (ad, (cf g ad x sp dy la kn re)) B (PO_of B) ⟨rfl, by rw [ev], rfl⟩ rfl (Nat.le_of_ble_eq_true rfl) (Nat.le_of_ble_eq_true rfl) dX2_daysToYear_35
def v_X2_dayKept (a0 : Int32) (a1 : Int32) (a2 : Int32) : Int32 := if (v_X2_daysOfMonth a0 a1) < a2 then (v_X2_daysOfMonth a0 a1) else a2
set_option maxHeartbeats 4000000 in
set_option maxRecDepth 100000 in
theorem c_X2_dayKept (l : Launch) (g : GG) (N : Nat) (ad : Nat → Nat) (x : Nat → va_E) (sp dy : Nat → TR) (la kn re : Int32) (hN : 23 ≤ N) (a0 : Int32) (a1 : Int32) (a2 : Int32) : KI l yX2_dayKept cX2_dayKept 3 (some .int) (rm 1 0 0) g [.int a0, .int a1, .int a2] N ad (cf g ad x sp dy la kn re) N (fun r ad' f' => ad = ad' ∧ (v_X2_dayKept a0 a1 a2) = r ∧ (cf g ad x sp dy la kn re) = f') := by
  intro sz
  refine mt_start (by decide) (Nat.le_of_ble_eq_true rfl) ?_
  intro p e s m args below meth c hsz X hr hnam hA hK hT H locs B ls hl
  obtain ⟨hx, hb, hml, hown, hts, hlocks⟩ := id X
  have hl : lv_has ls 3 [(0, .int a0), (1, .int a1), (2, .int a2)] := hl
  refine lv_iload_n hx hb dX2_dayKept_0 rfl (lv_at hl 2 rfl) ?_
  refine lv_iload_n hx hb dX2_dayKept_1 rfl (lv_at hl 0 rfl) ?_
  refine lv_iload_n hx hb dX2_dayKept_2 rfl (lv_at hl 1 rfl) ?_
  refine k_i (k := 0) (n := 0) hA B (u_S (rest := [.int a2]) X (c_X2_daysOfMonth l g N ad x sp dy la kn re hN a0 a1 H.size) mw_X2_daysOfMonth md_X2_daysOfMonth rfl lk_X2_282 ⟨Nat.le_of_ble_eq_true rfl, Nat.le_of_ble_eq_true rfl⟩ hA hK hT B hl.1 rfl (Nat.le_of_ble_eq_true rfl) dX2_dayKept_3 ⟨Nat.le_of_ble_eq_true rfl, Nat.le_of_ble_eq_true rfl⟩) (Nat.le_of_ble_eq_true rfl) (Nat.le_of_ble_eq_true rfl) (fun r ad' f' H locs hw B => ?_)
  obtain ⟨rfl, rfl, rfl⟩ := hw
  refine va_mmin hx hb (by rw [hml]; exact hl.1.symm) hown (hts _ (List.mem_cons_of_mem _ lk_X2_290)) (hts _ (List.mem_cons_of_mem _ mw_min.2.1)) (hts _ (List.mem_cons_of_mem _ mw_min.2.2)) (hts _ (List.mem_cons_of_mem _ mw_min.1)) (by decide) (by simp) (Nat.zero_le _) (Nat.zero_le _) dX2_dayKept_6 ?_
  have ev := (show v_X2_dayKept a0 a1 a2 = if (v_X2_daysOfMonth a0 a1) < a2 then (v_X2_daysOfMonth a0 a1) else a2 from rfl)
  exact rt_i X hr (ad, (cf g ad x sp dy la kn re)) B (PO_of B) ⟨rfl, by rw [ev], rfl⟩ rfl (Nat.le_of_ble_eq_true rfl) (Nat.le_of_ble_eq_true rfl) dX2_dayKept_9
end
section
def wX2_numberOf_12 (a0 : Int32) (a1 : Int32) (a2 : Int32) : Nat → Int32 → Int32 → Int32
  | 0, mm, ds => 0
  | n + 1, mm, ds => if a1 ≤ mm then ((ds + a2) - 1) else (wX2_numberOf_12 a0 a1 a2 n (mm + 1) (ds + (v_X2_daysOfMonth a0 mm)))
def v_X2_numberOf (a0 : Int32) (a1 : Int32) (a2 : Int32) : Int32 := wX2_numberOf_12 a0 a1 a2 ((a1.toInt - (1 : Int32).toInt).toNat + 1) 1 ((v_X2_daysToYear a0) - 135140)
set_option maxHeartbeats 4000000 in
set_option maxRecDepth 100000 in
theorem c_X2_numberOf (l : Launch) (g : GG) (N : Nat) (ad : Nat → Nat) (x : Nat → va_E) (sp dy : Nat → TR) (la kn re : Int32) (hN : 23 ≤ N) (a0 : Int32) (a1 : Int32) (a2 : Int32) : KI l yX2_numberOf cX2_numberOf 5 (some .int) (rm 1 0 0) g [.int a0, .int a1, .int a2] N ad (cf g ad x sp dy la kn re) N (fun r ad' f' => ad = ad' ∧ (v_X2_numberOf a0 a1 a2) = r ∧ (cf g ad x sp dy la kn re) = f') := by
  intro sz
  refine mt_start (by decide) (Nat.le_of_ble_eq_true rfl) ?_
  intro p e s m args below meth c hsz X hr hnam hA hK hT H locs B ls hl
  obtain ⟨hx, hb, hml, hown, hts, hlocks⟩ := id X
  have hl : lv_has ls 5 [(0, .int a0), (1, .int a1), (2, .int a2)] := hl
  refine lv_iload_n hx hb dX2_numberOf_0 rfl (lv_at hl 0 rfl) ?_
  refine k_i (k := 0) (n := 0) hA B (u_S (rest := []) X (c_X2_daysToYear l g N ad x sp dy la kn re hN a0 H.size) mw_X2_daysToYear md_X2_daysToYear rfl lk_X2_286 ⟨Nat.le_of_ble_eq_true rfl, Nat.le_of_ble_eq_true rfl⟩ hA hK hT B hl.1 rfl (Nat.le_of_ble_eq_true rfl) dX2_numberOf_1 ⟨Nat.le_of_ble_eq_true rfl, Nat.le_of_ble_eq_true rfl⟩) (Nat.le_of_ble_eq_true rfl) (Nat.le_of_ble_eq_true rfl) (fun r ad' f' H locs hw B => ?_)
  obtain ⟨rfl, rfl, rfl⟩ := hw
  refine lv_ldcw hx hb hown (hts _ (List.mem_cons_of_mem _ lk_X2_289)) dX2_numberOf_4 ?_
  refine lv_isub hx hb dX2_numberOf_7 ?_
  refine lv_istore_n (lv' := [(3, .int ((v_X2_daysToYear a0) - 135140)), (0, .int a0), (1, .int a1), (2, .int a2)]) hx hb dX2_numberOf_8 rfl hl (by decide) rfl (fun ls hl => ?_)
  refine lv_iconst (v := 1) hx hb dX2_numberOf_9 (by decide) ?_
  refine lv_istore (lv' := [(4, .int 1), (3, .int ((v_X2_daysToYear a0) - 135140)), (0, .int a0), (1, .int a1), (2, .int a2)]) hx hb dX2_numberOf_10 hl (by decide) rfl (fun ls hl => ?_)
  have loop1 : ∀ (n1 : Nat) (mm : Int32) (ds : Int32) (H : Heap) (locs : List Loc), (a1.toInt - mm.toInt).toNat < n1 → v_X2_numberOf a0 a1 a2 = wX2_numberOf_12 a0 a1 a2 n1 mm ds → WB g (aw N ad sz) s.heap N ad (cf g ad x sp dy la kn re) H locs → ∀ ls : Array Slot, lv_has ls 5 [(4, .int mm), (3, .int ds), (0, .int a0), (1, .int a1), (2, .int a2)] → W p l e (rm 1 0 0) s m args below meth c H locs 0 0 (MQ below (va_Qi (fun r (u : WS) => (fun r ad' f' => ad = ad' ∧ (v_X2_numberOf a0 a1 a2) = r ∧ (cf g ad x sp dy la kn re) = f') r u.1 u.2) (fun u t => PO g N u.1 u.2 (aw N ad sz) t) (aw N ad sz)) args s (rm 1 0 0).cells (rm 1 0 0).slots (aw N ad sz)) (F0 m 12 ls []) := by
    intro n1
    induction n1 with
    | zero => intro mm ds H locs hn; exact absurd hn (Nat.not_lt_zero _)
    | succ n1 ih1 =>
      intro mm ds H locs hn1 he1 B ls hl
      refine lv_iload hx hb dX2_numberOf_12 (lv_at hl 0 rfl) ?_
      refine lv_iload_n hx hb dX2_numberOf_14 rfl (lv_at hl 3 rfl) ?_
      refine lv_icmp_ge (tgt := 33) hx hb dX2_numberOf_15 (by decide) (fun c2 => ?_) (fun c2 => ?_)
      · refine lv_iload_n hx hb dX2_numberOf_33 rfl (lv_at hl 1 rfl) ?_
        refine lv_iload_n hx hb dX2_numberOf_34 rfl (lv_at hl 4 rfl) ?_
        refine lv_iadd hx hb dX2_numberOf_35 ?_
        refine lv_iconst (v := 1) hx hb dX2_numberOf_36 (by decide) ?_
        refine lv_isub hx hb dX2_numberOf_37 ?_
        have ev := (show v_X2_numberOf a0 a1 a2 = (ds + a2) - 1 from he1.trans (by rw [wX2_numberOf_12, if_pos c2]))
        exact rt_i X hr (ad, (cf g ad x sp dy la kn re)) B (PO_of B) ⟨rfl, by rw [ev], rfl⟩ rfl (Nat.le_of_ble_eq_true rfl) (Nat.le_of_ble_eq_true rfl) dX2_numberOf_38
      · refine lv_iload_n hx hb dX2_numberOf_18 rfl (lv_at hl 1 rfl) ?_
        refine lv_iload_n hx hb dX2_numberOf_19 rfl (lv_at hl 2 rfl) ?_
        refine lv_iload hx hb dX2_numberOf_20 (lv_at hl 0 rfl) ?_
        refine k_i (k := 0) (n := 0) hA B (u_S (rest := [.int ds]) X (c_X2_daysOfMonth l g N ad x sp dy la kn re hN a0 mm H.size) mw_X2_daysOfMonth md_X2_daysOfMonth rfl lk_X2_282 ⟨Nat.le_of_ble_eq_true rfl, Nat.le_of_ble_eq_true rfl⟩ hA hK hT B hl.1 rfl (Nat.le_of_ble_eq_true rfl) dX2_numberOf_22 ⟨Nat.le_of_ble_eq_true rfl, Nat.le_of_ble_eq_true rfl⟩) (Nat.le_of_ble_eq_true rfl) (Nat.le_of_ble_eq_true rfl) (fun r ad' f' H locs hw B => ?_)
        obtain ⟨rfl, rfl, rfl⟩ := hw
        refine lv_iadd hx hb dX2_numberOf_25 ?_
        refine lv_istore_n (lv' := [(3, .int (ds + (v_X2_daysOfMonth a0 mm))), (4, .int mm), (0, .int a0), (1, .int a1), (2, .int a2)]) hx hb dX2_numberOf_26 rfl hl (by decide) rfl (fun ls hl => ?_)
        refine lv_iinc (v := mm + 1) (lv' := [(4, .int (mm + 1)), (3, .int (ds + (v_X2_daysOfMonth a0 mm))), (0, .int a0), (1, .int a1), (2, .int a2)]) hx hb dX2_numberOf_27 hl (k := 1) rfl rfl (by decide) rfl (fun ls hl => ?_)
        refine lv_goto (tgt := 12) hx hb dX2_numberOf_30 (by decide) ?_
        exact ih1 (mm + 1) (ds + (v_X2_daysOfMonth a0 mm)) H locs (fu_le c2 hn1) (show v_X2_numberOf a0 a1 a2 = wX2_numberOf_12 a0 a1 a2 n1 (mm + 1) (ds + (v_X2_daysOfMonth a0 mm)) from he1.trans (by rw [wX2_numberOf_12, if_neg c2])) B ls (lv_sub hl [0, 1, 2, 3, 4] rfl)
  exact loop1 ((a1.toInt - (1 : Int32).toInt).toNat + 1) 1 ((v_X2_daysToYear a0) - 135140) H locs (Nat.lt_succ_self _) (show v_X2_numberOf a0 a1 a2 = wX2_numberOf_12 a0 a1 a2 ((a1.toInt - (1 : Int32).toInt).toNat + 1) 1 ((v_X2_daysToYear a0) - 135140) from rfl) B ls hl
def wX0_putDayNumber_48 (dy : Nat → TR) (j0 : Nat) (fo : Int32) : Nat → Int32 → Int32 → (Nat → TR)
  | 0, fm, rs => dy
  | n + 1, fm, rs => if 12 ≤ fm then (v_X0_put dy j0 fo fm (rs + 1)) else (if rs < (v_X2_daysOfMonth fo fm) then (v_X0_put dy j0 fo fm (rs + 1)) else (wX0_putDayNumber_48 dy j0 fo n (fm + 1) (rs - (v_X2_daysOfMonth fo fm))))
def wX0_putDayNumber_15 (dy : Nat → TR) (j0 : Nat) (a1 : Int32) : Nat → Int32 → (Nat → TR)
  | 0, fo => dy
  | n + 1, fo => if 2400 ≤ fo then (wX0_putDayNumber_48 dy j0 fo (((12 : Int32).toInt - (1 : Int32).toInt).toNat + 1) 1 ((a1 + 135140) - (v_X2_daysToYear fo))) else (if (a1 + 135140) < (v_X2_daysToYear (fo + 1)) then (wX0_putDayNumber_48 dy j0 fo (((12 : Int32).toInt - (1 : Int32).toInt).toNat + 1) 1 ((a1 + 135140) - (v_X2_daysToYear fo))) else (wX0_putDayNumber_15 dy j0 a1 n (fo + 1)))
def v_X0_putDayNumber (dy : Nat → TR) (j0 : Nat) (a1 : Int32) : (Nat → TR) := wX0_putDayNumber_15 dy j0 a1 (((2400 : Int32).toInt - (1600 + ((a1 + 135140) / 366)).toInt).toNat + 1) (1600 + ((a1 + 135140) / 366))
theorem kpw_wX0_putDayNumber_48_dy {dy : Nat → TR} {j0 : Nat} {fo : Int32} {j : Nat} (h : j ≠ j0) : ∀ (n : Nat) (fm : Int32) (rs : Int32), (wX0_putDayNumber_48 dy j0 fo n fm rs) j = dy j := by
  intro n
  induction n with
  | zero => intros; rfl
  | succ n ih =>
    intro fm rs
    rw [wX0_putDayNumber_48]
    by_cases q1 : 12 ≤ fm
    · rw [if_pos q1]
      first | (dsimp only; exact kp_X0_put_dy h) | exact kp_X0_put_dy h
    · rw [if_neg q1]
      by_cases q2 : rs < (v_X2_daysOfMonth fo fm)
      · rw [if_pos q2]
        first | (dsimp only; exact kp_X0_put_dy h) | exact kp_X0_put_dy h
      · rw [if_neg q2]
        exact ih _ _
theorem kpw_wX0_putDayNumber_15_dy {dy : Nat → TR} {j0 : Nat} {a1 : Int32} {j : Nat} (h : j ≠ j0) : ∀ (n : Nat) (fo : Int32), (wX0_putDayNumber_15 dy j0 a1 n fo) j = dy j := by
  intro n
  induction n with
  | zero => intros; rfl
  | succ n ih =>
    intro fo
    rw [wX0_putDayNumber_15]
    by_cases q3 : 2400 ≤ fo
    · rw [if_pos q3]
      exact kpw_wX0_putDayNumber_48_dy h _ _ _
    · rw [if_neg q3]
      by_cases q4 : (a1 + 135140) < (v_X2_daysToYear (fo + 1))
      · rw [if_pos q4]
        exact kpw_wX0_putDayNumber_48_dy h _ _ _
      · rw [if_neg q4]
        exact ih _
theorem kp_X0_putDayNumber_dy {dy : Nat → TR} {j0 : Nat} {a1 : Int32} {j : Nat} (h : j ≠ j0) : (v_X0_putDayNumber dy j0 a1) j = dy j := by
  unfold v_X0_putDayNumber
  exact kpw_wX0_putDayNumber_15_dy h _ _
set_option maxHeartbeats 4000000 in
set_option maxRecDepth 100000 in
theorem c_X0_putDayNumber (l : Launch) (g : GG) (N : Nat) (ad : Nat → Nat) (x : Nat → va_E) (sp dy : Nat → TR) (la kn re : Int32) (hN : 23 ≤ N) (j0 : Nat) (hj0 : j0 < 5) (a1 : Int32) : KV l yX0_putDayNumber cX0_putDayNumber 5 (rm 1 0 0) g [.ref (ad (18 + j0)), .int a1] N ad (cf g ad x sp dy la kn re) N (fun ad' f' => ad = ad' ∧ (cf g ad x sp (v_X0_putDayNumber dy j0 a1) la kn re) = f') := by
  intro sz
  refine mt_start (by decide) (Nat.le_of_ble_eq_true rfl) ?_
  intro p e s m args below meth c hsz X hr hnam hA hK hT H locs B ls hl
  obtain ⟨hx, hb, hml, hown, hts, hlocks⟩ := id X
  have hl : lv_has ls 5 [(0, .ref (ad (18 + j0))), (1, .int a1)] := hl
  refine lv_iload_n hx hb dX0_putDayNumber_0 rfl (lv_at hl 1 rfl) ?_
  refine lv_ldc hx hb hown (hts _ (List.mem_cons_of_mem _ lk_X0_45)) dX0_putDayNumber_1 ?_
  refine lv_iadd hx hb dX0_putDayNumber_3 ?_
  refine lv_istore_n (lv' := [(2, .int (a1 + 135140)), (0, .ref (ad (18 + j0))), (1, .int a1)]) hx hb dX0_putDayNumber_4 rfl hl (by decide) rfl (fun ls hl => ?_)
  refine lv_sipush (v := 1600) hx hb dX0_putDayNumber_5 (by decide) ?_
  refine lv_iload_n hx hb dX0_putDayNumber_8 rfl (lv_at hl 0 rfl) ?_
  refine lv_sipush (v := 366) hx hb dX0_putDayNumber_9 (by decide) ?_
  refine lv_idiv hx hb dX0_putDayNumber_12 (by decide) ?_
  refine lv_iadd hx hb dX0_putDayNumber_13 ?_
  refine lv_istore_n (lv' := [(3, .int (1600 + ((a1 + 135140) / 366))), (2, .int (a1 + 135140)), (0, .ref (ad (18 + j0))), (1, .int a1)]) hx hb dX0_putDayNumber_14 rfl hl (by decide) rfl (fun ls hl => ?_)
  have loop1 : ∀ (n1 : Nat) (fo : Int32) (H : Heap) (locs : List Loc), ((2400 : Int32).toInt - fo.toInt).toNat < n1 → v_X0_putDayNumber dy j0 a1 = wX0_putDayNumber_15 dy j0 a1 n1 fo → WB g (aw N ad sz) s.heap N ad (cf g ad x sp dy la kn re) H locs → ∀ ls : Array Slot, lv_has ls 5 [(3, .int fo), (2, .int (a1 + 135140)), (0, .ref (ad (18 + j0))), (1, .int a1)] → W p l e (rm 1 0 0) s m args below meth c H locs 0 0 (MQ below (va_Qv (fun (u : WS) => (fun ad' f' => ad = ad' ∧ (cf g ad x sp (v_X0_putDayNumber dy j0 a1) la kn re) = f') u.1 u.2) (fun u t => PO g N u.1 u.2 (aw N ad sz) t) (aw N ad sz)) args s (rm 1 0 0).cells (rm 1 0 0).slots (aw N ad sz)) (F0 m 15 ls []) := by
    intro n1
    induction n1 with
    | zero => intro fo H locs hn; exact absurd hn (Nat.not_lt_zero _)
    | succ n1 ih1 =>
      intro fo H locs hn1 he1 B ls hl
      refine lv_iload_n hx hb dX0_putDayNumber_15 rfl (lv_at hl 0 rfl) ?_
      refine lv_sipush (v := 2400) hx hb dX0_putDayNumber_16 (by decide) ?_
      refine lv_icmp_ge (tgt := 38) hx hb dX0_putDayNumber_19 (by decide) (fun c2 => ?_) (fun c2 => ?_)
      · refine lv_iload_n hx hb dX0_putDayNumber_38 rfl (lv_at hl 1 rfl) ?_
        refine lv_iload_n hx hb dX0_putDayNumber_39 rfl (lv_at hl 0 rfl) ?_
        refine k_i (k := 0) (n := 0) hA B (u_SN (rest := [.int (a1 + 135140)]) X (c_X2_daysToYear l g N ad x sp dy la kn re hN fo H.size) mw_X2_daysToYear md_X2_daysToYear rfl lk_X0_46 ⟨Nat.le_of_ble_eq_true rfl, Nat.le_of_ble_eq_true rfl⟩ hA hK hT B hl.1 rfl (Nat.le_of_ble_eq_true rfl) dX0_putDayNumber_40 ⟨Nat.le_of_ble_eq_true rfl, Nat.le_of_ble_eq_true rfl⟩) (Nat.le_of_ble_eq_true rfl) (Nat.le_of_ble_eq_true rfl) (fun r ad' f' H locs hw B => ?_)
        obtain ⟨rfl, rfl, rfl⟩ := hw
        refine lv_isub hx hb dX0_putDayNumber_43 ?_
        refine lv_istore_n (lv' := [(2, .int ((a1 + 135140) - (v_X2_daysToYear fo))), (3, .int fo), (0, .ref (ad (18 + j0))), (1, .int a1)]) hx hb dX0_putDayNumber_44 rfl hl (by decide) rfl (fun ls hl => ?_)
        refine lv_iconst (v := 1) hx hb dX0_putDayNumber_45 (by decide) ?_
        refine lv_istore (lv' := [(4, .int 1), (2, .int ((a1 + 135140) - (v_X2_daysToYear fo))), (3, .int fo), (0, .ref (ad (18 + j0))), (1, .int a1)]) hx hb dX0_putDayNumber_46 hl (by decide) rfl (fun ls hl => ?_)
        have loop3 : ∀ (n3 : Nat) (fm : Int32) (rs : Int32) (H : Heap) (locs : List Loc), ((12 : Int32).toInt - fm.toInt).toNat < n3 → v_X0_putDayNumber dy j0 a1 = wX0_putDayNumber_48 dy j0 fo n3 fm rs → WB g (aw N ad sz) s.heap N ad (cf g ad x sp dy la kn re) H locs → ∀ ls : Array Slot, lv_has ls 5 [(4, .int fm), (2, .int rs), (3, .int fo), (0, .ref (ad (18 + j0))), (1, .int a1)] → W p l e (rm 1 0 0) s m args below meth c H locs 0 0 (MQ below (va_Qv (fun (u : WS) => (fun ad' f' => ad = ad' ∧ (cf g ad x sp (v_X0_putDayNumber dy j0 a1) la kn re) = f') u.1 u.2) (fun u t => PO g N u.1 u.2 (aw N ad sz) t) (aw N ad sz)) args s (rm 1 0 0).cells (rm 1 0 0).slots (aw N ad sz)) (F0 m 48 ls []) := by
          intro n3
          induction n3 with
          | zero => intro fm rs H locs hn; exact absurd hn (Nat.not_lt_zero _)
          | succ n3 ih3 =>
            intro fm rs H locs hn3 he3 B ls hl
            refine lv_iload hx hb dX0_putDayNumber_48 (lv_at hl 0 rfl) ?_
            refine lv_bipush (v := 12) hx hb dX0_putDayNumber_50 (by decide) ?_
            refine lv_icmp_ge (tgt := 80) hx hb dX0_putDayNumber_52 (by decide) (fun c4 => ?_) (fun c4 => ?_)
            · refine lv_aload_n hx hb dX0_putDayNumber_80 rfl (lv_at hl 3 rfl) ?_
              refine lv_iload_n hx hb dX0_putDayNumber_81 rfl (lv_at hl 2 rfl) ?_
              refine lv_iload hx hb dX0_putDayNumber_82 (lv_at hl 0 rfl) ?_
              refine lv_iload_n hx hb dX0_putDayNumber_84 rfl (lv_at hl 1 rfl) ?_
              refine lv_iconst (v := 1) hx hb dX0_putDayNumber_85 (by decide) ?_
              refine lv_iadd hx hb dX0_putDayNumber_86 ?_
              refine k_v (k := 0) (n := 0) hA B (u_V (rest := []) X (c_X0_put l g N ad x sp dy la kn re hN j0 hj0 fo fm (rs + 1) H.size) mw_X0_put md_X0_put rfl lk_X0_21 ⟨Nat.le_of_ble_eq_true rfl, Nat.le_of_ble_eq_true rfl⟩ hA hK hT B (pl_dy hN hj0) (cf_dy hj0) rfl rfl hl.1 rfl (Nat.le_of_ble_eq_true rfl) dX0_putDayNumber_87 ⟨Nat.le_of_ble_eq_true rfl, Nat.le_of_ble_eq_true rfl⟩) (Nat.le_of_ble_eq_true rfl) (Nat.le_of_ble_eq_true rfl) (fun ad' f' H locs hw B => ?_)
              obtain ⟨rfl, rfl⟩ := hw
              have ev := (show v_X0_putDayNumber dy j0 a1 = (v_X0_put dy j0 fo fm (rs + 1)) from he3.trans (by rw [wX0_putDayNumber_48, if_pos c4]))
              exact rt_v X hr (ad, (cf g ad x sp (v_X0_put dy j0 fo fm (rs + 1)) la kn re)) B (PO_of B) ⟨rfl, by rw [ev]⟩ (Nat.le_of_ble_eq_true rfl) (Nat.le_of_ble_eq_true rfl) dX0_putDayNumber_90
            · refine lv_iload_n hx hb dX0_putDayNumber_55 rfl (lv_at hl 1 rfl) ?_
              refine lv_iload_n hx hb dX0_putDayNumber_56 rfl (lv_at hl 2 rfl) ?_
              refine lv_iload hx hb dX0_putDayNumber_57 (lv_at hl 0 rfl) ?_
              refine k_i (k := 0) (n := 0) hA B (u_SN (rest := [.int rs]) X (c_X2_daysOfMonth l g N ad x sp dy la kn re hN fo fm H.size) mw_X2_daysOfMonth md_X2_daysOfMonth rfl lk_X0_49 ⟨Nat.le_of_ble_eq_true rfl, Nat.le_of_ble_eq_true rfl⟩ hA hK hT B hl.1 rfl (Nat.le_of_ble_eq_true rfl) dX0_putDayNumber_59 ⟨Nat.le_of_ble_eq_true rfl, Nat.le_of_ble_eq_true rfl⟩) (Nat.le_of_ble_eq_true rfl) (Nat.le_of_ble_eq_true rfl) (fun r ad' f' H locs hw B => ?_)
              obtain ⟨rfl, rfl, rfl⟩ := hw
              refine lv_icmp_lt (tgt := 80) hx hb dX0_putDayNumber_62 (by decide) (fun c5 => ?_) (fun c5 => ?_)
              · refine lv_aload_n hx hb dX0_putDayNumber_80 rfl (lv_at hl 3 rfl) ?_
                refine lv_iload_n hx hb dX0_putDayNumber_81 rfl (lv_at hl 2 rfl) ?_
                refine lv_iload hx hb dX0_putDayNumber_82 (lv_at hl 0 rfl) ?_
                refine lv_iload_n hx hb dX0_putDayNumber_84 rfl (lv_at hl 1 rfl) ?_
                refine lv_iconst (v := 1) hx hb dX0_putDayNumber_85 (by decide) ?_
                refine lv_iadd hx hb dX0_putDayNumber_86 ?_
                refine k_v (k := 0) (n := 0) hA B (u_V (rest := []) X (c_X0_put l g N ad x sp dy la kn re hN j0 hj0 fo fm (rs + 1) H.size) mw_X0_put md_X0_put rfl lk_X0_21 ⟨Nat.le_of_ble_eq_true rfl, Nat.le_of_ble_eq_true rfl⟩ hA hK hT B (pl_dy hN hj0) (cf_dy hj0) rfl rfl hl.1 rfl (Nat.le_of_ble_eq_true rfl) dX0_putDayNumber_87 ⟨Nat.le_of_ble_eq_true rfl, Nat.le_of_ble_eq_true rfl⟩) (Nat.le_of_ble_eq_true rfl) (Nat.le_of_ble_eq_true rfl) (fun ad' f' H locs hw B => ?_)
                obtain ⟨rfl, rfl⟩ := hw
                have ev := (show v_X0_putDayNumber dy j0 a1 = (v_X0_put dy j0 fo fm (rs + 1)) from he3.trans (by rw [wX0_putDayNumber_48, if_neg c4, if_pos c5]))
                exact rt_v X hr (ad, (cf g ad x sp (v_X0_put dy j0 fo fm (rs + 1)) la kn re)) B (PO_of B) ⟨rfl, by rw [ev]⟩ (Nat.le_of_ble_eq_true rfl) (Nat.le_of_ble_eq_true rfl) dX0_putDayNumber_90
              · refine lv_iload_n hx hb dX0_putDayNumber_65 rfl (lv_at hl 1 rfl) ?_
                refine lv_iload_n hx hb dX0_putDayNumber_66 rfl (lv_at hl 2 rfl) ?_
                refine lv_iload hx hb dX0_putDayNumber_67 (lv_at hl 0 rfl) ?_
                refine k_i (k := 0) (n := 0) hA B (u_SN (rest := [.int rs]) X (c_X2_daysOfMonth l g N ad x sp dy la kn re hN fo fm H.size) mw_X2_daysOfMonth md_X2_daysOfMonth rfl lk_X0_49 ⟨Nat.le_of_ble_eq_true rfl, Nat.le_of_ble_eq_true rfl⟩ hA hK hT B hl.1 rfl (Nat.le_of_ble_eq_true rfl) dX0_putDayNumber_69 ⟨Nat.le_of_ble_eq_true rfl, Nat.le_of_ble_eq_true rfl⟩) (Nat.le_of_ble_eq_true rfl) (Nat.le_of_ble_eq_true rfl) (fun r ad' f' H locs hw B => ?_)
                obtain ⟨rfl, rfl, rfl⟩ := hw
                refine lv_isub hx hb dX0_putDayNumber_72 ?_
                refine lv_istore_n (lv' := [(2, .int (rs - (v_X2_daysOfMonth fo fm))), (4, .int fm), (3, .int fo), (0, .ref (ad (18 + j0))), (1, .int a1)]) hx hb dX0_putDayNumber_73 rfl hl (by decide) rfl (fun ls hl => ?_)
                refine lv_iinc (v := fm + 1) (lv' := [(4, .int (fm + 1)), (2, .int (rs - (v_X2_daysOfMonth fo fm))), (3, .int fo), (0, .ref (ad (18 + j0))), (1, .int a1)]) hx hb dX0_putDayNumber_74 hl (k := 1) rfl rfl (by decide) rfl (fun ls hl => ?_)
                refine lv_goto (tgt := 48) hx hb dX0_putDayNumber_77 (by decide) ?_
                exact ih3 (fm + 1) (rs - (v_X2_daysOfMonth fo fm)) H locs (fu_le c4 hn3) (show v_X0_putDayNumber dy j0 a1 = wX0_putDayNumber_48 dy j0 fo n3 (fm + 1) (rs - (v_X2_daysOfMonth fo fm)) from he3.trans (by rw [wX0_putDayNumber_48, if_neg c4, if_neg c5])) B ls (lv_sub hl [0, 1, 2, 3, 4] rfl)
        exact loop3 (((12 : Int32).toInt - (1 : Int32).toInt).toNat + 1) 1 ((a1 + 135140) - (v_X2_daysToYear fo)) H locs (Nat.lt_succ_self _) (show v_X0_putDayNumber dy j0 a1 = wX0_putDayNumber_48 dy j0 fo (((12 : Int32).toInt - (1 : Int32).toInt).toNat + 1) 1 ((a1 + 135140) - (v_X2_daysToYear fo)) from he1.trans (by rw [wX0_putDayNumber_15, if_pos c2])) B ls hl
      · refine lv_iload_n hx hb dX0_putDayNumber_22 rfl (lv_at hl 0 rfl) ?_
        refine lv_iconst (v := 1) hx hb dX0_putDayNumber_23 (by decide) ?_
        refine lv_iadd hx hb dX0_putDayNumber_24 ?_
        refine k_i (k := 0) (n := 0) hA B (u_SN (rest := []) X (c_X2_daysToYear l g N ad x sp dy la kn re hN (fo + 1) H.size) mw_X2_daysToYear md_X2_daysToYear rfl lk_X0_46 ⟨Nat.le_of_ble_eq_true rfl, Nat.le_of_ble_eq_true rfl⟩ hA hK hT B hl.1 rfl (Nat.le_of_ble_eq_true rfl) dX0_putDayNumber_25 ⟨Nat.le_of_ble_eq_true rfl, Nat.le_of_ble_eq_true rfl⟩) (Nat.le_of_ble_eq_true rfl) (Nat.le_of_ble_eq_true rfl) (fun r ad' f' H locs hw B => ?_)
        obtain ⟨rfl, rfl, rfl⟩ := hw
        refine lv_iload_n hx hb dX0_putDayNumber_28 rfl (lv_at hl 1 rfl) ?_
        refine lv_icmp_gt (tgt := 38) hx hb dX0_putDayNumber_29 (by decide) (fun c6 => ?_) (fun c6 => ?_)
        · refine lv_iload_n hx hb dX0_putDayNumber_38 rfl (lv_at hl 1 rfl) ?_
          refine lv_iload_n hx hb dX0_putDayNumber_39 rfl (lv_at hl 0 rfl) ?_
          refine k_i (k := 0) (n := 0) hA B (u_SN (rest := [.int (a1 + 135140)]) X (c_X2_daysToYear l g N ad x sp dy la kn re hN fo H.size) mw_X2_daysToYear md_X2_daysToYear rfl lk_X0_46 ⟨Nat.le_of_ble_eq_true rfl, Nat.le_of_ble_eq_true rfl⟩ hA hK hT B hl.1 rfl (Nat.le_of_ble_eq_true rfl) dX0_putDayNumber_40 ⟨Nat.le_of_ble_eq_true rfl, Nat.le_of_ble_eq_true rfl⟩) (Nat.le_of_ble_eq_true rfl) (Nat.le_of_ble_eq_true rfl) (fun r ad' f' H locs hw B => ?_)
          obtain ⟨rfl, rfl, rfl⟩ := hw
          refine lv_isub hx hb dX0_putDayNumber_43 ?_
          refine lv_istore_n (lv' := [(2, .int ((a1 + 135140) - (v_X2_daysToYear fo))), (3, .int fo), (0, .ref (ad (18 + j0))), (1, .int a1)]) hx hb dX0_putDayNumber_44 rfl hl (by decide) rfl (fun ls hl => ?_)
          refine lv_iconst (v := 1) hx hb dX0_putDayNumber_45 (by decide) ?_
          refine lv_istore (lv' := [(4, .int 1), (2, .int ((a1 + 135140) - (v_X2_daysToYear fo))), (3, .int fo), (0, .ref (ad (18 + j0))), (1, .int a1)]) hx hb dX0_putDayNumber_46 hl (by decide) rfl (fun ls hl => ?_)
          have loop7 : ∀ (n7 : Nat) (fm : Int32) (rs : Int32) (H : Heap) (locs : List Loc), ((12 : Int32).toInt - fm.toInt).toNat < n7 → v_X0_putDayNumber dy j0 a1 = wX0_putDayNumber_48 dy j0 fo n7 fm rs → WB g (aw N ad sz) s.heap N ad (cf g ad x sp dy la kn re) H locs → ∀ ls : Array Slot, lv_has ls 5 [(4, .int fm), (2, .int rs), (3, .int fo), (0, .ref (ad (18 + j0))), (1, .int a1)] → W p l e (rm 1 0 0) s m args below meth c H locs 0 0 (MQ below (va_Qv (fun (u : WS) => (fun ad' f' => ad = ad' ∧ (cf g ad x sp (v_X0_putDayNumber dy j0 a1) la kn re) = f') u.1 u.2) (fun u t => PO g N u.1 u.2 (aw N ad sz) t) (aw N ad sz)) args s (rm 1 0 0).cells (rm 1 0 0).slots (aw N ad sz)) (F0 m 48 ls []) := by
            intro n7
            induction n7 with
            | zero => intro fm rs H locs hn; exact absurd hn (Nat.not_lt_zero _)
            | succ n7 ih7 =>
              intro fm rs H locs hn7 he7 B ls hl
              refine lv_iload hx hb dX0_putDayNumber_48 (lv_at hl 0 rfl) ?_
              refine lv_bipush (v := 12) hx hb dX0_putDayNumber_50 (by decide) ?_
              refine lv_icmp_ge (tgt := 80) hx hb dX0_putDayNumber_52 (by decide) (fun c8 => ?_) (fun c8 => ?_)
              · refine lv_aload_n hx hb dX0_putDayNumber_80 rfl (lv_at hl 3 rfl) ?_
                refine lv_iload_n hx hb dX0_putDayNumber_81 rfl (lv_at hl 2 rfl) ?_
                refine lv_iload hx hb dX0_putDayNumber_82 (lv_at hl 0 rfl) ?_
                refine lv_iload_n hx hb dX0_putDayNumber_84 rfl (lv_at hl 1 rfl) ?_
                refine lv_iconst (v := 1) hx hb dX0_putDayNumber_85 (by decide) ?_
                refine lv_iadd hx hb dX0_putDayNumber_86 ?_
                refine k_v (k := 0) (n := 0) hA B (u_V (rest := []) X (c_X0_put l g N ad x sp dy la kn re hN j0 hj0 fo fm (rs + 1) H.size) mw_X0_put md_X0_put rfl lk_X0_21 ⟨Nat.le_of_ble_eq_true rfl, Nat.le_of_ble_eq_true rfl⟩ hA hK hT B (pl_dy hN hj0) (cf_dy hj0) rfl rfl hl.1 rfl (Nat.le_of_ble_eq_true rfl) dX0_putDayNumber_87 ⟨Nat.le_of_ble_eq_true rfl, Nat.le_of_ble_eq_true rfl⟩) (Nat.le_of_ble_eq_true rfl) (Nat.le_of_ble_eq_true rfl) (fun ad' f' H locs hw B => ?_)
                obtain ⟨rfl, rfl⟩ := hw
                have ev := (show v_X0_putDayNumber dy j0 a1 = (v_X0_put dy j0 fo fm (rs + 1)) from he7.trans (by rw [wX0_putDayNumber_48, if_pos c8]))
                exact rt_v X hr (ad, (cf g ad x sp (v_X0_put dy j0 fo fm (rs + 1)) la kn re)) B (PO_of B) ⟨rfl, by rw [ev]⟩ (Nat.le_of_ble_eq_true rfl) (Nat.le_of_ble_eq_true rfl) dX0_putDayNumber_90
              · refine lv_iload_n hx hb dX0_putDayNumber_55 rfl (lv_at hl 1 rfl) ?_
                refine lv_iload_n hx hb dX0_putDayNumber_56 rfl (lv_at hl 2 rfl) ?_
                refine lv_iload hx hb dX0_putDayNumber_57 (lv_at hl 0 rfl) ?_
                refine k_i (k := 0) (n := 0) hA B (u_SN (rest := [.int rs]) X (c_X2_daysOfMonth l g N ad x sp dy la kn re hN fo fm H.size) mw_X2_daysOfMonth md_X2_daysOfMonth rfl lk_X0_49 ⟨Nat.le_of_ble_eq_true rfl, Nat.le_of_ble_eq_true rfl⟩ hA hK hT B hl.1 rfl (Nat.le_of_ble_eq_true rfl) dX0_putDayNumber_59 ⟨Nat.le_of_ble_eq_true rfl, Nat.le_of_ble_eq_true rfl⟩) (Nat.le_of_ble_eq_true rfl) (Nat.le_of_ble_eq_true rfl) (fun r ad' f' H locs hw B => ?_)
                obtain ⟨rfl, rfl, rfl⟩ := hw
                refine lv_icmp_lt (tgt := 80) hx hb dX0_putDayNumber_62 (by decide) (fun c9 => ?_) (fun c9 => ?_)
                · refine lv_aload_n hx hb dX0_putDayNumber_80 rfl (lv_at hl 3 rfl) ?_
                  refine lv_iload_n hx hb dX0_putDayNumber_81 rfl (lv_at hl 2 rfl) ?_
                  refine lv_iload hx hb dX0_putDayNumber_82 (lv_at hl 0 rfl) ?_
                  refine lv_iload_n hx hb dX0_putDayNumber_84 rfl (lv_at hl 1 rfl) ?_
                  refine lv_iconst (v := 1) hx hb dX0_putDayNumber_85 (by decide) ?_
                  refine lv_iadd hx hb dX0_putDayNumber_86 ?_
                  refine k_v (k := 0) (n := 0) hA B (u_V (rest := []) X (c_X0_put l g N ad x sp dy la kn re hN j0 hj0 fo fm (rs + 1) H.size) mw_X0_put md_X0_put rfl lk_X0_21 ⟨Nat.le_of_ble_eq_true rfl, Nat.le_of_ble_eq_true rfl⟩ hA hK hT B (pl_dy hN hj0) (cf_dy hj0) rfl rfl hl.1 rfl (Nat.le_of_ble_eq_true rfl) dX0_putDayNumber_87 ⟨Nat.le_of_ble_eq_true rfl, Nat.le_of_ble_eq_true rfl⟩) (Nat.le_of_ble_eq_true rfl) (Nat.le_of_ble_eq_true rfl) (fun ad' f' H locs hw B => ?_)
                  obtain ⟨rfl, rfl⟩ := hw
                  have ev := (show v_X0_putDayNumber dy j0 a1 = (v_X0_put dy j0 fo fm (rs + 1)) from he7.trans (by rw [wX0_putDayNumber_48, if_neg c8, if_pos c9]))
                  exact rt_v X hr (ad, (cf g ad x sp (v_X0_put dy j0 fo fm (rs + 1)) la kn re)) B (PO_of B) ⟨rfl, by rw [ev]⟩ (Nat.le_of_ble_eq_true rfl) (Nat.le_of_ble_eq_true rfl) dX0_putDayNumber_90
                · refine lv_iload_n hx hb dX0_putDayNumber_65 rfl (lv_at hl 1 rfl) ?_
                  refine lv_iload_n hx hb dX0_putDayNumber_66 rfl (lv_at hl 2 rfl) ?_
                  refine lv_iload hx hb dX0_putDayNumber_67 (lv_at hl 0 rfl) ?_
                  refine k_i (k := 0) (n := 0) hA B (u_SN (rest := [.int rs]) X (c_X2_daysOfMonth l g N ad x sp dy la kn re hN fo fm H.size) mw_X2_daysOfMonth md_X2_daysOfMonth rfl lk_X0_49 ⟨Nat.le_of_ble_eq_true rfl, Nat.le_of_ble_eq_true rfl⟩ hA hK hT B hl.1 rfl (Nat.le_of_ble_eq_true rfl) dX0_putDayNumber_69 ⟨Nat.le_of_ble_eq_true rfl, Nat.le_of_ble_eq_true rfl⟩) (Nat.le_of_ble_eq_true rfl) (Nat.le_of_ble_eq_true rfl) (fun r ad' f' H locs hw B => ?_)
                  obtain ⟨rfl, rfl, rfl⟩ := hw
                  refine lv_isub hx hb dX0_putDayNumber_72 ?_
                  refine lv_istore_n (lv' := [(2, .int (rs - (v_X2_daysOfMonth fo fm))), (4, .int fm), (3, .int fo), (0, .ref (ad (18 + j0))), (1, .int a1)]) hx hb dX0_putDayNumber_73 rfl hl (by decide) rfl (fun ls hl => ?_)
                  refine lv_iinc (v := fm + 1) (lv' := [(4, .int (fm + 1)), (2, .int (rs - (v_X2_daysOfMonth fo fm))), (3, .int fo), (0, .ref (ad (18 + j0))), (1, .int a1)]) hx hb dX0_putDayNumber_74 hl (k := 1) rfl rfl (by decide) rfl (fun ls hl => ?_)
                  refine lv_goto (tgt := 48) hx hb dX0_putDayNumber_77 (by decide) ?_
                  exact ih7 (fm + 1) (rs - (v_X2_daysOfMonth fo fm)) H locs (fu_le c8 hn7) (show v_X0_putDayNumber dy j0 a1 = wX0_putDayNumber_48 dy j0 fo n7 (fm + 1) (rs - (v_X2_daysOfMonth fo fm)) from he7.trans (by rw [wX0_putDayNumber_48, if_neg c8, if_neg c9])) B ls (lv_sub hl [0, 1, 2, 3, 4] rfl)
          exact loop7 (((12 : Int32).toInt - (1 : Int32).toInt).toNat + 1) 1 ((a1 + 135140) - (v_X2_daysToYear fo)) H locs (Nat.lt_succ_self _) (show v_X0_putDayNumber dy j0 a1 = wX0_putDayNumber_48 dy j0 fo (((12 : Int32).toInt - (1 : Int32).toInt).toNat + 1) 1 ((a1 + 135140) - (v_X2_daysToYear fo)) from he1.trans (by rw [wX0_putDayNumber_15, if_neg c2, if_pos c6])) B ls hl
        · refine lv_iinc (v := fo + 1) (lv' := [(3, .int (fo + 1)), (2, .int (a1 + 135140)), (0, .ref (ad (18 + j0))), (1, .int a1)]) hx hb dX0_putDayNumber_32 hl (k := 0) rfl rfl (by decide) rfl (fun ls hl => ?_)
          refine lv_goto (tgt := 15) hx hb dX0_putDayNumber_35 (by decide) ?_
          exact ih1 (fo + 1) H locs (fu_le c2 hn1) (show v_X0_putDayNumber dy j0 a1 = wX0_putDayNumber_15 dy j0 a1 n1 (fo + 1) from he1.trans (by rw [wX0_putDayNumber_15, if_neg c2, if_neg c6])) B ls (lv_sub hl [0, 1, 2, 3] rfl)
  exact loop1 (((2400 : Int32).toInt - (1600 + ((a1 + 135140) / 366)).toInt).toNat + 1) (1600 + ((a1 + 135140) / 366)) H locs (Nat.lt_succ_self _) (show v_X0_putDayNumber dy j0 a1 = wX0_putDayNumber_15 dy j0 a1 (((2400 : Int32).toInt - (1600 + ((a1 + 135140) / 366)).toInt).toNat + 1) (1600 + ((a1 + 135140) / 366)) from rfl) B ls hl
def wX2_signsOf_31 : Nat → Int32 → Int64 → Int32 → Int64 → Int32
  | 0, pl, bo, sg, si => 0
  | n + 1, pl, bo, sg, si => if 11 ≤ pl then sg else (if 0 < (lg_cmp bo si) then sg else (wX2_signsOf_31 n (pl + 1) (bo * 10) (sg + 1) si))
def v_X2_signsOf (a0 : Int32) : Int32 := if 0 ≤ a0 then (if 0 ≤ a0 then (wX2_signsOf_31 (((11 : Int32).toInt - (1 : Int32).toInt).toNat + 1) 1 10 1 a0.toInt64) else (wX2_signsOf_31 (((11 : Int32).toInt - (1 : Int32).toInt).toNat + 1) 1 10 2 a0.toInt64)) else (if 0 ≤ a0 then (wX2_signsOf_31 (((11 : Int32).toInt - (1 : Int32).toInt).toNat + 1) 1 10 1 (-a0.toInt64)) else (wX2_signsOf_31 (((11 : Int32).toInt - (1 : Int32).toInt).toNat + 1) 1 10 2 (-a0.toInt64)))
set_option maxHeartbeats 4000000 in
set_option maxRecDepth 100000 in
theorem c_X2_signsOf (l : Launch) (g : GG) (N : Nat) (ad : Nat → Nat) (x : Nat → va_E) (sp dy : Nat → TR) (la kn re : Int32) (hN : 23 ≤ N) (a0 : Int32) : KI l yX2_signsOf cX2_signsOf 7 (some .int) (rm 0 0 0) g [.int a0] N ad (cf g ad x sp dy la kn re) N (fun r ad' f' => ad = ad' ∧ (v_X2_signsOf a0) = r ∧ (cf g ad x sp dy la kn re) = f') := by
  intro sz
  refine mt_start (by decide) (Nat.le_of_ble_eq_true rfl) ?_
  intro p e s m args below meth c hsz X hr hnam hA hK hT H locs B ls hl
  obtain ⟨hx, hb, hml, hown, hts, hlocks⟩ := id X
  have hl : lv_has ls 7 [(0, .int a0)] := hl
  refine lv_iload_n hx hb dX2_signsOf_0 rfl (lv_at hl 0 rfl) ?_
  refine lv_if_ge (tgt := 10) hx hb dX2_signsOf_1 (by decide) (fun c1 => ?_) (fun c1 => ?_)
  · refine lv_iload_n hx hb dX2_signsOf_10 rfl (lv_at hl 0 rfl) ?_
    refine lv_i2l (v := a0.toInt64) hx hb dX2_signsOf_11 rfl ?_
    refine lv_lstore_n (lv' := [(1, .long a0.toInt64), (0, .int a0)]) hx hb dX2_signsOf_12 rfl hl (by decide) rfl (fun ls hl => ?_)
    refine lv_iload_n hx hb dX2_signsOf_13 rfl (lv_at hl 1 rfl) ?_
    refine lv_if_ge (tgt := 21) hx hb dX2_signsOf_14 (by decide) (fun c2 => ?_) (fun c2 => ?_)
    · refine lv_iconst (v := 1) hx hb dX2_signsOf_21 (by decide) ?_
      refine lv_istore_n (lv' := [(3, .int 1), (1, .long a0.toInt64), (0, .int a0)]) hx hb dX2_signsOf_22 rfl hl (by decide) rfl (fun ls hl => ?_)
      refine lv_ldc2 hx hb hown (hts _ (List.mem_cons_of_mem _ lk_X2_269)) dX2_signsOf_23 ?_
      refine lv_lstore (lv' := [(4, .long 10), (3, .int 1), (1, .long a0.toInt64), (0, .int a0)]) hx hb dX2_signsOf_26 hl (by decide) rfl (fun ls hl => ?_)
      refine lv_iconst (v := 1) hx hb dX2_signsOf_28 (by decide) ?_
      refine lv_istore (lv' := [(6, .int 1), (4, .long 10), (3, .int 1), (1, .long a0.toInt64), (0, .int a0)]) hx hb dX2_signsOf_29 hl (by decide) rfl (fun ls hl => ?_)
      have loop3 : ∀ (n3 : Nat) (pl : Int32) (bo : Int64) (sg : Int32) (si : Int64) (H : Heap) (locs : List Loc), ((11 : Int32).toInt - pl.toInt).toNat < n3 → v_X2_signsOf a0 = wX2_signsOf_31 n3 pl bo sg si → WB g (aw N ad sz) s.heap N ad (cf g ad x sp dy la kn re) H locs → ∀ ls : Array Slot, lv_has ls 7 [(6, .int pl), (4, .long bo), (3, .int sg), (1, .long si), (0, .int a0)] → W p l e (rm 0 0 0) s m args below meth c H locs 0 0 (MQ below (va_Qi (fun r (u : WS) => (fun r ad' f' => ad = ad' ∧ (v_X2_signsOf a0) = r ∧ (cf g ad x sp dy la kn re) = f') r u.1 u.2) (fun u t => PO g N u.1 u.2 (aw N ad sz) t) (aw N ad sz)) args s (rm 0 0 0).cells (rm 0 0 0).slots (aw N ad sz)) (F0 m 31 ls []) := by
        intro n3
        induction n3 with
        | zero => intro pl bo sg si H locs hn; exact absurd hn (Nat.not_lt_zero _)
        | succ n3 ih3 =>
          intro pl bo sg si H locs hn3 he3 B ls hl
          refine lv_iload hx hb dX2_signsOf_31 (lv_at hl 0 rfl) ?_
          refine lv_bipush (v := 11) hx hb dX2_signsOf_33 (by decide) ?_
          refine lv_icmp_ge (tgt := 62) hx hb dX2_signsOf_35 (by decide) (fun c4 => ?_) (fun c4 => ?_)
          · refine lv_iload_n hx hb dX2_signsOf_62 rfl (lv_at hl 2 rfl) ?_
            have ev := (show v_X2_signsOf a0 = sg from he3.trans (by rw [wX2_signsOf_31, if_pos c4]))
            exact rt_i X hr (ad, (cf g ad x sp dy la kn re)) B (PO_of B) ⟨rfl, by rw [ev], rfl⟩ rfl (Nat.le_of_ble_eq_true rfl) (Nat.le_of_ble_eq_true rfl) dX2_signsOf_63
          · refine lv_lload hx hb dX2_signsOf_38 (lv_at hl 1 rfl) ?_
            refine lv_lload_n hx hb dX2_signsOf_40 rfl (lv_at hl 3 rfl) ?_
            refine W.lcmp hx hb dX2_signsOf_41 ?_
            refine lv_if_gt (tgt := 62) hx hb dX2_signsOf_42 (by decide) (fun c5 => ?_) (fun c5 => ?_)
            · refine lv_iload_n hx hb dX2_signsOf_62 rfl (lv_at hl 2 rfl) ?_
              have ev := (show v_X2_signsOf a0 = sg from he3.trans (by rw [wX2_signsOf_31, if_neg c4, if_pos c5]))
              exact rt_i X hr (ad, (cf g ad x sp dy la kn re)) B (PO_of B) ⟨rfl, by rw [ev], rfl⟩ rfl (Nat.le_of_ble_eq_true rfl) (Nat.le_of_ble_eq_true rfl) dX2_signsOf_63
            · refine lv_iinc (v := sg + 1) (lv' := [(3, .int (sg + 1)), (6, .int pl), (4, .long bo), (1, .long si), (0, .int a0)]) hx hb dX2_signsOf_45 hl (k := 2) rfl rfl (by decide) rfl (fun ls hl => ?_)
              refine lv_lload hx hb dX2_signsOf_48 (lv_at hl 2 rfl) ?_
              refine lv_ldc2 hx hb hown (hts _ (List.mem_cons_of_mem _ lk_X2_269)) dX2_signsOf_50 ?_
              refine lv_lmul hx hb dX2_signsOf_53 ?_
              refine lv_lstore (lv' := [(4, .long (bo * 10)), (3, .int (sg + 1)), (6, .int pl), (1, .long si), (0, .int a0)]) hx hb dX2_signsOf_54 hl (by decide) rfl (fun ls hl => ?_)
              refine lv_iinc (v := pl + 1) (lv' := [(6, .int (pl + 1)), (4, .long (bo * 10)), (3, .int (sg + 1)), (1, .long si), (0, .int a0)]) hx hb dX2_signsOf_56 hl (k := 2) rfl rfl (by decide) rfl (fun ls hl => ?_)
              refine lv_goto (tgt := 31) hx hb dX2_signsOf_59 (by decide) ?_
              exact ih3 (pl + 1) (bo * 10) (sg + 1) si H locs (fu_le c4 hn3) (show v_X2_signsOf a0 = wX2_signsOf_31 n3 (pl + 1) (bo * 10) (sg + 1) si from he3.trans (by rw [wX2_signsOf_31, if_neg c4, if_neg c5])) B ls (lv_sub hl [0, 1, 2, 3, 4] rfl)
      exact loop3 (((11 : Int32).toInt - (1 : Int32).toInt).toNat + 1) 1 10 1 a0.toInt64 H locs (Nat.lt_succ_self _) (show v_X2_signsOf a0 = wX2_signsOf_31 (((11 : Int32).toInt - (1 : Int32).toInt).toNat + 1) 1 10 1 a0.toInt64 from by unfold v_X2_signsOf; rw [if_pos c1, if_pos c2]) B ls hl
    · refine lv_iconst (v := 2) hx hb dX2_signsOf_17 (by decide) ?_
      refine lv_goto (tgt := 22) hx hb dX2_signsOf_18 (by decide) ?_
      refine lv_istore_n (lv' := [(3, .int 2), (1, .long a0.toInt64), (0, .int a0)]) hx hb dX2_signsOf_22 rfl hl (by decide) rfl (fun ls hl => ?_)
      refine lv_ldc2 hx hb hown (hts _ (List.mem_cons_of_mem _ lk_X2_269)) dX2_signsOf_23 ?_
      refine lv_lstore (lv' := [(4, .long 10), (3, .int 2), (1, .long a0.toInt64), (0, .int a0)]) hx hb dX2_signsOf_26 hl (by decide) rfl (fun ls hl => ?_)
      refine lv_iconst (v := 1) hx hb dX2_signsOf_28 (by decide) ?_
      refine lv_istore (lv' := [(6, .int 1), (4, .long 10), (3, .int 2), (1, .long a0.toInt64), (0, .int a0)]) hx hb dX2_signsOf_29 hl (by decide) rfl (fun ls hl => ?_)
      have loop6 : ∀ (n6 : Nat) (pl : Int32) (bo : Int64) (sg : Int32) (si : Int64) (H : Heap) (locs : List Loc), ((11 : Int32).toInt - pl.toInt).toNat < n6 → v_X2_signsOf a0 = wX2_signsOf_31 n6 pl bo sg si → WB g (aw N ad sz) s.heap N ad (cf g ad x sp dy la kn re) H locs → ∀ ls : Array Slot, lv_has ls 7 [(6, .int pl), (4, .long bo), (3, .int sg), (1, .long si), (0, .int a0)] → W p l e (rm 0 0 0) s m args below meth c H locs 0 0 (MQ below (va_Qi (fun r (u : WS) => (fun r ad' f' => ad = ad' ∧ (v_X2_signsOf a0) = r ∧ (cf g ad x sp dy la kn re) = f') r u.1 u.2) (fun u t => PO g N u.1 u.2 (aw N ad sz) t) (aw N ad sz)) args s (rm 0 0 0).cells (rm 0 0 0).slots (aw N ad sz)) (F0 m 31 ls []) := by
        intro n6
        induction n6 with
        | zero => intro pl bo sg si H locs hn; exact absurd hn (Nat.not_lt_zero _)
        | succ n6 ih6 =>
          intro pl bo sg si H locs hn6 he6 B ls hl
          refine lv_iload hx hb dX2_signsOf_31 (lv_at hl 0 rfl) ?_
          refine lv_bipush (v := 11) hx hb dX2_signsOf_33 (by decide) ?_
          refine lv_icmp_ge (tgt := 62) hx hb dX2_signsOf_35 (by decide) (fun c7 => ?_) (fun c7 => ?_)
          · refine lv_iload_n hx hb dX2_signsOf_62 rfl (lv_at hl 2 rfl) ?_
            have ev := (show v_X2_signsOf a0 = sg from he6.trans (by rw [wX2_signsOf_31, if_pos c7]))
            exact rt_i X hr (ad, (cf g ad x sp dy la kn re)) B (PO_of B) ⟨rfl, by rw [ev], rfl⟩ rfl (Nat.le_of_ble_eq_true rfl) (Nat.le_of_ble_eq_true rfl) dX2_signsOf_63
          · refine lv_lload hx hb dX2_signsOf_38 (lv_at hl 1 rfl) ?_
            refine lv_lload_n hx hb dX2_signsOf_40 rfl (lv_at hl 3 rfl) ?_
            refine W.lcmp hx hb dX2_signsOf_41 ?_
            refine lv_if_gt (tgt := 62) hx hb dX2_signsOf_42 (by decide) (fun c8 => ?_) (fun c8 => ?_)
            · refine lv_iload_n hx hb dX2_signsOf_62 rfl (lv_at hl 2 rfl) ?_
              have ev := (show v_X2_signsOf a0 = sg from he6.trans (by rw [wX2_signsOf_31, if_neg c7, if_pos c8]))
              exact rt_i X hr (ad, (cf g ad x sp dy la kn re)) B (PO_of B) ⟨rfl, by rw [ev], rfl⟩ rfl (Nat.le_of_ble_eq_true rfl) (Nat.le_of_ble_eq_true rfl) dX2_signsOf_63
            · refine lv_iinc (v := sg + 1) (lv' := [(3, .int (sg + 1)), (6, .int pl), (4, .long bo), (1, .long si), (0, .int a0)]) hx hb dX2_signsOf_45 hl (k := 2) rfl rfl (by decide) rfl (fun ls hl => ?_)
              refine lv_lload hx hb dX2_signsOf_48 (lv_at hl 2 rfl) ?_
              refine lv_ldc2 hx hb hown (hts _ (List.mem_cons_of_mem _ lk_X2_269)) dX2_signsOf_50 ?_
              refine lv_lmul hx hb dX2_signsOf_53 ?_
              refine lv_lstore (lv' := [(4, .long (bo * 10)), (3, .int (sg + 1)), (6, .int pl), (1, .long si), (0, .int a0)]) hx hb dX2_signsOf_54 hl (by decide) rfl (fun ls hl => ?_)
              refine lv_iinc (v := pl + 1) (lv' := [(6, .int (pl + 1)), (4, .long (bo * 10)), (3, .int (sg + 1)), (1, .long si), (0, .int a0)]) hx hb dX2_signsOf_56 hl (k := 2) rfl rfl (by decide) rfl (fun ls hl => ?_)
              refine lv_goto (tgt := 31) hx hb dX2_signsOf_59 (by decide) ?_
              exact ih6 (pl + 1) (bo * 10) (sg + 1) si H locs (fu_le c7 hn6) (show v_X2_signsOf a0 = wX2_signsOf_31 n6 (pl + 1) (bo * 10) (sg + 1) si from he6.trans (by rw [wX2_signsOf_31, if_neg c7, if_neg c8])) B ls (lv_sub hl [0, 1, 2, 3, 4] rfl)
      exact loop6 (((11 : Int32).toInt - (1 : Int32).toInt).toNat + 1) 1 10 2 a0.toInt64 H locs (Nat.lt_succ_self _) (show v_X2_signsOf a0 = wX2_signsOf_31 (((11 : Int32).toInt - (1 : Int32).toInt).toNat + 1) 1 10 2 a0.toInt64 from by unfold v_X2_signsOf; rw [if_pos c1, if_neg c2]) B ls hl
  · refine lv_iload_n hx hb dX2_signsOf_4 rfl (lv_at hl 0 rfl) ?_
    refine lv_i2l (v := a0.toInt64) hx hb dX2_signsOf_5 rfl ?_
    refine lv_lneg hx hb dX2_signsOf_6 ?_
    refine lv_goto (tgt := 12) hx hb dX2_signsOf_7 (by decide) ?_
    refine lv_lstore_n (lv' := [(1, .long (-a0.toInt64)), (0, .int a0)]) hx hb dX2_signsOf_12 rfl hl (by decide) rfl (fun ls hl => ?_)
    refine lv_iload_n hx hb dX2_signsOf_13 rfl (lv_at hl 1 rfl) ?_
    refine lv_if_ge (tgt := 21) hx hb dX2_signsOf_14 (by decide) (fun c9 => ?_) (fun c9 => ?_)
    · refine lv_iconst (v := 1) hx hb dX2_signsOf_21 (by decide) ?_
      refine lv_istore_n (lv' := [(3, .int 1), (1, .long (-a0.toInt64)), (0, .int a0)]) hx hb dX2_signsOf_22 rfl hl (by decide) rfl (fun ls hl => ?_)
      refine lv_ldc2 hx hb hown (hts _ (List.mem_cons_of_mem _ lk_X2_269)) dX2_signsOf_23 ?_
      refine lv_lstore (lv' := [(4, .long 10), (3, .int 1), (1, .long (-a0.toInt64)), (0, .int a0)]) hx hb dX2_signsOf_26 hl (by decide) rfl (fun ls hl => ?_)
      refine lv_iconst (v := 1) hx hb dX2_signsOf_28 (by decide) ?_
      refine lv_istore (lv' := [(6, .int 1), (4, .long 10), (3, .int 1), (1, .long (-a0.toInt64)), (0, .int a0)]) hx hb dX2_signsOf_29 hl (by decide) rfl (fun ls hl => ?_)
      have loop10 : ∀ (n10 : Nat) (pl : Int32) (bo : Int64) (sg : Int32) (si : Int64) (H : Heap) (locs : List Loc), ((11 : Int32).toInt - pl.toInt).toNat < n10 → v_X2_signsOf a0 = wX2_signsOf_31 n10 pl bo sg si → WB g (aw N ad sz) s.heap N ad (cf g ad x sp dy la kn re) H locs → ∀ ls : Array Slot, lv_has ls 7 [(6, .int pl), (4, .long bo), (3, .int sg), (1, .long si), (0, .int a0)] → W p l e (rm 0 0 0) s m args below meth c H locs 0 0 (MQ below (va_Qi (fun r (u : WS) => (fun r ad' f' => ad = ad' ∧ (v_X2_signsOf a0) = r ∧ (cf g ad x sp dy la kn re) = f') r u.1 u.2) (fun u t => PO g N u.1 u.2 (aw N ad sz) t) (aw N ad sz)) args s (rm 0 0 0).cells (rm 0 0 0).slots (aw N ad sz)) (F0 m 31 ls []) := by
        intro n10
        induction n10 with
        | zero => intro pl bo sg si H locs hn; exact absurd hn (Nat.not_lt_zero _)
        | succ n10 ih10 =>
          intro pl bo sg si H locs hn10 he10 B ls hl
          refine lv_iload hx hb dX2_signsOf_31 (lv_at hl 0 rfl) ?_
          refine lv_bipush (v := 11) hx hb dX2_signsOf_33 (by decide) ?_
          refine lv_icmp_ge (tgt := 62) hx hb dX2_signsOf_35 (by decide) (fun c11 => ?_) (fun c11 => ?_)
          · refine lv_iload_n hx hb dX2_signsOf_62 rfl (lv_at hl 2 rfl) ?_
            have ev := (show v_X2_signsOf a0 = sg from he10.trans (by rw [wX2_signsOf_31, if_pos c11]))
            exact rt_i X hr (ad, (cf g ad x sp dy la kn re)) B (PO_of B) ⟨rfl, by rw [ev], rfl⟩ rfl (Nat.le_of_ble_eq_true rfl) (Nat.le_of_ble_eq_true rfl) dX2_signsOf_63
          · refine lv_lload hx hb dX2_signsOf_38 (lv_at hl 1 rfl) ?_
            refine lv_lload_n hx hb dX2_signsOf_40 rfl (lv_at hl 3 rfl) ?_
            refine W.lcmp hx hb dX2_signsOf_41 ?_
            refine lv_if_gt (tgt := 62) hx hb dX2_signsOf_42 (by decide) (fun c12 => ?_) (fun c12 => ?_)
            · refine lv_iload_n hx hb dX2_signsOf_62 rfl (lv_at hl 2 rfl) ?_
              have ev := (show v_X2_signsOf a0 = sg from he10.trans (by rw [wX2_signsOf_31, if_neg c11, if_pos c12]))
              exact rt_i X hr (ad, (cf g ad x sp dy la kn re)) B (PO_of B) ⟨rfl, by rw [ev], rfl⟩ rfl (Nat.le_of_ble_eq_true rfl) (Nat.le_of_ble_eq_true rfl) dX2_signsOf_63
            · refine lv_iinc (v := sg + 1) (lv' := [(3, .int (sg + 1)), (6, .int pl), (4, .long bo), (1, .long si), (0, .int a0)]) hx hb dX2_signsOf_45 hl (k := 2) rfl rfl (by decide) rfl (fun ls hl => ?_)
              refine lv_lload hx hb dX2_signsOf_48 (lv_at hl 2 rfl) ?_
              refine lv_ldc2 hx hb hown (hts _ (List.mem_cons_of_mem _ lk_X2_269)) dX2_signsOf_50 ?_
              refine lv_lmul hx hb dX2_signsOf_53 ?_
              refine lv_lstore (lv' := [(4, .long (bo * 10)), (3, .int (sg + 1)), (6, .int pl), (1, .long si), (0, .int a0)]) hx hb dX2_signsOf_54 hl (by decide) rfl (fun ls hl => ?_)
              refine lv_iinc (v := pl + 1) (lv' := [(6, .int (pl + 1)), (4, .long (bo * 10)), (3, .int (sg + 1)), (1, .long si), (0, .int a0)]) hx hb dX2_signsOf_56 hl (k := 2) rfl rfl (by decide) rfl (fun ls hl => ?_)
              refine lv_goto (tgt := 31) hx hb dX2_signsOf_59 (by decide) ?_
              exact ih10 (pl + 1) (bo * 10) (sg + 1) si H locs (fu_le c11 hn10) (show v_X2_signsOf a0 = wX2_signsOf_31 n10 (pl + 1) (bo * 10) (sg + 1) si from he10.trans (by rw [wX2_signsOf_31, if_neg c11, if_neg c12])) B ls (lv_sub hl [0, 1, 2, 3, 4] rfl)
      exact loop10 (((11 : Int32).toInt - (1 : Int32).toInt).toNat + 1) 1 10 1 (-a0.toInt64) H locs (Nat.lt_succ_self _) (show v_X2_signsOf a0 = wX2_signsOf_31 (((11 : Int32).toInt - (1 : Int32).toInt).toNat + 1) 1 10 1 (-a0.toInt64) from by unfold v_X2_signsOf; rw [if_neg c1, if_pos c9]) B ls hl
    · refine lv_iconst (v := 2) hx hb dX2_signsOf_17 (by decide) ?_
      refine lv_goto (tgt := 22) hx hb dX2_signsOf_18 (by decide) ?_
      refine lv_istore_n (lv' := [(3, .int 2), (1, .long (-a0.toInt64)), (0, .int a0)]) hx hb dX2_signsOf_22 rfl hl (by decide) rfl (fun ls hl => ?_)
      refine lv_ldc2 hx hb hown (hts _ (List.mem_cons_of_mem _ lk_X2_269)) dX2_signsOf_23 ?_
      refine lv_lstore (lv' := [(4, .long 10), (3, .int 2), (1, .long (-a0.toInt64)), (0, .int a0)]) hx hb dX2_signsOf_26 hl (by decide) rfl (fun ls hl => ?_)
      refine lv_iconst (v := 1) hx hb dX2_signsOf_28 (by decide) ?_
      refine lv_istore (lv' := [(6, .int 1), (4, .long 10), (3, .int 2), (1, .long (-a0.toInt64)), (0, .int a0)]) hx hb dX2_signsOf_29 hl (by decide) rfl (fun ls hl => ?_)
      have loop13 : ∀ (n13 : Nat) (pl : Int32) (bo : Int64) (sg : Int32) (si : Int64) (H : Heap) (locs : List Loc), ((11 : Int32).toInt - pl.toInt).toNat < n13 → v_X2_signsOf a0 = wX2_signsOf_31 n13 pl bo sg si → WB g (aw N ad sz) s.heap N ad (cf g ad x sp dy la kn re) H locs → ∀ ls : Array Slot, lv_has ls 7 [(6, .int pl), (4, .long bo), (3, .int sg), (1, .long si), (0, .int a0)] → W p l e (rm 0 0 0) s m args below meth c H locs 0 0 (MQ below (va_Qi (fun r (u : WS) => (fun r ad' f' => ad = ad' ∧ (v_X2_signsOf a0) = r ∧ (cf g ad x sp dy la kn re) = f') r u.1 u.2) (fun u t => PO g N u.1 u.2 (aw N ad sz) t) (aw N ad sz)) args s (rm 0 0 0).cells (rm 0 0 0).slots (aw N ad sz)) (F0 m 31 ls []) := by
        intro n13
        induction n13 with
        | zero => intro pl bo sg si H locs hn; exact absurd hn (Nat.not_lt_zero _)
        | succ n13 ih13 =>
          intro pl bo sg si H locs hn13 he13 B ls hl
          refine lv_iload hx hb dX2_signsOf_31 (lv_at hl 0 rfl) ?_
          refine lv_bipush (v := 11) hx hb dX2_signsOf_33 (by decide) ?_
          refine lv_icmp_ge (tgt := 62) hx hb dX2_signsOf_35 (by decide) (fun c14 => ?_) (fun c14 => ?_)
          · refine lv_iload_n hx hb dX2_signsOf_62 rfl (lv_at hl 2 rfl) ?_
            have ev := (show v_X2_signsOf a0 = sg from he13.trans (by rw [wX2_signsOf_31, if_pos c14]))
            exact rt_i X hr (ad, (cf g ad x sp dy la kn re)) B (PO_of B) ⟨rfl, by rw [ev], rfl⟩ rfl (Nat.le_of_ble_eq_true rfl) (Nat.le_of_ble_eq_true rfl) dX2_signsOf_63
          · refine lv_lload hx hb dX2_signsOf_38 (lv_at hl 1 rfl) ?_
            refine lv_lload_n hx hb dX2_signsOf_40 rfl (lv_at hl 3 rfl) ?_
            refine W.lcmp hx hb dX2_signsOf_41 ?_
            refine lv_if_gt (tgt := 62) hx hb dX2_signsOf_42 (by decide) (fun c15 => ?_) (fun c15 => ?_)
            · refine lv_iload_n hx hb dX2_signsOf_62 rfl (lv_at hl 2 rfl) ?_
              have ev := (show v_X2_signsOf a0 = sg from he13.trans (by rw [wX2_signsOf_31, if_neg c14, if_pos c15]))
              exact rt_i X hr (ad, (cf g ad x sp dy la kn re)) B (PO_of B) ⟨rfl, by rw [ev], rfl⟩ rfl (Nat.le_of_ble_eq_true rfl) (Nat.le_of_ble_eq_true rfl) dX2_signsOf_63
            · refine lv_iinc (v := sg + 1) (lv' := [(3, .int (sg + 1)), (6, .int pl), (4, .long bo), (1, .long si), (0, .int a0)]) hx hb dX2_signsOf_45 hl (k := 2) rfl rfl (by decide) rfl (fun ls hl => ?_)
              refine lv_lload hx hb dX2_signsOf_48 (lv_at hl 2 rfl) ?_
              refine lv_ldc2 hx hb hown (hts _ (List.mem_cons_of_mem _ lk_X2_269)) dX2_signsOf_50 ?_
              refine lv_lmul hx hb dX2_signsOf_53 ?_
              refine lv_lstore (lv' := [(4, .long (bo * 10)), (3, .int (sg + 1)), (6, .int pl), (1, .long si), (0, .int a0)]) hx hb dX2_signsOf_54 hl (by decide) rfl (fun ls hl => ?_)
              refine lv_iinc (v := pl + 1) (lv' := [(6, .int (pl + 1)), (4, .long (bo * 10)), (3, .int (sg + 1)), (1, .long si), (0, .int a0)]) hx hb dX2_signsOf_56 hl (k := 2) rfl rfl (by decide) rfl (fun ls hl => ?_)
              refine lv_goto (tgt := 31) hx hb dX2_signsOf_59 (by decide) ?_
              exact ih13 (pl + 1) (bo * 10) (sg + 1) si H locs (fu_le c14 hn13) (show v_X2_signsOf a0 = wX2_signsOf_31 n13 (pl + 1) (bo * 10) (sg + 1) si from he13.trans (by rw [wX2_signsOf_31, if_neg c14, if_neg c15])) B ls (lv_sub hl [0, 1, 2, 3, 4] rfl)
      exact loop13 (((11 : Int32).toInt - (1 : Int32).toInt).toNat + 1) 1 10 2 (-a0.toInt64) H locs (Nat.lt_succ_self _) (show v_X2_signsOf a0 = wX2_signsOf_31 (((11 : Int32).toInt - (1 : Int32).toInt).toNat + 1) 1 10 2 (-a0.toInt64) from by unfold v_X2_signsOf; rw [if_neg c1, if_neg c9]) B ls hl
def v_X0_dayNumber (dy : Nat → TR) (j0 : Nat) : Int32 := (v_X2_numberOf (dy j0).1 (dy j0).2.1 (dy j0).2.2)
set_option maxHeartbeats 4000000 in
set_option maxRecDepth 100000 in
theorem c_X0_dayNumber (l : Launch) (g : GG) (N : Nat) (ad : Nat → Nat) (x : Nat → va_E) (sp dy : Nat → TR) (la kn re : Int32) (hN : 23 ≤ N) (j0 : Nat) (hj0 : j0 < 5) : KI l yX0_dayNumber cX0_dayNumber 1 (some .int) (rm 2 0 0) g [.ref (ad (18 + j0))] N ad (cf g ad x sp dy la kn re) N (fun r ad' f' => ad = ad' ∧ (v_X0_dayNumber dy j0) = r ∧ (cf g ad x sp dy la kn re) = f') := by
  intro sz
  refine mt_start (by decide) (Nat.le_of_ble_eq_true rfl) ?_
  intro p e s m args below meth c hsz X hr hnam hA hK hT H locs B ls hl
  obtain ⟨hx, hb, hml, hown, hts, hlocks⟩ := id X
  have hl : lv_has ls 1 [(0, .ref (ad (18 + j0)))] := hl
  refine lv_aload_n hx hb dX0_dayNumber_0 rfl (lv_at hl 0 rfl) ?_
  refine g_get (q := (18 + j0)) (k := 0) X hK B rfl in_X0 (pl_dy hN hj0) (cf_dy hj0) (by decide) lk_X0_9 rfl rfl dX0_dayNumber_1 ?_
  refine lv_aload_n hx hb dX0_dayNumber_4 rfl (lv_at hl 0 rfl) ?_
  refine g_get (q := (18 + j0)) (k := 1) X hK B rfl in_X0 (pl_dy hN hj0) (cf_dy hj0) (by decide) lk_X0_15 rfl rfl dX0_dayNumber_5 ?_
  refine lv_aload_n hx hb dX0_dayNumber_8 rfl (lv_at hl 0 rfl) ?_
  refine g_get (q := (18 + j0)) (k := 2) X hK B rfl in_X0 (pl_dy hN hj0) (cf_dy hj0) (by decide) lk_X0_18 rfl rfl dX0_dayNumber_9 ?_
  refine k_i (k := 0) (n := 0) hA B (u_SN (rest := []) X (c_X2_numberOf l g N ad x sp dy la kn re hN (dy j0).1 (dy j0).2.1 (dy j0).2.2 H.size) mw_X2_numberOf md_X2_numberOf rfl lk_X0_53 ⟨Nat.le_of_ble_eq_true rfl, Nat.le_of_ble_eq_true rfl⟩ hA hK hT B hl.1 rfl (Nat.le_of_ble_eq_true rfl) dX0_dayNumber_12 ⟨Nat.le_of_ble_eq_true rfl, Nat.le_of_ble_eq_true rfl⟩) (Nat.le_of_ble_eq_true rfl) (Nat.le_of_ble_eq_true rfl) (fun r ad' f' H locs hw B => ?_)
  obtain ⟨rfl, rfl, rfl⟩ := hw
  have ev := (show v_X0_dayNumber dy j0 = (v_X2_numberOf (dy j0).1 (dy j0).2.1 (dy j0).2.2) from rfl)
  exact rt_i X hr (ad, (cf g ad x sp dy la kn re)) B (PO_of B) ⟨rfl, by rw [ev], rfl⟩ rfl (Nat.le_of_ble_eq_true rfl) (Nat.le_of_ble_eq_true rfl) dX0_dayNumber_15
def v_X0_dayNumberMonthsOn (dy : Nat → TR) (j0 : Nat) (a1 : Int32) : Int32 := (v_X2_numberOf (((v_X0_monthPlace dy j0) + a1) / 12) ((((v_X0_monthPlace dy j0) + a1) - ((v_X0_monthPlace dy j0) + a1) / 12 * 12) + 1) (v_X2_dayKept (((v_X0_monthPlace dy j0) + a1) / 12) ((((v_X0_monthPlace dy j0) + a1) - ((v_X0_monthPlace dy j0) + a1) / 12 * 12) + 1) (dy j0).2.2))
set_option maxHeartbeats 4000000 in
set_option maxRecDepth 100000 in
theorem c_X0_dayNumberMonthsOn (l : Launch) (g : GG) (N : Nat) (ad : Nat → Nat) (x : Nat → va_E) (sp dy : Nat → TR) (la kn re : Int32) (hN : 23 ≤ N) (j0 : Nat) (hj0 : j0 < 5) (a1 : Int32) : KI l yX0_dayNumberMonthsOn cX0_dayNumberMonthsOn 5 (some .int) (rm 2 0 0) g [.ref (ad (18 + j0)), .int a1] N ad (cf g ad x sp dy la kn re) N (fun r ad' f' => ad = ad' ∧ (v_X0_dayNumberMonthsOn dy j0 a1) = r ∧ (cf g ad x sp dy la kn re) = f') := by
  intro sz
  refine mt_start (by decide) (Nat.le_of_ble_eq_true rfl) ?_
  intro p e s m args below meth c hsz X hr hnam hA hK hT H locs B ls hl
  obtain ⟨hx, hb, hml, hown, hts, hlocks⟩ := id X
  have hl : lv_has ls 5 [(0, .ref (ad (18 + j0))), (1, .int a1)] := hl
  refine lv_aload_n hx hb dX0_dayNumberMonthsOn_0 rfl (lv_at hl 0 rfl) ?_
  refine k_i (k := 0) (n := 0) hA B (u_V (rest := []) X (c_X0_monthPlace l g N ad x sp dy la kn re hN j0 hj0 H.size) mw_X0_monthPlace md_X0_monthPlace rfl lk_X0_25 ⟨Nat.le_of_ble_eq_true rfl, Nat.le_of_ble_eq_true rfl⟩ hA hK hT B (pl_dy hN hj0) (cf_dy hj0) rfl rfl hl.1 rfl (Nat.le_of_ble_eq_true rfl) dX0_dayNumberMonthsOn_1 ⟨Nat.le_of_ble_eq_true rfl, Nat.le_of_ble_eq_true rfl⟩) (Nat.le_of_ble_eq_true rfl) (Nat.le_of_ble_eq_true rfl) (fun r ad' f' H locs hw B => ?_)
  obtain ⟨rfl, rfl, rfl⟩ := hw
  refine lv_iload_n hx hb dX0_dayNumberMonthsOn_4 rfl (lv_at hl 1 rfl) ?_
  refine lv_iadd hx hb dX0_dayNumberMonthsOn_5 ?_
  refine lv_istore_n (lv' := [(2, .int ((v_X0_monthPlace dy j0) + a1)), (0, .ref (ad (18 + j0))), (1, .int a1)]) hx hb dX0_dayNumberMonthsOn_6 rfl hl (by decide) rfl (fun ls hl => ?_)
  refine lv_iload_n hx hb dX0_dayNumberMonthsOn_7 rfl (lv_at hl 0 rfl) ?_
  refine lv_bipush (v := 12) hx hb dX0_dayNumberMonthsOn_8 (by decide) ?_
  refine lv_idiv hx hb dX0_dayNumberMonthsOn_10 (by decide) ?_
  refine lv_istore_n (lv' := [(3, .int (((v_X0_monthPlace dy j0) + a1) / 12)), (2, .int ((v_X0_monthPlace dy j0) + a1)), (0, .ref (ad (18 + j0))), (1, .int a1)]) hx hb dX0_dayNumberMonthsOn_11 rfl hl (by decide) rfl (fun ls hl => ?_)
  refine lv_iload_n hx hb dX0_dayNumberMonthsOn_12 rfl (lv_at hl 1 rfl) ?_
  refine lv_bipush (v := 12) hx hb dX0_dayNumberMonthsOn_13 (by decide) ?_
  refine lv_irem hx hb dX0_dayNumberMonthsOn_15 (by decide) ?_
  refine lv_iconst (v := 1) hx hb dX0_dayNumberMonthsOn_16 (by decide) ?_
  refine lv_iadd hx hb dX0_dayNumberMonthsOn_17 ?_
  refine lv_istore (lv' := [(4, .int ((((v_X0_monthPlace dy j0) + a1) - ((v_X0_monthPlace dy j0) + a1) / 12 * 12) + 1)), (3, .int (((v_X0_monthPlace dy j0) + a1) / 12)), (2, .int ((v_X0_monthPlace dy j0) + a1)), (0, .ref (ad (18 + j0))), (1, .int a1)]) hx hb dX0_dayNumberMonthsOn_18 hl (by decide) rfl (fun ls hl => ?_)
  refine lv_iload_n hx hb dX0_dayNumberMonthsOn_20 rfl (lv_at hl 1 rfl) ?_
  refine lv_iload hx hb dX0_dayNumberMonthsOn_21 (lv_at hl 0 rfl) ?_
  refine lv_iload_n hx hb dX0_dayNumberMonthsOn_23 rfl (lv_at hl 1 rfl) ?_
  refine lv_iload hx hb dX0_dayNumberMonthsOn_24 (lv_at hl 0 rfl) ?_
  refine lv_aload_n hx hb dX0_dayNumberMonthsOn_26 rfl (lv_at hl 3 rfl) ?_
  refine g_get (q := (18 + j0)) (k := 2) X hK B rfl in_X0 (pl_dy hN hj0) (cf_dy hj0) (by decide) lk_X0_18 rfl rfl dX0_dayNumberMonthsOn_27 ?_
  refine k_i (k := 0) (n := 0) hA B (u_SN (rest := [.int ((((v_X0_monthPlace dy j0) + a1) - ((v_X0_monthPlace dy j0) + a1) / 12 * 12) + 1), .int (((v_X0_monthPlace dy j0) + a1) / 12)]) X (c_X2_dayKept l g N ad x sp dy la kn re hN (((v_X0_monthPlace dy j0) + a1) / 12) ((((v_X0_monthPlace dy j0) + a1) - ((v_X0_monthPlace dy j0) + a1) / 12 * 12) + 1) (dy j0).2.2 H.size) mw_X2_dayKept md_X2_dayKept rfl lk_X0_57 ⟨Nat.le_of_ble_eq_true rfl, Nat.le_of_ble_eq_true rfl⟩ hA hK hT B hl.1 rfl (Nat.le_of_ble_eq_true rfl) dX0_dayNumberMonthsOn_30 ⟨Nat.le_of_ble_eq_true rfl, Nat.le_of_ble_eq_true rfl⟩) (Nat.le_of_ble_eq_true rfl) (Nat.le_of_ble_eq_true rfl) (fun r ad' f' H locs hw B => ?_)
  obtain ⟨rfl, rfl, rfl⟩ := hw
  refine k_i (k := 0) (n := 0) hA B (u_SN (rest := []) X (c_X2_numberOf l g N ad x sp dy la kn re hN (((v_X0_monthPlace dy j0) + a1) / 12) ((((v_X0_monthPlace dy j0) + a1) - ((v_X0_monthPlace dy j0) + a1) / 12 * 12) + 1) (v_X2_dayKept (((v_X0_monthPlace dy j0) + a1) / 12) ((((v_X0_monthPlace dy j0) + a1) - ((v_X0_monthPlace dy j0) + a1) / 12 * 12) + 1) (dy j0).2.2) H.size) mw_X2_numberOf md_X2_numberOf rfl lk_X0_53 ⟨Nat.le_of_ble_eq_true rfl, Nat.le_of_ble_eq_true rfl⟩ hA hK hT B hl.1 rfl (Nat.le_of_ble_eq_true rfl) dX0_dayNumberMonthsOn_33 ⟨Nat.le_of_ble_eq_true rfl, Nat.le_of_ble_eq_true rfl⟩) (Nat.le_of_ble_eq_true rfl) (Nat.le_of_ble_eq_true rfl) (fun r ad' f' H locs hw B => ?_)
  obtain ⟨rfl, rfl, rfl⟩ := hw
  have ev := (show v_X0_dayNumberMonthsOn dy j0 a1 = (v_X2_numberOf (((v_X0_monthPlace dy j0) + a1) / 12) ((((v_X0_monthPlace dy j0) + a1) - ((v_X0_monthPlace dy j0) + a1) / 12 * 12) + 1) (v_X2_dayKept (((v_X0_monthPlace dy j0) + a1) / 12) ((((v_X0_monthPlace dy j0) + a1) - ((v_X0_monthPlace dy j0) + a1) / 12 * 12) + 1) (dy j0).2.2)) from rfl)
  exact rt_i X hr (ad, (cf g ad x sp dy la kn re)) B (PO_of B) ⟨rfl, by rw [ev], rfl⟩ rfl (Nat.le_of_ble_eq_true rfl) (Nat.le_of_ble_eq_true rfl) dX0_dayNumberMonthsOn_36
def v_X0_orderTo (dy : Nat → TR) (j0 : Nat) (j1 : Nat) : Int32 := if (v_X0_dayNumber dy j1) ≤ (v_X0_dayNumber dy j0) then (if (v_X0_dayNumber dy j0) ≤ (v_X0_dayNumber dy j1) then 0 else 1) else (-1)
set_option maxHeartbeats 4000000 in
set_option maxRecDepth 100000 in
theorem c_X0_orderTo (l : Launch) (g : GG) (N : Nat) (ad : Nat → Nat) (x : Nat → va_E) (sp dy : Nat → TR) (la kn re : Int32) (hN : 23 ≤ N) (j0 : Nat) (hj0 : j0 < 5) (j1 : Nat) (hj1 : j1 < 5) : KI l yX0_orderTo cX0_orderTo 4 (some .int) (rm 3 0 0) g [.ref (ad (18 + j0)), .ref (ad (18 + j1))] N ad (cf g ad x sp dy la kn re) N (fun r ad' f' => ad = ad' ∧ (v_X0_orderTo dy j0 j1) = r ∧ (cf g ad x sp dy la kn re) = f') := by
  intro sz
  refine mt_start (by decide) (Nat.le_of_ble_eq_true rfl) ?_
  intro p e s m args below meth c hsz X hr hnam hA hK hT H locs B ls hl
  obtain ⟨hx, hb, hml, hown, hts, hlocks⟩ := id X
  have hl : lv_has ls 4 [(0, .ref (ad (18 + j0))), (1, .ref (ad (18 + j1)))] := hl
  refine lv_aload_n hx hb dX0_orderTo_0 rfl (lv_at hl 0 rfl) ?_
  refine k_i (k := 0) (n := 0) hA B (u_V (rest := []) X (c_X0_dayNumber l g N ad x sp dy la kn re hN j0 hj0 H.size) mw_X0_dayNumber md_X0_dayNumber rfl lk_X0_60 ⟨Nat.le_of_ble_eq_true rfl, Nat.le_of_ble_eq_true rfl⟩ hA hK hT B (pl_dy hN hj0) (cf_dy hj0) rfl rfl hl.1 rfl (Nat.le_of_ble_eq_true rfl) dX0_orderTo_1 ⟨Nat.le_of_ble_eq_true rfl, Nat.le_of_ble_eq_true rfl⟩) (Nat.le_of_ble_eq_true rfl) (Nat.le_of_ble_eq_true rfl) (fun r ad' f' H locs hw B => ?_)
  obtain ⟨rfl, rfl, rfl⟩ := hw
  refine lv_istore_n (lv' := [(2, .int (v_X0_dayNumber dy j0)), (0, .ref (ad (18 + j0))), (1, .ref (ad (18 + j1)))]) hx hb dX0_orderTo_4 rfl hl (by decide) rfl (fun ls hl => ?_)
  refine lv_aload_n hx hb dX0_orderTo_5 rfl (lv_at hl 2 rfl) ?_
  refine k_i (k := 0) (n := 0) hA B (u_V (rest := []) X (c_X0_dayNumber l g N ad x sp dy la kn re hN j1 hj1 H.size) mw_X0_dayNumber md_X0_dayNumber rfl lk_X0_60 ⟨Nat.le_of_ble_eq_true rfl, Nat.le_of_ble_eq_true rfl⟩ hA hK hT B (pl_dy hN hj1) (cf_dy hj1) rfl rfl hl.1 rfl (Nat.le_of_ble_eq_true rfl) dX0_orderTo_6 ⟨Nat.le_of_ble_eq_true rfl, Nat.le_of_ble_eq_true rfl⟩) (Nat.le_of_ble_eq_true rfl) (Nat.le_of_ble_eq_true rfl) (fun r ad' f' H locs hw B => ?_)
  obtain ⟨rfl, rfl, rfl⟩ := hw
  refine lv_istore_n (lv' := [(3, .int (v_X0_dayNumber dy j1)), (2, .int (v_X0_dayNumber dy j0)), (0, .ref (ad (18 + j0))), (1, .ref (ad (18 + j1)))]) hx hb dX0_orderTo_9 rfl hl (by decide) rfl (fun ls hl => ?_)
  refine lv_iload_n hx hb dX0_orderTo_10 rfl (lv_at hl 1 rfl) ?_
  refine lv_iload_n hx hb dX0_orderTo_11 rfl (lv_at hl 0 rfl) ?_
  refine lv_icmp_ge (tgt := 19) hx hb dX0_orderTo_12 (by decide) (fun c1 => ?_) (fun c1 => ?_)
  · refine lv_iload_n hx hb dX0_orderTo_19 rfl (lv_at hl 1 rfl) ?_
    refine lv_iload_n hx hb dX0_orderTo_20 rfl (lv_at hl 0 rfl) ?_
    refine lv_icmp_le (tgt := 28) hx hb dX0_orderTo_21 (by decide) (fun c2 => ?_) (fun c2 => ?_)
    · refine lv_iconst (v := 0) hx hb dX0_orderTo_28 (by decide) ?_
      have ev := (show v_X0_orderTo dy j0 j1 = 0 from by unfold v_X0_orderTo; rw [if_pos c1, if_pos c2])
      exact rt_i X hr (ad, (cf g ad x sp dy la kn re)) B (PO_of B) ⟨rfl, by rw [ev], rfl⟩ rfl (Nat.le_of_ble_eq_true rfl) (Nat.le_of_ble_eq_true rfl) dX0_orderTo_29
    · refine lv_iconst (v := 1) hx hb dX0_orderTo_24 (by decide) ?_
      refine lv_goto (tgt := 29) hx hb dX0_orderTo_25 (by decide) ?_
      have ev := (show v_X0_orderTo dy j0 j1 = 1 from by unfold v_X0_orderTo; rw [if_pos c1, if_neg c2])
      exact rt_i X hr (ad, (cf g ad x sp dy la kn re)) B (PO_of B) ⟨rfl, by rw [ev], rfl⟩ rfl (Nat.le_of_ble_eq_true rfl) (Nat.le_of_ble_eq_true rfl) dX0_orderTo_29
  · refine lv_iconst (v := (-1)) hx hb dX0_orderTo_15 (by decide) ?_
    refine lv_goto (tgt := 29) hx hb dX0_orderTo_16 (by decide) ?_
    have ev := (show v_X0_orderTo dy j0 j1 = (-1) from by unfold v_X0_orderTo; rw [if_neg c1])
    exact rt_i X hr (ad, (cf g ad x sp dy la kn re)) B (PO_of B) ⟨rfl, by rw [ev], rfl⟩ rfl (Nat.le_of_ble_eq_true rfl) (Nat.le_of_ble_eq_true rfl) dX0_orderTo_29
def v_X0_number (dy : Nat → TR) (j0 : Nat) (a1 : Int32) : Int32 := if a1 = 0 then (dy j0).1 else (if a1 = 1 then (dy j0).2.1 else (if a1 = 2 then (dy j0).2.2 else (v_X0_dayNumber dy j0)))
set_option maxHeartbeats 4000000 in
set_option maxRecDepth 100000 in
theorem c_X0_number (l : Launch) (g : GG) (N : Nat) (ad : Nat → Nat) (x : Nat → va_E) (sp dy : Nat → TR) (la kn re : Int32) (hN : 23 ≤ N) (j0 : Nat) (hj0 : j0 < 5) (a1 : Int32) : KI l yX0_number cX0_number 2 (some .int) (rm 3 0 0) g [.ref (ad (18 + j0)), .int a1] N ad (cf g ad x sp dy la kn re) N (fun r ad' f' => ad = ad' ∧ (v_X0_number dy j0 a1) = r ∧ (cf g ad x sp dy la kn re) = f') := by
  intro sz
  refine mt_start (by decide) (Nat.le_of_ble_eq_true rfl) ?_
  intro p e s m args below meth c hsz X hr hnam hA hK hT H locs B ls hl
  obtain ⟨hx, hb, hml, hown, hts, hlocks⟩ := id X
  have hl : lv_has ls 2 [(0, .ref (ad (18 + j0))), (1, .int a1)] := hl
  refine lv_iload_n hx hb dX0_number_0 rfl (lv_at hl 1 rfl) ?_
  refine lv_if_ne (tgt := 11) hx hb dX0_number_1 (by decide) (fun c1 => ?_) (fun c1 => ?_)
  · refine lv_iload_n hx hb dX0_number_11 rfl (lv_at hl 1 rfl) ?_
    refine lv_iconst (v := 1) hx hb dX0_number_12 (by decide) ?_
    refine lv_icmp_ne (tgt := 23) hx hb dX0_number_13 (by decide) (fun c2 => ?_) (fun c2 => ?_)
    · refine lv_iload_n hx hb dX0_number_23 rfl (lv_at hl 1 rfl) ?_
      refine lv_iconst (v := 2) hx hb dX0_number_24 (by decide) ?_
      refine lv_icmp_ne (tgt := 35) hx hb dX0_number_25 (by decide) (fun c3 => ?_) (fun c3 => ?_)
      · refine lv_aload_n hx hb dX0_number_35 rfl (lv_at hl 0 rfl) ?_
        refine k_i (k := 0) (n := 0) hA B (u_V (rest := []) X (c_X0_dayNumber l g N ad x sp dy la kn re hN j0 hj0 H.size) mw_X0_dayNumber md_X0_dayNumber rfl lk_X0_60 ⟨Nat.le_of_ble_eq_true rfl, Nat.le_of_ble_eq_true rfl⟩ hA hK hT B (pl_dy hN hj0) (cf_dy hj0) rfl rfl hl.1 rfl (Nat.le_of_ble_eq_true rfl) dX0_number_36 ⟨Nat.le_of_ble_eq_true rfl, Nat.le_of_ble_eq_true rfl⟩) (Nat.le_of_ble_eq_true rfl) (Nat.le_of_ble_eq_true rfl) (fun r ad' f' H locs hw B => ?_)
        obtain ⟨rfl, rfl, rfl⟩ := hw
        have ev := (show v_X0_number dy j0 a1 = (v_X0_dayNumber dy j0) from by unfold v_X0_number; rw [if_neg c1, if_neg c2, if_neg c3])
        exact rt_i X hr (ad, (cf g ad x sp dy la kn re)) B (PO_of B) ⟨rfl, by rw [ev], rfl⟩ rfl (Nat.le_of_ble_eq_true rfl) (Nat.le_of_ble_eq_true rfl) dX0_number_39
      · refine lv_aload_n hx hb dX0_number_28 rfl (lv_at hl 0 rfl) ?_
        refine g_get (q := (18 + j0)) (k := 2) X hK B rfl in_X0 (pl_dy hN hj0) (cf_dy hj0) (by decide) lk_X0_18 rfl rfl dX0_number_29 ?_
        refine lv_goto (tgt := 39) hx hb dX0_number_32 (by decide) ?_
        have ev := (show v_X0_number dy j0 a1 = (dy j0).2.2 from by unfold v_X0_number; rw [if_neg c1, if_neg c2, if_pos c3])
        exact rt_i X hr (ad, (cf g ad x sp dy la kn re)) B (PO_of B) ⟨rfl, by rw [ev], rfl⟩ rfl (Nat.le_of_ble_eq_true rfl) (Nat.le_of_ble_eq_true rfl) dX0_number_39
    · refine lv_aload_n hx hb dX0_number_16 rfl (lv_at hl 0 rfl) ?_
      refine g_get (q := (18 + j0)) (k := 1) X hK B rfl in_X0 (pl_dy hN hj0) (cf_dy hj0) (by decide) lk_X0_15 rfl rfl dX0_number_17 ?_
      refine lv_goto (tgt := 39) hx hb dX0_number_20 (by decide) ?_
      have ev := (show v_X0_number dy j0 a1 = (dy j0).2.1 from by unfold v_X0_number; rw [if_neg c1, if_pos c2])
      exact rt_i X hr (ad, (cf g ad x sp dy la kn re)) B (PO_of B) ⟨rfl, by rw [ev], rfl⟩ rfl (Nat.le_of_ble_eq_true rfl) (Nat.le_of_ble_eq_true rfl) dX0_number_39
  · refine lv_aload_n hx hb dX0_number_4 rfl (lv_at hl 0 rfl) ?_
    refine g_get (q := (18 + j0)) (k := 0) X hK B rfl in_X0 (pl_dy hN hj0) (cf_dy hj0) (by decide) lk_X0_9 rfl rfl dX0_number_5 ?_
    refine lv_goto (tgt := 39) hx hb dX0_number_8 (by decide) ?_
    have ev := (show v_X0_number dy j0 a1 = (dy j0).1 from by unfold v_X0_number; rw [if_pos c1])
    exact rt_i X hr (ad, (cf g ad x sp dy la kn re)) B (PO_of B) ⟨rfl, by rw [ev], rfl⟩ rfl (Nat.le_of_ble_eq_true rfl) (Nat.le_of_ble_eq_true rfl) dX0_number_39
def v_X0_putMoved (dy : Nat → TR) (j0 : Nat) (j1 : Nat) (b2 : Int64) (b3 : Int64) : Int32 × (Nat → TR) := if (lg_cmp (((v_X0_monthPlace dy j1).toInt64) + b2) 19200) < 0 then (0, dy) else (if (lg_cmp (((v_X0_monthPlace dy j1).toInt64) + b2) 28812) < 0 then (if (lg_cmp (((v_X0_dayNumberMonthsOn dy j1 b2.toInt32).toInt64) + b3) (-135140)) < 0 then (0, dy) else (if (lg_cmp (((v_X0_dayNumberMonthsOn dy j1 b2.toInt32).toInt64) + b3) 157419) ≤ 0 then (1, (v_X0_putDayNumber dy j0 ((((v_X0_dayNumberMonthsOn dy j1 b2.toInt32).toInt64) + b3).toInt32))) else (0, dy))) else (0, dy))
theorem kp_X0_putMoved_dy {dy : Nat → TR} {j0 : Nat} {j1 : Nat} {b2 : Int64} {b3 : Int64} {j : Nat} (h : j ≠ j0) : (v_X0_putMoved dy j0 j1 b2 b3).2 j = dy j := by
  unfold v_X0_putMoved
  by_cases q1 : (lg_cmp (((v_X0_monthPlace dy j1).toInt64) + b2) 19200) < 0
  · rw [if_pos q1]
    all_goals rfl
  · rw [if_neg q1]
    by_cases q2 : (lg_cmp (((v_X0_monthPlace dy j1).toInt64) + b2) 28812) < 0
    · rw [if_pos q2]
      by_cases q3 : (lg_cmp (((v_X0_dayNumberMonthsOn dy j1 b2.toInt32).toInt64) + b3) (-135140)) < 0
      · rw [if_pos q3]
        all_goals rfl
      · rw [if_neg q3]
        by_cases q4 : (lg_cmp (((v_X0_dayNumberMonthsOn dy j1 b2.toInt32).toInt64) + b3) 157419) ≤ 0
        · rw [if_pos q4]
          first | (dsimp only; exact kp_X0_putDayNumber_dy h) | exact kp_X0_putDayNumber_dy h
        · rw [if_neg q4]
          all_goals rfl
    · rw [if_neg q2]
      all_goals rfl
theorem b01_X0_putMoved {dy : Nat → TR} {j0 : Nat} {j1 : Nat} {b2 : Int64} {b3 : Int64} : (v_X0_putMoved dy j0 j1 b2 b3).1 = 0 ∨ (v_X0_putMoved dy j0 j1 b2 b3).1 = 1 := by
  unfold v_X0_putMoved
  by_cases q1 : (lg_cmp (((v_X0_monthPlace dy j1).toInt64) + b2) 19200) < 0
  · rw [if_pos q1]
    exact Or.inl rfl
  · rw [if_neg q1]
    by_cases q2 : (lg_cmp (((v_X0_monthPlace dy j1).toInt64) + b2) 28812) < 0
    · rw [if_pos q2]
      by_cases q3 : (lg_cmp (((v_X0_dayNumberMonthsOn dy j1 b2.toInt32).toInt64) + b3) (-135140)) < 0
      · rw [if_pos q3]
        exact Or.inl rfl
      · rw [if_neg q3]
        by_cases q4 : (lg_cmp (((v_X0_dayNumberMonthsOn dy j1 b2.toInt32).toInt64) + b3) 157419) ≤ 0
        · rw [if_pos q4]
          exact Or.inr rfl
        · rw [if_neg q4]
          exact Or.inl rfl
    · rw [if_neg q2]
      exact Or.inl rfl
set_option maxHeartbeats 4000000 in
set_option maxRecDepth 100000 in
theorem c_X0_putMoved (l : Launch) (g : GG) (N : Nat) (ad : Nat → Nat) (x : Nat → va_E) (sp dy : Nat → TR) (la kn re : Int32) (hN : 23 ≤ N) (j0 : Nat) (hj0 : j0 < 5) (j1 : Nat) (hj1 : j1 < 5) (b2 : Int64) (b3 : Int64) : KI l yX0_putMoved cX0_putMoved 10 (some .boolean) (rm 3 0 0) g [.ref (ad (18 + j0)), .ref (ad (18 + j1)), .long b2, .long b3] N ad (cf g ad x sp dy la kn re) N (fun r ad' f' => ad = ad' ∧ (v_X0_putMoved dy j0 j1 b2 b3).1 = r ∧ (cf g ad x sp (v_X0_putMoved dy j0 j1 b2 b3).2 la kn re) = f') := by
  intro sz
  refine mt_start (by decide) (Nat.le_of_ble_eq_true rfl) ?_
  intro p e s m args below meth c hsz X hr hnam hA hK hT H locs B ls hl
  obtain ⟨hx, hb, hml, hown, hts, hlocks⟩ := id X
  have hl : lv_has ls 10 [(0, .ref (ad (18 + j0))), (1, .ref (ad (18 + j1))), (2, .long b2), (4, .long b3)] := hl
  refine lv_aload_n hx hb dX0_putMoved_0 rfl (lv_at hl 1 rfl) ?_
  refine k_i (k := 0) (n := 0) hA B (u_V (rest := []) X (c_X0_monthPlace l g N ad x sp dy la kn re hN j1 hj1 H.size) mw_X0_monthPlace md_X0_monthPlace rfl lk_X0_25 ⟨Nat.le_of_ble_eq_true rfl, Nat.le_of_ble_eq_true rfl⟩ hA hK hT B (pl_dy hN hj1) (cf_dy hj1) rfl rfl hl.1 rfl (Nat.le_of_ble_eq_true rfl) dX0_putMoved_1 ⟨Nat.le_of_ble_eq_true rfl, Nat.le_of_ble_eq_true rfl⟩) (Nat.le_of_ble_eq_true rfl) (Nat.le_of_ble_eq_true rfl) (fun r ad' f' H locs hw B => ?_)
  obtain ⟨rfl, rfl, rfl⟩ := hw
  refine lv_i2l (v := (v_X0_monthPlace dy j1).toInt64) hx hb dX0_putMoved_4 rfl ?_
  refine lv_lload_n hx hb dX0_putMoved_5 rfl (lv_at hl 2 rfl) ?_
  refine lv_ladd hx hb dX0_putMoved_6 ?_
  refine lv_lstore (lv' := [(6, .long (((v_X0_monthPlace dy j1).toInt64) + b2)), (0, .ref (ad (18 + j0))), (1, .ref (ad (18 + j1))), (2, .long b2), (4, .long b3)]) hx hb dX0_putMoved_7 hl (by decide) rfl (fun ls hl => ?_)
  refine lv_lload hx hb dX0_putMoved_9 (lv_at hl 0 rfl) ?_
  refine lv_ldc2 hx hb hown (hts _ (List.mem_cons_of_mem _ lk_X0_29)) dX0_putMoved_11 ?_
  refine W.lcmp hx hb dX0_putMoved_14 ?_
  refine lv_if_lt (tgt := 27) hx hb dX0_putMoved_15 (by decide) (fun c1 => ?_) (fun c1 => ?_)
  · refine lv_iconst (v := 0) hx hb dX0_putMoved_27 (by decide) ?_
    have ev := (show v_X0_putMoved dy j0 j1 b2 b3 = (0, dy) from by unfold v_X0_putMoved; rw [if_pos c1])
    exact rt_i X hr (ad, (cf g ad x sp dy la kn re)) B (PO_of B) ⟨rfl, by rw [ev], by rw [ev]⟩ rfl (Nat.le_of_ble_eq_true rfl) (Nat.le_of_ble_eq_true rfl) dX0_putMoved_28
  · refine lv_lload hx hb dX0_putMoved_18 (lv_at hl 0 rfl) ?_
    refine lv_ldc2 hx hb hown (hts _ (List.mem_cons_of_mem _ lk_X0_31)) dX0_putMoved_20 ?_
    refine W.lcmp hx hb dX0_putMoved_23 ?_
    refine lv_if_lt (tgt := 29) hx hb dX0_putMoved_24 (by decide) (fun c2 => ?_) (fun c2 => ?_)
    · refine lv_aload_n hx hb dX0_putMoved_29 rfl (lv_at hl 2 rfl) ?_
      refine lv_lload_n hx hb dX0_putMoved_30 rfl (lv_at hl 3 rfl) ?_
      refine lv_l2i (v := b2.toInt32) hx hb dX0_putMoved_31 rfl ?_
      refine k_i (k := 0) (n := 0) hA B (u_V (rest := []) X (c_X0_dayNumberMonthsOn l g N ad x sp dy la kn re hN j1 hj1 b2.toInt32 H.size) mw_X0_dayNumberMonthsOn md_X0_dayNumberMonthsOn rfl lk_X0_33 ⟨Nat.le_of_ble_eq_true rfl, Nat.le_of_ble_eq_true rfl⟩ hA hK hT B (pl_dy hN hj1) (cf_dy hj1) rfl rfl hl.1 rfl (Nat.le_of_ble_eq_true rfl) dX0_putMoved_32 ⟨Nat.le_of_ble_eq_true rfl, Nat.le_of_ble_eq_true rfl⟩) (Nat.le_of_ble_eq_true rfl) (Nat.le_of_ble_eq_true rfl) (fun r ad' f' H locs hw B => ?_)
      obtain ⟨rfl, rfl, rfl⟩ := hw
      refine lv_i2l (v := (v_X0_dayNumberMonthsOn dy j1 b2.toInt32).toInt64) hx hb dX0_putMoved_35 rfl ?_
      refine lv_lload hx hb dX0_putMoved_36 (lv_at hl 4 rfl) ?_
      refine lv_ladd hx hb dX0_putMoved_38 ?_
      refine lv_lstore (lv' := [(8, .long (((v_X0_dayNumberMonthsOn dy j1 b2.toInt32).toInt64) + b3)), (6, .long (((v_X0_monthPlace dy j1).toInt64) + b2)), (0, .ref (ad (18 + j0))), (1, .ref (ad (18 + j1))), (2, .long b2), (4, .long b3)]) hx hb dX0_putMoved_39 hl (by decide) rfl (fun ls hl => ?_)
      refine lv_lload hx hb dX0_putMoved_41 (lv_at hl 0 rfl) ?_
      refine lv_ldc2 hx hb hown (hts _ (List.mem_cons_of_mem _ lk_X0_37)) dX0_putMoved_43 ?_
      refine W.lcmp hx hb dX0_putMoved_46 ?_
      refine lv_if_lt (tgt := 59) hx hb dX0_putMoved_47 (by decide) (fun c3 => ?_) (fun c3 => ?_)
      · refine lv_iconst (v := 0) hx hb dX0_putMoved_59 (by decide) ?_
        have ev := (show v_X0_putMoved dy j0 j1 b2 b3 = (0, dy) from by unfold v_X0_putMoved; rw [if_neg c1, if_pos c2, if_pos c3])
        exact rt_i X hr (ad, (cf g ad x sp dy la kn re)) B (PO_of B) ⟨rfl, by rw [ev], by rw [ev]⟩ rfl (Nat.le_of_ble_eq_true rfl) (Nat.le_of_ble_eq_true rfl) dX0_putMoved_60
      · refine lv_lload hx hb dX0_putMoved_50 (lv_at hl 0 rfl) ?_
        refine lv_ldc2 hx hb hown (hts _ (List.mem_cons_of_mem _ lk_X0_39)) dX0_putMoved_52 ?_
        refine W.lcmp hx hb dX0_putMoved_55 ?_
        refine lv_if_le (tgt := 61) hx hb dX0_putMoved_56 (by decide) (fun c4 => ?_) (fun c4 => ?_)
        · refine lv_aload_n hx hb dX0_putMoved_61 rfl (lv_at hl 2 rfl) ?_
          refine lv_lload hx hb dX0_putMoved_62 (lv_at hl 0 rfl) ?_
          refine lv_l2i (v := (((v_X0_dayNumberMonthsOn dy j1 b2.toInt32).toInt64) + b3).toInt32) hx hb dX0_putMoved_64 rfl ?_
          refine k_v (k := 0) (n := 0) hA B (u_V (rest := []) X (c_X0_putDayNumber l g N ad x sp dy la kn re hN j0 hj0 ((((v_X0_dayNumberMonthsOn dy j1 b2.toInt32).toInt64) + b3).toInt32) H.size) mw_X0_putDayNumber md_X0_putDayNumber rfl lk_X0_41 ⟨Nat.le_of_ble_eq_true rfl, Nat.le_of_ble_eq_true rfl⟩ hA hK hT B (pl_dy hN hj0) (cf_dy hj0) rfl rfl hl.1 rfl (Nat.le_of_ble_eq_true rfl) dX0_putMoved_65 ⟨Nat.le_of_ble_eq_true rfl, Nat.le_of_ble_eq_true rfl⟩) (Nat.le_of_ble_eq_true rfl) (Nat.le_of_ble_eq_true rfl) (fun ad' f' H locs hw B => ?_)
          obtain ⟨rfl, rfl⟩ := hw
          refine lv_iconst (v := 1) hx hb dX0_putMoved_68 (by decide) ?_
          have ev := (show v_X0_putMoved dy j0 j1 b2 b3 = (1, (v_X0_putDayNumber dy j0 ((((v_X0_dayNumberMonthsOn dy j1 b2.toInt32).toInt64) + b3).toInt32))) from by unfold v_X0_putMoved; rw [if_neg c1, if_pos c2, if_neg c3, if_pos c4])
          exact rt_i X hr (ad, (cf g ad x sp (v_X0_putDayNumber dy j0 ((((v_X0_dayNumberMonthsOn dy j1 b2.toInt32).toInt64) + b3).toInt32)) la kn re)) B (PO_of B) ⟨rfl, by rw [ev], by rw [ev]⟩ rfl (Nat.le_of_ble_eq_true rfl) (Nat.le_of_ble_eq_true rfl) dX0_putMoved_69
        · refine lv_iconst (v := 0) hx hb dX0_putMoved_59 (by decide) ?_
          have ev := (show v_X0_putMoved dy j0 j1 b2 b3 = (0, dy) from by unfold v_X0_putMoved; rw [if_neg c1, if_pos c2, if_neg c3, if_neg c4])
          exact rt_i X hr (ad, (cf g ad x sp dy la kn re)) B (PO_of B) ⟨rfl, by rw [ev], by rw [ev]⟩ rfl (Nat.le_of_ble_eq_true rfl) (Nat.le_of_ble_eq_true rfl) dX0_putMoved_60
    · refine lv_iconst (v := 0) hx hb dX0_putMoved_27 (by decide) ?_
      have ev := (show v_X0_putMoved dy j0 j1 b2 b3 = (0, dy) from by unfold v_X0_putMoved; rw [if_neg c1, if_neg c2])
      exact rt_i X hr (ad, (cf g ad x sp dy la kn re)) B (PO_of B) ⟨rfl, by rw [ev], by rw [ev]⟩ rfl (Nat.le_of_ble_eq_true rfl) (Nat.le_of_ble_eq_true rfl) dX0_putMoved_28
def v_X0_signs (dy : Nat → TR) (j0 : Nat) : Int32 := (((v_X2_signsOf (dy j0).1) + (v_X2_signsOf (dy j0).2.1)) + (v_X2_signsOf (dy j0).2.2)) + 2
set_option maxHeartbeats 4000000 in
set_option maxRecDepth 100000 in
theorem c_X0_signs (l : Launch) (g : GG) (N : Nat) (ad : Nat → Nat) (x : Nat → va_E) (sp dy : Nat → TR) (la kn re : Int32) (hN : 23 ≤ N) (j0 : Nat) (hj0 : j0 < 5) : KI l yX0_signs cX0_signs 1 (some .int) (rm 1 0 0) g [.ref (ad (18 + j0))] N ad (cf g ad x sp dy la kn re) N (fun r ad' f' => ad = ad' ∧ (v_X0_signs dy j0) = r ∧ (cf g ad x sp dy la kn re) = f') := by
  intro sz
  refine mt_start (by decide) (Nat.le_of_ble_eq_true rfl) ?_
  intro p e s m args below meth c hsz X hr hnam hA hK hT H locs B ls hl
  obtain ⟨hx, hb, hml, hown, hts, hlocks⟩ := id X
  have hl : lv_has ls 1 [(0, .ref (ad (18 + j0)))] := hl
  refine lv_aload_n hx hb dX0_signs_0 rfl (lv_at hl 0 rfl) ?_
  refine g_get (q := (18 + j0)) (k := 0) X hK B rfl in_X0 (pl_dy hN hj0) (cf_dy hj0) (by decide) lk_X0_9 rfl rfl dX0_signs_1 ?_
  refine k_i (k := 0) (n := 0) hA B (u_SN (rest := []) X (c_X2_signsOf l g N ad x sp dy la kn re hN (dy j0).1 H.size) mw_X2_signsOf md_X2_signsOf rfl lk_X0_77 ⟨Nat.le_of_ble_eq_true rfl, Nat.le_of_ble_eq_true rfl⟩ hA hK hT B hl.1 rfl (Nat.le_of_ble_eq_true rfl) dX0_signs_4 ⟨Nat.le_of_ble_eq_true rfl, Nat.le_of_ble_eq_true rfl⟩) (Nat.le_of_ble_eq_true rfl) (Nat.le_of_ble_eq_true rfl) (fun r ad' f' H locs hw B => ?_)
  obtain ⟨rfl, rfl, rfl⟩ := hw
  refine lv_aload_n hx hb dX0_signs_7 rfl (lv_at hl 0 rfl) ?_
  refine g_get (q := (18 + j0)) (k := 1) X hK B rfl in_X0 (pl_dy hN hj0) (cf_dy hj0) (by decide) lk_X0_15 rfl rfl dX0_signs_8 ?_
  refine k_i (k := 0) (n := 0) hA B (u_SN (rest := [.int (v_X2_signsOf (dy j0).1)]) X (c_X2_signsOf l g N ad x sp dy la kn re hN (dy j0).2.1 H.size) mw_X2_signsOf md_X2_signsOf rfl lk_X0_77 ⟨Nat.le_of_ble_eq_true rfl, Nat.le_of_ble_eq_true rfl⟩ hA hK hT B hl.1 rfl (Nat.le_of_ble_eq_true rfl) dX0_signs_11 ⟨Nat.le_of_ble_eq_true rfl, Nat.le_of_ble_eq_true rfl⟩) (Nat.le_of_ble_eq_true rfl) (Nat.le_of_ble_eq_true rfl) (fun r ad' f' H locs hw B => ?_)
  obtain ⟨rfl, rfl, rfl⟩ := hw
  refine lv_iadd hx hb dX0_signs_14 ?_
  refine lv_aload_n hx hb dX0_signs_15 rfl (lv_at hl 0 rfl) ?_
  refine g_get (q := (18 + j0)) (k := 2) X hK B rfl in_X0 (pl_dy hN hj0) (cf_dy hj0) (by decide) lk_X0_18 rfl rfl dX0_signs_16 ?_
  refine k_i (k := 0) (n := 0) hA B (u_SN (rest := [.int ((v_X2_signsOf (dy j0).1) + (v_X2_signsOf (dy j0).2.1))]) X (c_X2_signsOf l g N ad x sp dy la kn re hN (dy j0).2.2 H.size) mw_X2_signsOf md_X2_signsOf rfl lk_X0_77 ⟨Nat.le_of_ble_eq_true rfl, Nat.le_of_ble_eq_true rfl⟩ hA hK hT B hl.1 rfl (Nat.le_of_ble_eq_true rfl) dX0_signs_19 ⟨Nat.le_of_ble_eq_true rfl, Nat.le_of_ble_eq_true rfl⟩) (Nat.le_of_ble_eq_true rfl) (Nat.le_of_ble_eq_true rfl) (fun r ad' f' H locs hw B => ?_)
  obtain ⟨rfl, rfl, rfl⟩ := hw
  refine lv_iadd hx hb dX0_signs_22 ?_
  refine lv_iconst (v := 2) hx hb dX0_signs_23 (by decide) ?_
  refine lv_iadd hx hb dX0_signs_24 ?_
  have ev := (show v_X0_signs dy j0 = (((v_X2_signsOf (dy j0).1) + (v_X2_signsOf (dy j0).2.1)) + (v_X2_signsOf (dy j0).2.2)) + 2 from rfl)
  exact rt_i X hr (ad, (cf g ad x sp dy la kn re)) B (PO_of B) ⟨rfl, by rw [ev], rfl⟩ rfl (Nat.le_of_ble_eq_true rfl) (Nat.le_of_ble_eq_true rfl) dX0_signs_25
def v_X1_signs (sp : Nat → TR) (i0 : Nat) : Int32 := (((v_X2_signsOf (sp i0).1) + (v_X2_signsOf (sp i0).2.1)) + (v_X2_signsOf (sp i0).2.2)) + 5
set_option maxHeartbeats 4000000 in
set_option maxRecDepth 100000 in
theorem c_X1_signs (l : Launch) (g : GG) (N : Nat) (ad : Nat → Nat) (x : Nat → va_E) (sp dy : Nat → TR) (la kn re : Int32) (hN : 23 ≤ N) (i0 : Nat) (hi0 : i0 < 14) : KI l yX1_signs cX1_signs 1 (some .int) (rm 1 0 0) g [.ref (ad (4 + i0))] N ad (cf g ad x sp dy la kn re) N (fun r ad' f' => ad = ad' ∧ (v_X1_signs sp i0) = r ∧ (cf g ad x sp dy la kn re) = f') := by
  intro sz
  refine mt_start (by decide) (Nat.le_of_ble_eq_true rfl) ?_
  intro p e s m args below meth c hsz X hr hnam hA hK hT H locs B ls hl
  obtain ⟨hx, hb, hml, hown, hts, hlocks⟩ := id X
  have hl : lv_has ls 1 [(0, .ref (ad (4 + i0)))] := hl
  refine lv_aload_n hx hb dX1_signs_0 rfl (lv_at hl 0 rfl) ?_
  refine g_get (q := (4 + i0)) (k := 0) X hK B rfl in_X1 (pl_sp hN hi0) (cf_sp hi0) (by decide) lk_X1_13 rfl rfl dX1_signs_1 ?_
  refine k_i (k := 0) (n := 0) hA B (u_SN (rest := []) X (c_X2_signsOf l g N ad x sp dy la kn re hN (sp i0).1 H.size) mw_X2_signsOf md_X2_signsOf rfl lk_X1_82 ⟨Nat.le_of_ble_eq_true rfl, Nat.le_of_ble_eq_true rfl⟩ hA hK hT B hl.1 rfl (Nat.le_of_ble_eq_true rfl) dX1_signs_4 ⟨Nat.le_of_ble_eq_true rfl, Nat.le_of_ble_eq_true rfl⟩) (Nat.le_of_ble_eq_true rfl) (Nat.le_of_ble_eq_true rfl) (fun r ad' f' H locs hw B => ?_)
  obtain ⟨rfl, rfl, rfl⟩ := hw
  refine lv_aload_n hx hb dX1_signs_7 rfl (lv_at hl 0 rfl) ?_
  refine g_get (q := (4 + i0)) (k := 1) X hK B rfl in_X1 (pl_sp hN hi0) (cf_sp hi0) (by decide) lk_X1_19 rfl rfl dX1_signs_8 ?_
  refine k_i (k := 0) (n := 0) hA B (u_SN (rest := [.int (v_X2_signsOf (sp i0).1)]) X (c_X2_signsOf l g N ad x sp dy la kn re hN (sp i0).2.1 H.size) mw_X2_signsOf md_X2_signsOf rfl lk_X1_82 ⟨Nat.le_of_ble_eq_true rfl, Nat.le_of_ble_eq_true rfl⟩ hA hK hT B hl.1 rfl (Nat.le_of_ble_eq_true rfl) dX1_signs_11 ⟨Nat.le_of_ble_eq_true rfl, Nat.le_of_ble_eq_true rfl⟩) (Nat.le_of_ble_eq_true rfl) (Nat.le_of_ble_eq_true rfl) (fun r ad' f' H locs hw B => ?_)
  obtain ⟨rfl, rfl, rfl⟩ := hw
  refine lv_iadd hx hb dX1_signs_14 ?_
  refine lv_aload_n hx hb dX1_signs_15 rfl (lv_at hl 0 rfl) ?_
  refine g_get (q := (4 + i0)) (k := 2) X hK B rfl in_X1 (pl_sp hN hi0) (cf_sp hi0) (by decide) lk_X1_22 rfl rfl dX1_signs_16 ?_
  refine k_i (k := 0) (n := 0) hA B (u_SN (rest := [.int ((v_X2_signsOf (sp i0).1) + (v_X2_signsOf (sp i0).2.1))]) X (c_X2_signsOf l g N ad x sp dy la kn re hN (sp i0).2.2 H.size) mw_X2_signsOf md_X2_signsOf rfl lk_X1_82 ⟨Nat.le_of_ble_eq_true rfl, Nat.le_of_ble_eq_true rfl⟩ hA hK hT B hl.1 rfl (Nat.le_of_ble_eq_true rfl) dX1_signs_19 ⟨Nat.le_of_ble_eq_true rfl, Nat.le_of_ble_eq_true rfl⟩) (Nat.le_of_ble_eq_true rfl) (Nat.le_of_ble_eq_true rfl) (fun r ad' f' H locs hw B => ?_)
  obtain ⟨rfl, rfl, rfl⟩ := hw
  refine lv_iadd hx hb dX1_signs_22 ?_
  refine lv_iconst (v := 5) hx hb dX1_signs_23 (by decide) ?_
  refine lv_iadd hx hb dX1_signs_24 ?_
  have ev := (show v_X1_signs sp i0 = (((v_X2_signsOf (sp i0).1) + (v_X2_signsOf (sp i0).2.1)) + (v_X2_signsOf (sp i0).2.2)) + 5 from rfl)
  exact rt_i X hr (ad, (cf g ad x sp dy la kn re)) B (PO_of B) ⟨rfl, by rw [ev], rfl⟩ rfl (Nat.le_of_ble_eq_true rfl) (Nat.le_of_ble_eq_true rfl) dX1_signs_25
def v_X1_putBetween (sp : Nat → TR) (dy : Nat → TR) (i0 : Nat) (j1 : Nat) (j2 : Nat) : Int32 × (Nat → TR) := if (v_X0_orderTo dy j2 j1) < 0 then (if (dy j1).2.2 ≤ 28 then (if (dy j2).2.2 ≤ (dy j1).2.2 then ((v_X1_put sp i0 (((((v_X0_monthPlace dy j2) - (v_X0_monthPlace dy j1)) + 0) / 12).toInt64) (((((v_X0_monthPlace dy j2) - (v_X0_monthPlace dy j1)) + 0) - (((v_X0_monthPlace dy j2) - (v_X0_monthPlace dy j1)) + 0) / 12 * 12).toInt64) (((v_X0_dayNumber dy j2) - (v_X0_dayNumberMonthsOn dy j1 (((v_X0_monthPlace dy j2) - (v_X0_monthPlace dy j1)) + 0))).toInt64)).1, (v_X1_put sp i0 (((((v_X0_monthPlace dy j2) - (v_X0_monthPlace dy j1)) + 0) / 12).toInt64) (((((v_X0_monthPlace dy j2) - (v_X0_monthPlace dy j1)) + 0) - (((v_X0_monthPlace dy j2) - (v_X0_monthPlace dy j1)) + 0) / 12 * 12).toInt64) (((v_X0_dayNumber dy j2) - (v_X0_dayNumberMonthsOn dy j1 (((v_X0_monthPlace dy j2) - (v_X0_monthPlace dy j1)) + 0))).toInt64)).2) else (if 0 ≤ ((v_X0_monthPlace dy j2) - (v_X0_monthPlace dy j1)) then ((v_X1_put sp i0 (((((v_X0_monthPlace dy j2) - (v_X0_monthPlace dy j1)) + 0) / 12).toInt64) (((((v_X0_monthPlace dy j2) - (v_X0_monthPlace dy j1)) + 0) - (((v_X0_monthPlace dy j2) - (v_X0_monthPlace dy j1)) + 0) / 12 * 12).toInt64) (((v_X0_dayNumber dy j2) - (v_X0_dayNumberMonthsOn dy j1 (((v_X0_monthPlace dy j2) - (v_X0_monthPlace dy j1)) + 0))).toInt64)).1, (v_X1_put sp i0 (((((v_X0_monthPlace dy j2) - (v_X0_monthPlace dy j1)) + 0) / 12).toInt64) (((((v_X0_monthPlace dy j2) - (v_X0_monthPlace dy j1)) + 0) - (((v_X0_monthPlace dy j2) - (v_X0_monthPlace dy j1)) + 0) / 12 * 12).toInt64) (((v_X0_dayNumber dy j2) - (v_X0_dayNumberMonthsOn dy j1 (((v_X0_monthPlace dy j2) - (v_X0_monthPlace dy j1)) + 0))).toInt64)).2) else ((v_X1_put sp i0 (((((v_X0_monthPlace dy j2) - (v_X0_monthPlace dy j1)) + 1) / 12).toInt64) (((((v_X0_monthPlace dy j2) - (v_X0_monthPlace dy j1)) + 1) - (((v_X0_monthPlace dy j2) - (v_X0_monthPlace dy j1)) + 1) / 12 * 12).toInt64) (((v_X0_dayNumber dy j2) - (v_X0_dayNumberMonthsOn dy j1 (((v_X0_monthPlace dy j2) - (v_X0_monthPlace dy j1)) + 1))).toInt64)).1, (v_X1_put sp i0 (((((v_X0_monthPlace dy j2) - (v_X0_monthPlace dy j1)) + 1) / 12).toInt64) (((((v_X0_monthPlace dy j2) - (v_X0_monthPlace dy j1)) + 1) - (((v_X0_monthPlace dy j2) - (v_X0_monthPlace dy j1)) + 1) / 12 * 12).toInt64) (((v_X0_dayNumber dy j2) - (v_X0_dayNumberMonthsOn dy j1 (((v_X0_monthPlace dy j2) - (v_X0_monthPlace dy j1)) + 1))).toInt64)).2))) else (0, sp)) else (if (dy j1).2.2 ≤ (dy j2).2.2 then ((v_X1_put sp i0 (((((v_X0_monthPlace dy j2) - (v_X0_monthPlace dy j1)) - 0) / 12).toInt64) (((((v_X0_monthPlace dy j2) - (v_X0_monthPlace dy j1)) - 0) - (((v_X0_monthPlace dy j2) - (v_X0_monthPlace dy j1)) - 0) / 12 * 12).toInt64) (((v_X0_dayNumber dy j2) - (v_X0_dayNumberMonthsOn dy j1 (((v_X0_monthPlace dy j2) - (v_X0_monthPlace dy j1)) - 0))).toInt64)).1, (v_X1_put sp i0 (((((v_X0_monthPlace dy j2) - (v_X0_monthPlace dy j1)) - 0) / 12).toInt64) (((((v_X0_monthPlace dy j2) - (v_X0_monthPlace dy j1)) - 0) - (((v_X0_monthPlace dy j2) - (v_X0_monthPlace dy j1)) - 0) / 12 * 12).toInt64) (((v_X0_dayNumber dy j2) - (v_X0_dayNumberMonthsOn dy j1 (((v_X0_monthPlace dy j2) - (v_X0_monthPlace dy j1)) - 0))).toInt64)).2) else ((v_X1_put sp i0 (((((v_X0_monthPlace dy j2) - (v_X0_monthPlace dy j1)) - 1) / 12).toInt64) (((((v_X0_monthPlace dy j2) - (v_X0_monthPlace dy j1)) - 1) - (((v_X0_monthPlace dy j2) - (v_X0_monthPlace dy j1)) - 1) / 12 * 12).toInt64) (((v_X0_dayNumber dy j2) - (v_X0_dayNumberMonthsOn dy j1 (((v_X0_monthPlace dy j2) - (v_X0_monthPlace dy j1)) - 1))).toInt64)).1, (v_X1_put sp i0 (((((v_X0_monthPlace dy j2) - (v_X0_monthPlace dy j1)) - 1) / 12).toInt64) (((((v_X0_monthPlace dy j2) - (v_X0_monthPlace dy j1)) - 1) - (((v_X0_monthPlace dy j2) - (v_X0_monthPlace dy j1)) - 1) / 12 * 12).toInt64) (((v_X0_dayNumber dy j2) - (v_X0_dayNumberMonthsOn dy j1 (((v_X0_monthPlace dy j2) - (v_X0_monthPlace dy j1)) - 1))).toInt64)).2))
theorem kp_X1_putBetween_sp {sp : Nat → TR} {dy : Nat → TR} {i0 : Nat} {j1 : Nat} {j2 : Nat} {j : Nat} (h : j ≠ i0) : (v_X1_putBetween sp dy i0 j1 j2).2 j = sp j := by
  unfold v_X1_putBetween
  by_cases q1 : (v_X0_orderTo dy j2 j1) < 0
  · rw [if_pos q1]
    by_cases q2 : (dy j1).2.2 ≤ 28
    · rw [if_pos q2]
      by_cases q3 : (dy j2).2.2 ≤ (dy j1).2.2
      · rw [if_pos q3]
        first | (dsimp only; exact kp_X1_put_sp h) | exact kp_X1_put_sp h
      · rw [if_neg q3]
        by_cases q4 : 0 ≤ ((v_X0_monthPlace dy j2) - (v_X0_monthPlace dy j1))
        · rw [if_pos q4]
          first | (dsimp only; exact kp_X1_put_sp h) | exact kp_X1_put_sp h
        · rw [if_neg q4]
          first | (dsimp only; exact kp_X1_put_sp h) | exact kp_X1_put_sp h
    · rw [if_neg q2]
      all_goals rfl
  · rw [if_neg q1]
    by_cases q5 : (dy j1).2.2 ≤ (dy j2).2.2
    · rw [if_pos q5]
      first | (dsimp only; exact kp_X1_put_sp h) | exact kp_X1_put_sp h
    · rw [if_neg q5]
      first | (dsimp only; exact kp_X1_put_sp h) | exact kp_X1_put_sp h
theorem b01_X1_putBetween {sp : Nat → TR} {dy : Nat → TR} {i0 : Nat} {j1 : Nat} {j2 : Nat} : (v_X1_putBetween sp dy i0 j1 j2).1 = 0 ∨ (v_X1_putBetween sp dy i0 j1 j2).1 = 1 := by
  unfold v_X1_putBetween
  by_cases q1 : (v_X0_orderTo dy j2 j1) < 0
  · rw [if_pos q1]
    by_cases q2 : (dy j1).2.2 ≤ 28
    · rw [if_pos q2]
      by_cases q3 : (dy j2).2.2 ≤ (dy j1).2.2
      · rw [if_pos q3]
        first | (dsimp only; exact b01_X1_put) | exact b01_X1_put
      · rw [if_neg q3]
        by_cases q4 : 0 ≤ ((v_X0_monthPlace dy j2) - (v_X0_monthPlace dy j1))
        · rw [if_pos q4]
          first | (dsimp only; exact b01_X1_put) | exact b01_X1_put
        · rw [if_neg q4]
          first | (dsimp only; exact b01_X1_put) | exact b01_X1_put
    · rw [if_neg q2]
      exact Or.inl rfl
  · rw [if_neg q1]
    by_cases q5 : (dy j1).2.2 ≤ (dy j2).2.2
    · rw [if_pos q5]
      first | (dsimp only; exact b01_X1_put) | exact b01_X1_put
    · rw [if_neg q5]
      first | (dsimp only; exact b01_X1_put) | exact b01_X1_put
set_option maxHeartbeats 4000000 in
set_option maxRecDepth 100000 in
theorem c_X1_putBetween (l : Launch) (g : GG) (N : Nat) (ad : Nat → Nat) (x : Nat → va_E) (sp dy : Nat → TR) (la kn re : Int32) (hN : 23 ≤ N) (i0 : Nat) (hi0 : i0 < 14) (j1 : Nat) (hj1 : j1 < 5) (j2 : Nat) (hj2 : j2 < 5) : KI l yX1_putBetween cX1_putBetween 5 (some .boolean) (rm 4 0 0) g [.ref (ad (4 + i0)), .ref (ad (18 + j1)), .ref (ad (18 + j2))] N ad (cf g ad x sp dy la kn re) N (fun r ad' f' => ad = ad' ∧ (v_X1_putBetween sp dy i0 j1 j2).1 = r ∧ (cf g ad x (v_X1_putBetween sp dy i0 j1 j2).2 dy la kn re) = f') := by
  intro sz
  refine mt_start (by decide) (Nat.le_of_ble_eq_true rfl) ?_
  intro p e s m args below meth c hsz X hr hnam hA hK hT H locs B ls hl
  obtain ⟨hx, hb, hml, hown, hts, hlocks⟩ := id X
  have hl : lv_has ls 5 [(0, .ref (ad (4 + i0))), (1, .ref (ad (18 + j1))), (2, .ref (ad (18 + j2)))] := hl
  refine lv_aload_n hx hb dX1_putBetween_0 rfl (lv_at hl 2 rfl) ?_
  refine k_i (k := 0) (n := 0) hA B (u_VN (rest := []) X (c_X0_monthPlace l g N ad x sp dy la kn re hN j2 hj2 H.size) mw_X0_monthPlace md_X0_monthPlace rfl lk_X1_41 ⟨Nat.le_of_ble_eq_true rfl, Nat.le_of_ble_eq_true rfl⟩ hA hK hT B (pl_dy hN hj2) (cf_dy hj2) rfl rfl hl.1 rfl (Nat.le_of_ble_eq_true rfl) dX1_putBetween_1 ⟨Nat.le_of_ble_eq_true rfl, Nat.le_of_ble_eq_true rfl⟩) (Nat.le_of_ble_eq_true rfl) (Nat.le_of_ble_eq_true rfl) (fun r ad' f' H locs hw B => ?_)
  obtain ⟨rfl, rfl, rfl⟩ := hw
  refine lv_aload_n hx hb dX1_putBetween_4 rfl (lv_at hl 1 rfl) ?_
  refine k_i (k := 0) (n := 0) hA B (u_VN (rest := [.int (v_X0_monthPlace dy j2)]) X (c_X0_monthPlace l g N ad x sp dy la kn re hN j1 hj1 H.size) mw_X0_monthPlace md_X0_monthPlace rfl lk_X1_41 ⟨Nat.le_of_ble_eq_true rfl, Nat.le_of_ble_eq_true rfl⟩ hA hK hT B (pl_dy hN hj1) (cf_dy hj1) rfl rfl hl.1 rfl (Nat.le_of_ble_eq_true rfl) dX1_putBetween_5 ⟨Nat.le_of_ble_eq_true rfl, Nat.le_of_ble_eq_true rfl⟩) (Nat.le_of_ble_eq_true rfl) (Nat.le_of_ble_eq_true rfl) (fun r ad' f' H locs hw B => ?_)
  obtain ⟨rfl, rfl, rfl⟩ := hw
  refine lv_isub hx hb dX1_putBetween_8 ?_
  refine lv_istore_n (lv' := [(3, .int ((v_X0_monthPlace dy j2) - (v_X0_monthPlace dy j1))), (0, .ref (ad (4 + i0))), (1, .ref (ad (18 + j1))), (2, .ref (ad (18 + j2)))]) hx hb dX1_putBetween_9 rfl hl (by decide) rfl (fun ls hl => ?_)
  refine lv_aload_n hx hb dX1_putBetween_10 rfl (lv_at hl 3 rfl) ?_
  refine lv_aload_n hx hb dX1_putBetween_11 rfl (lv_at hl 2 rfl) ?_
  refine k_i (k := 0) (n := 0) hA B (u_VN (rest := []) X (c_X0_orderTo l g N ad x sp dy la kn re hN j2 hj2 j1 hj1 H.size) mw_X0_orderTo md_X0_orderTo rfl lk_X1_47 ⟨Nat.le_of_ble_eq_true rfl, Nat.le_of_ble_eq_true rfl⟩ hA hK hT B (pl_dy hN hj2) (cf_dy hj2) rfl rfl hl.1 rfl (Nat.le_of_ble_eq_true rfl) dX1_putBetween_12 ⟨Nat.le_of_ble_eq_true rfl, Nat.le_of_ble_eq_true rfl⟩) (Nat.le_of_ble_eq_true rfl) (Nat.le_of_ble_eq_true rfl) (fun r ad' f' H locs hw B => ?_)
  obtain ⟨rfl, rfl, rfl⟩ := hw
  refine lv_if_lt (tgt := 40) hx hb dX1_putBetween_15 (by decide) (fun c1 => ?_) (fun c1 => ?_)
  · refine lv_aload_n hx hb dX1_putBetween_40 rfl (lv_at hl 2 rfl) ?_
    refine g_getN (q := (18 + j1)) (k := 2) X hK hT B rfl in_X0 (pl_dy hN hj1) (cf_dy hj1) (by decide) lk_X1_51 rfl rfl dX1_putBetween_41 ?_
    refine lv_bipush (v := 28) hx hb dX1_putBetween_44 (by decide) ?_
    refine lv_icmp_le (tgt := 51) hx hb dX1_putBetween_46 (by decide) (fun c2 => ?_) (fun c2 => ?_)
    · refine lv_iload_n hx hb dX1_putBetween_51 rfl (lv_at hl 0 rfl) ?_
      refine lv_aload_n hx hb dX1_putBetween_52 rfl (lv_at hl 3 rfl) ?_
      refine g_getN (q := (18 + j2)) (k := 2) X hK hT B rfl in_X0 (pl_dy hN hj2) (cf_dy hj2) (by decide) lk_X1_51 rfl rfl dX1_putBetween_53 ?_
      refine lv_aload_n hx hb dX1_putBetween_56 rfl (lv_at hl 2 rfl) ?_
      refine g_getN (q := (18 + j1)) (k := 2) X hK hT B rfl in_X0 (pl_dy hN hj1) (cf_dy hj1) (by decide) lk_X1_51 rfl rfl dX1_putBetween_57 ?_
      refine lv_icmp_le (tgt := 71) hx hb dX1_putBetween_60 (by decide) (fun c3 => ?_) (fun c3 => ?_)
      · refine lv_iconst (v := 0) hx hb dX1_putBetween_71 (by decide) ?_
        refine lv_iadd hx hb dX1_putBetween_72 ?_
        refine lv_istore_n (lv' := [(3, .int (((v_X0_monthPlace dy j2) - (v_X0_monthPlace dy j1)) + 0)), (0, .ref (ad (4 + i0))), (1, .ref (ad (18 + j1))), (2, .ref (ad (18 + j2)))]) hx hb dX1_putBetween_73 rfl hl (by decide) rfl (fun ls hl => ?_)
        refine lv_aload_n hx hb dX1_putBetween_74 rfl (lv_at hl 3 rfl) ?_
        refine k_i (k := 0) (n := 0) hA B (u_VN (rest := []) X (c_X0_dayNumber l g N ad x sp dy la kn re hN j2 hj2 H.size) mw_X0_dayNumber md_X0_dayNumber rfl lk_X1_54 ⟨Nat.le_of_ble_eq_true rfl, Nat.le_of_ble_eq_true rfl⟩ hA hK hT B (pl_dy hN hj2) (cf_dy hj2) rfl rfl hl.1 rfl (Nat.le_of_ble_eq_true rfl) dX1_putBetween_75 ⟨Nat.le_of_ble_eq_true rfl, Nat.le_of_ble_eq_true rfl⟩) (Nat.le_of_ble_eq_true rfl) (Nat.le_of_ble_eq_true rfl) (fun r ad' f' H locs hw B => ?_)
        obtain ⟨rfl, rfl, rfl⟩ := hw
        refine lv_aload_n hx hb dX1_putBetween_78 rfl (lv_at hl 2 rfl) ?_
        refine lv_iload_n hx hb dX1_putBetween_79 rfl (lv_at hl 0 rfl) ?_
        refine k_i (k := 0) (n := 0) hA B (u_VN (rest := [.int (v_X0_dayNumber dy j2)]) X (c_X0_dayNumberMonthsOn l g N ad x sp dy la kn re hN j1 hj1 (((v_X0_monthPlace dy j2) - (v_X0_monthPlace dy j1)) + 0) H.size) mw_X0_dayNumberMonthsOn md_X0_dayNumberMonthsOn rfl lk_X1_57 ⟨Nat.le_of_ble_eq_true rfl, Nat.le_of_ble_eq_true rfl⟩ hA hK hT B (pl_dy hN hj1) (cf_dy hj1) rfl rfl hl.1 rfl (Nat.le_of_ble_eq_true rfl) dX1_putBetween_80 ⟨Nat.le_of_ble_eq_true rfl, Nat.le_of_ble_eq_true rfl⟩) (Nat.le_of_ble_eq_true rfl) (Nat.le_of_ble_eq_true rfl) (fun r ad' f' H locs hw B => ?_)
        obtain ⟨rfl, rfl, rfl⟩ := hw
        refine lv_isub hx hb dX1_putBetween_83 ?_
        refine lv_istore (lv' := [(4, .int ((v_X0_dayNumber dy j2) - (v_X0_dayNumberMonthsOn dy j1 (((v_X0_monthPlace dy j2) - (v_X0_monthPlace dy j1)) + 0)))), (3, .int (((v_X0_monthPlace dy j2) - (v_X0_monthPlace dy j1)) + 0)), (0, .ref (ad (4 + i0))), (1, .ref (ad (18 + j1))), (2, .ref (ad (18 + j2)))]) hx hb dX1_putBetween_84 hl (by decide) rfl (fun ls hl => ?_)
        refine lv_aload_n hx hb dX1_putBetween_86 rfl (lv_at hl 2 rfl) ?_
        refine lv_iload_n hx hb dX1_putBetween_87 rfl (lv_at hl 1 rfl) ?_
        refine lv_bipush (v := 12) hx hb dX1_putBetween_88 (by decide) ?_
        refine lv_idiv hx hb dX1_putBetween_90 (by decide) ?_
        refine lv_i2l (v := ((((v_X0_monthPlace dy j2) - (v_X0_monthPlace dy j1)) + 0) / 12).toInt64) hx hb dX1_putBetween_91 rfl ?_
        refine lv_iload_n hx hb dX1_putBetween_92 rfl (lv_at hl 1 rfl) ?_
        refine lv_bipush (v := 12) hx hb dX1_putBetween_93 (by decide) ?_
        refine lv_irem hx hb dX1_putBetween_95 (by decide) ?_
        refine lv_i2l (v := ((((v_X0_monthPlace dy j2) - (v_X0_monthPlace dy j1)) + 0) - (((v_X0_monthPlace dy j2) - (v_X0_monthPlace dy j1)) + 0) / 12 * 12).toInt64) hx hb dX1_putBetween_96 rfl ?_
        refine lv_iload hx hb dX1_putBetween_97 (lv_at hl 0 rfl) ?_
        refine lv_i2l (v := ((v_X0_dayNumber dy j2) - (v_X0_dayNumberMonthsOn dy j1 (((v_X0_monthPlace dy j2) - (v_X0_monthPlace dy j1)) + 0))).toInt64) hx hb dX1_putBetween_99 rfl ?_
        refine k_i (k := 0) (n := 0) hA B (u_V (rest := []) X (c_X1_put l g N ad x sp dy la kn re hN i0 hi0 (((((v_X0_monthPlace dy j2) - (v_X0_monthPlace dy j1)) + 0) / 12).toInt64) (((((v_X0_monthPlace dy j2) - (v_X0_monthPlace dy j1)) + 0) - (((v_X0_monthPlace dy j2) - (v_X0_monthPlace dy j1)) + 0) / 12 * 12).toInt64) (((v_X0_dayNumber dy j2) - (v_X0_dayNumberMonthsOn dy j1 (((v_X0_monthPlace dy j2) - (v_X0_monthPlace dy j1)) + 0))).toInt64) H.size) mw_X1_put md_X1_put rfl lk_X1_25 ⟨Nat.le_of_ble_eq_true rfl, Nat.le_of_ble_eq_true rfl⟩ hA hK hT B (pl_sp hN hi0) (cf_sp hi0) rfl rfl hl.1 rfl (Nat.le_of_ble_eq_true rfl) dX1_putBetween_100 ⟨Nat.le_of_ble_eq_true rfl, Nat.le_of_ble_eq_true rfl⟩) (Nat.le_of_ble_eq_true rfl) (Nat.le_of_ble_eq_true rfl) (fun r ad' f' H locs hw B => ?_)
        obtain ⟨rfl, rfl, rfl⟩ := hw
        have ev := (show v_X1_putBetween sp dy i0 j1 j2 = ((v_X1_put sp i0 (((((v_X0_monthPlace dy j2) - (v_X0_monthPlace dy j1)) + 0) / 12).toInt64) (((((v_X0_monthPlace dy j2) - (v_X0_monthPlace dy j1)) + 0) - (((v_X0_monthPlace dy j2) - (v_X0_monthPlace dy j1)) + 0) / 12 * 12).toInt64) (((v_X0_dayNumber dy j2) - (v_X0_dayNumberMonthsOn dy j1 (((v_X0_monthPlace dy j2) - (v_X0_monthPlace dy j1)) + 0))).toInt64)).1, (v_X1_put sp i0 (((((v_X0_monthPlace dy j2) - (v_X0_monthPlace dy j1)) + 0) / 12).toInt64) (((((v_X0_monthPlace dy j2) - (v_X0_monthPlace dy j1)) + 0) - (((v_X0_monthPlace dy j2) - (v_X0_monthPlace dy j1)) + 0) / 12 * 12).toInt64) (((v_X0_dayNumber dy j2) - (v_X0_dayNumberMonthsOn dy j1 (((v_X0_monthPlace dy j2) - (v_X0_monthPlace dy j1)) + 0))).toInt64)).2) from by unfold v_X1_putBetween; rw [if_pos c1, if_pos c2, if_pos c3])
        exact rt_i X hr (ad, (cf g ad x (v_X1_put sp i0 (((((v_X0_monthPlace dy j2) - (v_X0_monthPlace dy j1)) + 0) / 12).toInt64) (((((v_X0_monthPlace dy j2) - (v_X0_monthPlace dy j1)) + 0) - (((v_X0_monthPlace dy j2) - (v_X0_monthPlace dy j1)) + 0) / 12 * 12).toInt64) (((v_X0_dayNumber dy j2) - (v_X0_dayNumberMonthsOn dy j1 (((v_X0_monthPlace dy j2) - (v_X0_monthPlace dy j1)) + 0))).toInt64)).2 dy la kn re)) B (PO_of B) ⟨rfl, by rw [ev], by rw [ev]⟩ (nb_of b01_X1_put) (Nat.le_of_ble_eq_true rfl) (Nat.le_of_ble_eq_true rfl) dX1_putBetween_103
      · refine lv_iload_n hx hb dX1_putBetween_63 rfl (lv_at hl 0 rfl) ?_
        refine lv_if_ge (tgt := 71) hx hb dX1_putBetween_64 (by decide) (fun c4 => ?_) (fun c4 => ?_)
        · refine lv_iconst (v := 0) hx hb dX1_putBetween_71 (by decide) ?_
          refine lv_iadd hx hb dX1_putBetween_72 ?_
          refine lv_istore_n (lv' := [(3, .int (((v_X0_monthPlace dy j2) - (v_X0_monthPlace dy j1)) + 0)), (0, .ref (ad (4 + i0))), (1, .ref (ad (18 + j1))), (2, .ref (ad (18 + j2)))]) hx hb dX1_putBetween_73 rfl hl (by decide) rfl (fun ls hl => ?_)
          refine lv_aload_n hx hb dX1_putBetween_74 rfl (lv_at hl 3 rfl) ?_
          refine k_i (k := 0) (n := 0) hA B (u_VN (rest := []) X (c_X0_dayNumber l g N ad x sp dy la kn re hN j2 hj2 H.size) mw_X0_dayNumber md_X0_dayNumber rfl lk_X1_54 ⟨Nat.le_of_ble_eq_true rfl, Nat.le_of_ble_eq_true rfl⟩ hA hK hT B (pl_dy hN hj2) (cf_dy hj2) rfl rfl hl.1 rfl (Nat.le_of_ble_eq_true rfl) dX1_putBetween_75 ⟨Nat.le_of_ble_eq_true rfl, Nat.le_of_ble_eq_true rfl⟩) (Nat.le_of_ble_eq_true rfl) (Nat.le_of_ble_eq_true rfl) (fun r ad' f' H locs hw B => ?_)
          obtain ⟨rfl, rfl, rfl⟩ := hw
          refine lv_aload_n hx hb dX1_putBetween_78 rfl (lv_at hl 2 rfl) ?_
          refine lv_iload_n hx hb dX1_putBetween_79 rfl (lv_at hl 0 rfl) ?_
          refine k_i (k := 0) (n := 0) hA B (u_VN (rest := [.int (v_X0_dayNumber dy j2)]) X (c_X0_dayNumberMonthsOn l g N ad x sp dy la kn re hN j1 hj1 (((v_X0_monthPlace dy j2) - (v_X0_monthPlace dy j1)) + 0) H.size) mw_X0_dayNumberMonthsOn md_X0_dayNumberMonthsOn rfl lk_X1_57 ⟨Nat.le_of_ble_eq_true rfl, Nat.le_of_ble_eq_true rfl⟩ hA hK hT B (pl_dy hN hj1) (cf_dy hj1) rfl rfl hl.1 rfl (Nat.le_of_ble_eq_true rfl) dX1_putBetween_80 ⟨Nat.le_of_ble_eq_true rfl, Nat.le_of_ble_eq_true rfl⟩) (Nat.le_of_ble_eq_true rfl) (Nat.le_of_ble_eq_true rfl) (fun r ad' f' H locs hw B => ?_)
          obtain ⟨rfl, rfl, rfl⟩ := hw
          refine lv_isub hx hb dX1_putBetween_83 ?_
          refine lv_istore (lv' := [(4, .int ((v_X0_dayNumber dy j2) - (v_X0_dayNumberMonthsOn dy j1 (((v_X0_monthPlace dy j2) - (v_X0_monthPlace dy j1)) + 0)))), (3, .int (((v_X0_monthPlace dy j2) - (v_X0_monthPlace dy j1)) + 0)), (0, .ref (ad (4 + i0))), (1, .ref (ad (18 + j1))), (2, .ref (ad (18 + j2)))]) hx hb dX1_putBetween_84 hl (by decide) rfl (fun ls hl => ?_)
          refine lv_aload_n hx hb dX1_putBetween_86 rfl (lv_at hl 2 rfl) ?_
          refine lv_iload_n hx hb dX1_putBetween_87 rfl (lv_at hl 1 rfl) ?_
          refine lv_bipush (v := 12) hx hb dX1_putBetween_88 (by decide) ?_
          refine lv_idiv hx hb dX1_putBetween_90 (by decide) ?_
          refine lv_i2l (v := ((((v_X0_monthPlace dy j2) - (v_X0_monthPlace dy j1)) + 0) / 12).toInt64) hx hb dX1_putBetween_91 rfl ?_
          refine lv_iload_n hx hb dX1_putBetween_92 rfl (lv_at hl 1 rfl) ?_
          refine lv_bipush (v := 12) hx hb dX1_putBetween_93 (by decide) ?_
          refine lv_irem hx hb dX1_putBetween_95 (by decide) ?_
          refine lv_i2l (v := ((((v_X0_monthPlace dy j2) - (v_X0_monthPlace dy j1)) + 0) - (((v_X0_monthPlace dy j2) - (v_X0_monthPlace dy j1)) + 0) / 12 * 12).toInt64) hx hb dX1_putBetween_96 rfl ?_
          refine lv_iload hx hb dX1_putBetween_97 (lv_at hl 0 rfl) ?_
          refine lv_i2l (v := ((v_X0_dayNumber dy j2) - (v_X0_dayNumberMonthsOn dy j1 (((v_X0_monthPlace dy j2) - (v_X0_monthPlace dy j1)) + 0))).toInt64) hx hb dX1_putBetween_99 rfl ?_
          refine k_i (k := 0) (n := 0) hA B (u_V (rest := []) X (c_X1_put l g N ad x sp dy la kn re hN i0 hi0 (((((v_X0_monthPlace dy j2) - (v_X0_monthPlace dy j1)) + 0) / 12).toInt64) (((((v_X0_monthPlace dy j2) - (v_X0_monthPlace dy j1)) + 0) - (((v_X0_monthPlace dy j2) - (v_X0_monthPlace dy j1)) + 0) / 12 * 12).toInt64) (((v_X0_dayNumber dy j2) - (v_X0_dayNumberMonthsOn dy j1 (((v_X0_monthPlace dy j2) - (v_X0_monthPlace dy j1)) + 0))).toInt64) H.size) mw_X1_put md_X1_put rfl lk_X1_25 ⟨Nat.le_of_ble_eq_true rfl, Nat.le_of_ble_eq_true rfl⟩ hA hK hT B (pl_sp hN hi0) (cf_sp hi0) rfl rfl hl.1 rfl (Nat.le_of_ble_eq_true rfl) dX1_putBetween_100 ⟨Nat.le_of_ble_eq_true rfl, Nat.le_of_ble_eq_true rfl⟩) (Nat.le_of_ble_eq_true rfl) (Nat.le_of_ble_eq_true rfl) (fun r ad' f' H locs hw B => ?_)
          obtain ⟨rfl, rfl, rfl⟩ := hw
          have ev := (show v_X1_putBetween sp dy i0 j1 j2 = ((v_X1_put sp i0 (((((v_X0_monthPlace dy j2) - (v_X0_monthPlace dy j1)) + 0) / 12).toInt64) (((((v_X0_monthPlace dy j2) - (v_X0_monthPlace dy j1)) + 0) - (((v_X0_monthPlace dy j2) - (v_X0_monthPlace dy j1)) + 0) / 12 * 12).toInt64) (((v_X0_dayNumber dy j2) - (v_X0_dayNumberMonthsOn dy j1 (((v_X0_monthPlace dy j2) - (v_X0_monthPlace dy j1)) + 0))).toInt64)).1, (v_X1_put sp i0 (((((v_X0_monthPlace dy j2) - (v_X0_monthPlace dy j1)) + 0) / 12).toInt64) (((((v_X0_monthPlace dy j2) - (v_X0_monthPlace dy j1)) + 0) - (((v_X0_monthPlace dy j2) - (v_X0_monthPlace dy j1)) + 0) / 12 * 12).toInt64) (((v_X0_dayNumber dy j2) - (v_X0_dayNumberMonthsOn dy j1 (((v_X0_monthPlace dy j2) - (v_X0_monthPlace dy j1)) + 0))).toInt64)).2) from by unfold v_X1_putBetween; rw [if_pos c1, if_pos c2, if_neg c3, if_pos c4])
          exact rt_i X hr (ad, (cf g ad x (v_X1_put sp i0 (((((v_X0_monthPlace dy j2) - (v_X0_monthPlace dy j1)) + 0) / 12).toInt64) (((((v_X0_monthPlace dy j2) - (v_X0_monthPlace dy j1)) + 0) - (((v_X0_monthPlace dy j2) - (v_X0_monthPlace dy j1)) + 0) / 12 * 12).toInt64) (((v_X0_dayNumber dy j2) - (v_X0_dayNumberMonthsOn dy j1 (((v_X0_monthPlace dy j2) - (v_X0_monthPlace dy j1)) + 0))).toInt64)).2 dy la kn re)) B (PO_of B) ⟨rfl, by rw [ev], by rw [ev]⟩ (nb_of b01_X1_put) (Nat.le_of_ble_eq_true rfl) (Nat.le_of_ble_eq_true rfl) dX1_putBetween_103
        · refine lv_iconst (v := 1) hx hb dX1_putBetween_67 (by decide) ?_
          refine lv_goto (tgt := 72) hx hb dX1_putBetween_68 (by decide) ?_
          refine lv_iadd hx hb dX1_putBetween_72 ?_
          refine lv_istore_n (lv' := [(3, .int (((v_X0_monthPlace dy j2) - (v_X0_monthPlace dy j1)) + 1)), (0, .ref (ad (4 + i0))), (1, .ref (ad (18 + j1))), (2, .ref (ad (18 + j2)))]) hx hb dX1_putBetween_73 rfl hl (by decide) rfl (fun ls hl => ?_)
          refine lv_aload_n hx hb dX1_putBetween_74 rfl (lv_at hl 3 rfl) ?_
          refine k_i (k := 0) (n := 0) hA B (u_VN (rest := []) X (c_X0_dayNumber l g N ad x sp dy la kn re hN j2 hj2 H.size) mw_X0_dayNumber md_X0_dayNumber rfl lk_X1_54 ⟨Nat.le_of_ble_eq_true rfl, Nat.le_of_ble_eq_true rfl⟩ hA hK hT B (pl_dy hN hj2) (cf_dy hj2) rfl rfl hl.1 rfl (Nat.le_of_ble_eq_true rfl) dX1_putBetween_75 ⟨Nat.le_of_ble_eq_true rfl, Nat.le_of_ble_eq_true rfl⟩) (Nat.le_of_ble_eq_true rfl) (Nat.le_of_ble_eq_true rfl) (fun r ad' f' H locs hw B => ?_)
          obtain ⟨rfl, rfl, rfl⟩ := hw
          refine lv_aload_n hx hb dX1_putBetween_78 rfl (lv_at hl 2 rfl) ?_
          refine lv_iload_n hx hb dX1_putBetween_79 rfl (lv_at hl 0 rfl) ?_
          refine k_i (k := 0) (n := 0) hA B (u_VN (rest := [.int (v_X0_dayNumber dy j2)]) X (c_X0_dayNumberMonthsOn l g N ad x sp dy la kn re hN j1 hj1 (((v_X0_monthPlace dy j2) - (v_X0_monthPlace dy j1)) + 1) H.size) mw_X0_dayNumberMonthsOn md_X0_dayNumberMonthsOn rfl lk_X1_57 ⟨Nat.le_of_ble_eq_true rfl, Nat.le_of_ble_eq_true rfl⟩ hA hK hT B (pl_dy hN hj1) (cf_dy hj1) rfl rfl hl.1 rfl (Nat.le_of_ble_eq_true rfl) dX1_putBetween_80 ⟨Nat.le_of_ble_eq_true rfl, Nat.le_of_ble_eq_true rfl⟩) (Nat.le_of_ble_eq_true rfl) (Nat.le_of_ble_eq_true rfl) (fun r ad' f' H locs hw B => ?_)
          obtain ⟨rfl, rfl, rfl⟩ := hw
          refine lv_isub hx hb dX1_putBetween_83 ?_
          refine lv_istore (lv' := [(4, .int ((v_X0_dayNumber dy j2) - (v_X0_dayNumberMonthsOn dy j1 (((v_X0_monthPlace dy j2) - (v_X0_monthPlace dy j1)) + 1)))), (3, .int (((v_X0_monthPlace dy j2) - (v_X0_monthPlace dy j1)) + 1)), (0, .ref (ad (4 + i0))), (1, .ref (ad (18 + j1))), (2, .ref (ad (18 + j2)))]) hx hb dX1_putBetween_84 hl (by decide) rfl (fun ls hl => ?_)
          refine lv_aload_n hx hb dX1_putBetween_86 rfl (lv_at hl 2 rfl) ?_
          refine lv_iload_n hx hb dX1_putBetween_87 rfl (lv_at hl 1 rfl) ?_
          refine lv_bipush (v := 12) hx hb dX1_putBetween_88 (by decide) ?_
          refine lv_idiv hx hb dX1_putBetween_90 (by decide) ?_
          refine lv_i2l (v := ((((v_X0_monthPlace dy j2) - (v_X0_monthPlace dy j1)) + 1) / 12).toInt64) hx hb dX1_putBetween_91 rfl ?_
          refine lv_iload_n hx hb dX1_putBetween_92 rfl (lv_at hl 1 rfl) ?_
          refine lv_bipush (v := 12) hx hb dX1_putBetween_93 (by decide) ?_
          refine lv_irem hx hb dX1_putBetween_95 (by decide) ?_
          refine lv_i2l (v := ((((v_X0_monthPlace dy j2) - (v_X0_monthPlace dy j1)) + 1) - (((v_X0_monthPlace dy j2) - (v_X0_monthPlace dy j1)) + 1) / 12 * 12).toInt64) hx hb dX1_putBetween_96 rfl ?_
          refine lv_iload hx hb dX1_putBetween_97 (lv_at hl 0 rfl) ?_
          refine lv_i2l (v := ((v_X0_dayNumber dy j2) - (v_X0_dayNumberMonthsOn dy j1 (((v_X0_monthPlace dy j2) - (v_X0_monthPlace dy j1)) + 1))).toInt64) hx hb dX1_putBetween_99 rfl ?_
          refine k_i (k := 0) (n := 0) hA B (u_V (rest := []) X (c_X1_put l g N ad x sp dy la kn re hN i0 hi0 (((((v_X0_monthPlace dy j2) - (v_X0_monthPlace dy j1)) + 1) / 12).toInt64) (((((v_X0_monthPlace dy j2) - (v_X0_monthPlace dy j1)) + 1) - (((v_X0_monthPlace dy j2) - (v_X0_monthPlace dy j1)) + 1) / 12 * 12).toInt64) (((v_X0_dayNumber dy j2) - (v_X0_dayNumberMonthsOn dy j1 (((v_X0_monthPlace dy j2) - (v_X0_monthPlace dy j1)) + 1))).toInt64) H.size) mw_X1_put md_X1_put rfl lk_X1_25 ⟨Nat.le_of_ble_eq_true rfl, Nat.le_of_ble_eq_true rfl⟩ hA hK hT B (pl_sp hN hi0) (cf_sp hi0) rfl rfl hl.1 rfl (Nat.le_of_ble_eq_true rfl) dX1_putBetween_100 ⟨Nat.le_of_ble_eq_true rfl, Nat.le_of_ble_eq_true rfl⟩) (Nat.le_of_ble_eq_true rfl) (Nat.le_of_ble_eq_true rfl) (fun r ad' f' H locs hw B => ?_)
          obtain ⟨rfl, rfl, rfl⟩ := hw
          have ev := (show v_X1_putBetween sp dy i0 j1 j2 = ((v_X1_put sp i0 (((((v_X0_monthPlace dy j2) - (v_X0_monthPlace dy j1)) + 1) / 12).toInt64) (((((v_X0_monthPlace dy j2) - (v_X0_monthPlace dy j1)) + 1) - (((v_X0_monthPlace dy j2) - (v_X0_monthPlace dy j1)) + 1) / 12 * 12).toInt64) (((v_X0_dayNumber dy j2) - (v_X0_dayNumberMonthsOn dy j1 (((v_X0_monthPlace dy j2) - (v_X0_monthPlace dy j1)) + 1))).toInt64)).1, (v_X1_put sp i0 (((((v_X0_monthPlace dy j2) - (v_X0_monthPlace dy j1)) + 1) / 12).toInt64) (((((v_X0_monthPlace dy j2) - (v_X0_monthPlace dy j1)) + 1) - (((v_X0_monthPlace dy j2) - (v_X0_monthPlace dy j1)) + 1) / 12 * 12).toInt64) (((v_X0_dayNumber dy j2) - (v_X0_dayNumberMonthsOn dy j1 (((v_X0_monthPlace dy j2) - (v_X0_monthPlace dy j1)) + 1))).toInt64)).2) from by unfold v_X1_putBetween; rw [if_pos c1, if_pos c2, if_neg c3, if_neg c4])
          exact rt_i X hr (ad, (cf g ad x (v_X1_put sp i0 (((((v_X0_monthPlace dy j2) - (v_X0_monthPlace dy j1)) + 1) / 12).toInt64) (((((v_X0_monthPlace dy j2) - (v_X0_monthPlace dy j1)) + 1) - (((v_X0_monthPlace dy j2) - (v_X0_monthPlace dy j1)) + 1) / 12 * 12).toInt64) (((v_X0_dayNumber dy j2) - (v_X0_dayNumberMonthsOn dy j1 (((v_X0_monthPlace dy j2) - (v_X0_monthPlace dy j1)) + 1))).toInt64)).2 dy la kn re)) B (PO_of B) ⟨rfl, by rw [ev], by rw [ev]⟩ (nb_of b01_X1_put) (Nat.le_of_ble_eq_true rfl) (Nat.le_of_ble_eq_true rfl) dX1_putBetween_103
    · refine lv_iconst (v := 0) hx hb dX1_putBetween_49 (by decide) ?_
      have ev := (show v_X1_putBetween sp dy i0 j1 j2 = (0, sp) from by unfold v_X1_putBetween; rw [if_pos c1, if_neg c2])
      exact rt_i X hr (ad, (cf g ad x sp dy la kn re)) B (PO_of B) ⟨rfl, by rw [ev], by rw [ev]⟩ rfl (Nat.le_of_ble_eq_true rfl) (Nat.le_of_ble_eq_true rfl) dX1_putBetween_50
  · refine lv_iload_n hx hb dX1_putBetween_18 rfl (lv_at hl 0 rfl) ?_
    refine lv_aload_n hx hb dX1_putBetween_19 rfl (lv_at hl 3 rfl) ?_
    refine g_getN (q := (18 + j2)) (k := 2) X hK hT B rfl in_X0 (pl_dy hN hj2) (cf_dy hj2) (by decide) lk_X1_51 rfl rfl dX1_putBetween_20 ?_
    refine lv_aload_n hx hb dX1_putBetween_23 rfl (lv_at hl 2 rfl) ?_
    refine g_getN (q := (18 + j1)) (k := 2) X hK hT B rfl in_X0 (pl_dy hN hj1) (cf_dy hj1) (by decide) lk_X1_51 rfl rfl dX1_putBetween_24 ?_
    refine lv_icmp_ge (tgt := 34) hx hb dX1_putBetween_27 (by decide) (fun c5 => ?_) (fun c5 => ?_)
    · refine lv_iconst (v := 0) hx hb dX1_putBetween_34 (by decide) ?_
      refine lv_isub hx hb dX1_putBetween_35 ?_
      refine lv_istore_n (lv' := [(3, .int (((v_X0_monthPlace dy j2) - (v_X0_monthPlace dy j1)) - 0)), (0, .ref (ad (4 + i0))), (1, .ref (ad (18 + j1))), (2, .ref (ad (18 + j2)))]) hx hb dX1_putBetween_36 rfl hl (by decide) rfl (fun ls hl => ?_)
      refine lv_goto (tgt := 74) hx hb dX1_putBetween_37 (by decide) ?_
      refine lv_aload_n hx hb dX1_putBetween_74 rfl (lv_at hl 3 rfl) ?_
      refine k_i (k := 0) (n := 0) hA B (u_VN (rest := []) X (c_X0_dayNumber l g N ad x sp dy la kn re hN j2 hj2 H.size) mw_X0_dayNumber md_X0_dayNumber rfl lk_X1_54 ⟨Nat.le_of_ble_eq_true rfl, Nat.le_of_ble_eq_true rfl⟩ hA hK hT B (pl_dy hN hj2) (cf_dy hj2) rfl rfl hl.1 rfl (Nat.le_of_ble_eq_true rfl) dX1_putBetween_75 ⟨Nat.le_of_ble_eq_true rfl, Nat.le_of_ble_eq_true rfl⟩) (Nat.le_of_ble_eq_true rfl) (Nat.le_of_ble_eq_true rfl) (fun r ad' f' H locs hw B => ?_)
      obtain ⟨rfl, rfl, rfl⟩ := hw
      refine lv_aload_n hx hb dX1_putBetween_78 rfl (lv_at hl 2 rfl) ?_
      refine lv_iload_n hx hb dX1_putBetween_79 rfl (lv_at hl 0 rfl) ?_
      refine k_i (k := 0) (n := 0) hA B (u_VN (rest := [.int (v_X0_dayNumber dy j2)]) X (c_X0_dayNumberMonthsOn l g N ad x sp dy la kn re hN j1 hj1 (((v_X0_monthPlace dy j2) - (v_X0_monthPlace dy j1)) - 0) H.size) mw_X0_dayNumberMonthsOn md_X0_dayNumberMonthsOn rfl lk_X1_57 ⟨Nat.le_of_ble_eq_true rfl, Nat.le_of_ble_eq_true rfl⟩ hA hK hT B (pl_dy hN hj1) (cf_dy hj1) rfl rfl hl.1 rfl (Nat.le_of_ble_eq_true rfl) dX1_putBetween_80 ⟨Nat.le_of_ble_eq_true rfl, Nat.le_of_ble_eq_true rfl⟩) (Nat.le_of_ble_eq_true rfl) (Nat.le_of_ble_eq_true rfl) (fun r ad' f' H locs hw B => ?_)
      obtain ⟨rfl, rfl, rfl⟩ := hw
      refine lv_isub hx hb dX1_putBetween_83 ?_
      refine lv_istore (lv' := [(4, .int ((v_X0_dayNumber dy j2) - (v_X0_dayNumberMonthsOn dy j1 (((v_X0_monthPlace dy j2) - (v_X0_monthPlace dy j1)) - 0)))), (3, .int (((v_X0_monthPlace dy j2) - (v_X0_monthPlace dy j1)) - 0)), (0, .ref (ad (4 + i0))), (1, .ref (ad (18 + j1))), (2, .ref (ad (18 + j2)))]) hx hb dX1_putBetween_84 hl (by decide) rfl (fun ls hl => ?_)
      refine lv_aload_n hx hb dX1_putBetween_86 rfl (lv_at hl 2 rfl) ?_
      refine lv_iload_n hx hb dX1_putBetween_87 rfl (lv_at hl 1 rfl) ?_
      refine lv_bipush (v := 12) hx hb dX1_putBetween_88 (by decide) ?_
      refine lv_idiv hx hb dX1_putBetween_90 (by decide) ?_
      refine lv_i2l (v := ((((v_X0_monthPlace dy j2) - (v_X0_monthPlace dy j1)) - 0) / 12).toInt64) hx hb dX1_putBetween_91 rfl ?_
      refine lv_iload_n hx hb dX1_putBetween_92 rfl (lv_at hl 1 rfl) ?_
      refine lv_bipush (v := 12) hx hb dX1_putBetween_93 (by decide) ?_
      refine lv_irem hx hb dX1_putBetween_95 (by decide) ?_
      refine lv_i2l (v := ((((v_X0_monthPlace dy j2) - (v_X0_monthPlace dy j1)) - 0) - (((v_X0_monthPlace dy j2) - (v_X0_monthPlace dy j1)) - 0) / 12 * 12).toInt64) hx hb dX1_putBetween_96 rfl ?_
      refine lv_iload hx hb dX1_putBetween_97 (lv_at hl 0 rfl) ?_
      refine lv_i2l (v := ((v_X0_dayNumber dy j2) - (v_X0_dayNumberMonthsOn dy j1 (((v_X0_monthPlace dy j2) - (v_X0_monthPlace dy j1)) - 0))).toInt64) hx hb dX1_putBetween_99 rfl ?_
      refine k_i (k := 0) (n := 0) hA B (u_V (rest := []) X (c_X1_put l g N ad x sp dy la kn re hN i0 hi0 (((((v_X0_monthPlace dy j2) - (v_X0_monthPlace dy j1)) - 0) / 12).toInt64) (((((v_X0_monthPlace dy j2) - (v_X0_monthPlace dy j1)) - 0) - (((v_X0_monthPlace dy j2) - (v_X0_monthPlace dy j1)) - 0) / 12 * 12).toInt64) (((v_X0_dayNumber dy j2) - (v_X0_dayNumberMonthsOn dy j1 (((v_X0_monthPlace dy j2) - (v_X0_monthPlace dy j1)) - 0))).toInt64) H.size) mw_X1_put md_X1_put rfl lk_X1_25 ⟨Nat.le_of_ble_eq_true rfl, Nat.le_of_ble_eq_true rfl⟩ hA hK hT B (pl_sp hN hi0) (cf_sp hi0) rfl rfl hl.1 rfl (Nat.le_of_ble_eq_true rfl) dX1_putBetween_100 ⟨Nat.le_of_ble_eq_true rfl, Nat.le_of_ble_eq_true rfl⟩) (Nat.le_of_ble_eq_true rfl) (Nat.le_of_ble_eq_true rfl) (fun r ad' f' H locs hw B => ?_)
      obtain ⟨rfl, rfl, rfl⟩ := hw
      have ev := (show v_X1_putBetween sp dy i0 j1 j2 = ((v_X1_put sp i0 (((((v_X0_monthPlace dy j2) - (v_X0_monthPlace dy j1)) - 0) / 12).toInt64) (((((v_X0_monthPlace dy j2) - (v_X0_monthPlace dy j1)) - 0) - (((v_X0_monthPlace dy j2) - (v_X0_monthPlace dy j1)) - 0) / 12 * 12).toInt64) (((v_X0_dayNumber dy j2) - (v_X0_dayNumberMonthsOn dy j1 (((v_X0_monthPlace dy j2) - (v_X0_monthPlace dy j1)) - 0))).toInt64)).1, (v_X1_put sp i0 (((((v_X0_monthPlace dy j2) - (v_X0_monthPlace dy j1)) - 0) / 12).toInt64) (((((v_X0_monthPlace dy j2) - (v_X0_monthPlace dy j1)) - 0) - (((v_X0_monthPlace dy j2) - (v_X0_monthPlace dy j1)) - 0) / 12 * 12).toInt64) (((v_X0_dayNumber dy j2) - (v_X0_dayNumberMonthsOn dy j1 (((v_X0_monthPlace dy j2) - (v_X0_monthPlace dy j1)) - 0))).toInt64)).2) from by unfold v_X1_putBetween; rw [if_neg c1, if_pos c5])
      exact rt_i X hr (ad, (cf g ad x (v_X1_put sp i0 (((((v_X0_monthPlace dy j2) - (v_X0_monthPlace dy j1)) - 0) / 12).toInt64) (((((v_X0_monthPlace dy j2) - (v_X0_monthPlace dy j1)) - 0) - (((v_X0_monthPlace dy j2) - (v_X0_monthPlace dy j1)) - 0) / 12 * 12).toInt64) (((v_X0_dayNumber dy j2) - (v_X0_dayNumberMonthsOn dy j1 (((v_X0_monthPlace dy j2) - (v_X0_monthPlace dy j1)) - 0))).toInt64)).2 dy la kn re)) B (PO_of B) ⟨rfl, by rw [ev], by rw [ev]⟩ (nb_of b01_X1_put) (Nat.le_of_ble_eq_true rfl) (Nat.le_of_ble_eq_true rfl) dX1_putBetween_103
    · refine lv_iconst (v := 1) hx hb dX1_putBetween_30 (by decide) ?_
      refine lv_goto (tgt := 35) hx hb dX1_putBetween_31 (by decide) ?_
      refine lv_isub hx hb dX1_putBetween_35 ?_
      refine lv_istore_n (lv' := [(3, .int (((v_X0_monthPlace dy j2) - (v_X0_monthPlace dy j1)) - 1)), (0, .ref (ad (4 + i0))), (1, .ref (ad (18 + j1))), (2, .ref (ad (18 + j2)))]) hx hb dX1_putBetween_36 rfl hl (by decide) rfl (fun ls hl => ?_)
      refine lv_goto (tgt := 74) hx hb dX1_putBetween_37 (by decide) ?_
      refine lv_aload_n hx hb dX1_putBetween_74 rfl (lv_at hl 3 rfl) ?_
      refine k_i (k := 0) (n := 0) hA B (u_VN (rest := []) X (c_X0_dayNumber l g N ad x sp dy la kn re hN j2 hj2 H.size) mw_X0_dayNumber md_X0_dayNumber rfl lk_X1_54 ⟨Nat.le_of_ble_eq_true rfl, Nat.le_of_ble_eq_true rfl⟩ hA hK hT B (pl_dy hN hj2) (cf_dy hj2) rfl rfl hl.1 rfl (Nat.le_of_ble_eq_true rfl) dX1_putBetween_75 ⟨Nat.le_of_ble_eq_true rfl, Nat.le_of_ble_eq_true rfl⟩) (Nat.le_of_ble_eq_true rfl) (Nat.le_of_ble_eq_true rfl) (fun r ad' f' H locs hw B => ?_)
      obtain ⟨rfl, rfl, rfl⟩ := hw
      refine lv_aload_n hx hb dX1_putBetween_78 rfl (lv_at hl 2 rfl) ?_
      refine lv_iload_n hx hb dX1_putBetween_79 rfl (lv_at hl 0 rfl) ?_
      refine k_i (k := 0) (n := 0) hA B (u_VN (rest := [.int (v_X0_dayNumber dy j2)]) X (c_X0_dayNumberMonthsOn l g N ad x sp dy la kn re hN j1 hj1 (((v_X0_monthPlace dy j2) - (v_X0_monthPlace dy j1)) - 1) H.size) mw_X0_dayNumberMonthsOn md_X0_dayNumberMonthsOn rfl lk_X1_57 ⟨Nat.le_of_ble_eq_true rfl, Nat.le_of_ble_eq_true rfl⟩ hA hK hT B (pl_dy hN hj1) (cf_dy hj1) rfl rfl hl.1 rfl (Nat.le_of_ble_eq_true rfl) dX1_putBetween_80 ⟨Nat.le_of_ble_eq_true rfl, Nat.le_of_ble_eq_true rfl⟩) (Nat.le_of_ble_eq_true rfl) (Nat.le_of_ble_eq_true rfl) (fun r ad' f' H locs hw B => ?_)
      obtain ⟨rfl, rfl, rfl⟩ := hw
      refine lv_isub hx hb dX1_putBetween_83 ?_
      refine lv_istore (lv' := [(4, .int ((v_X0_dayNumber dy j2) - (v_X0_dayNumberMonthsOn dy j1 (((v_X0_monthPlace dy j2) - (v_X0_monthPlace dy j1)) - 1)))), (3, .int (((v_X0_monthPlace dy j2) - (v_X0_monthPlace dy j1)) - 1)), (0, .ref (ad (4 + i0))), (1, .ref (ad (18 + j1))), (2, .ref (ad (18 + j2)))]) hx hb dX1_putBetween_84 hl (by decide) rfl (fun ls hl => ?_)
      refine lv_aload_n hx hb dX1_putBetween_86 rfl (lv_at hl 2 rfl) ?_
      refine lv_iload_n hx hb dX1_putBetween_87 rfl (lv_at hl 1 rfl) ?_
      refine lv_bipush (v := 12) hx hb dX1_putBetween_88 (by decide) ?_
      refine lv_idiv hx hb dX1_putBetween_90 (by decide) ?_
      refine lv_i2l (v := ((((v_X0_monthPlace dy j2) - (v_X0_monthPlace dy j1)) - 1) / 12).toInt64) hx hb dX1_putBetween_91 rfl ?_
      refine lv_iload_n hx hb dX1_putBetween_92 rfl (lv_at hl 1 rfl) ?_
      refine lv_bipush (v := 12) hx hb dX1_putBetween_93 (by decide) ?_
      refine lv_irem hx hb dX1_putBetween_95 (by decide) ?_
      refine lv_i2l (v := ((((v_X0_monthPlace dy j2) - (v_X0_monthPlace dy j1)) - 1) - (((v_X0_monthPlace dy j2) - (v_X0_monthPlace dy j1)) - 1) / 12 * 12).toInt64) hx hb dX1_putBetween_96 rfl ?_
      refine lv_iload hx hb dX1_putBetween_97 (lv_at hl 0 rfl) ?_
      refine lv_i2l (v := ((v_X0_dayNumber dy j2) - (v_X0_dayNumberMonthsOn dy j1 (((v_X0_monthPlace dy j2) - (v_X0_monthPlace dy j1)) - 1))).toInt64) hx hb dX1_putBetween_99 rfl ?_
      refine k_i (k := 0) (n := 0) hA B (u_V (rest := []) X (c_X1_put l g N ad x sp dy la kn re hN i0 hi0 (((((v_X0_monthPlace dy j2) - (v_X0_monthPlace dy j1)) - 1) / 12).toInt64) (((((v_X0_monthPlace dy j2) - (v_X0_monthPlace dy j1)) - 1) - (((v_X0_monthPlace dy j2) - (v_X0_monthPlace dy j1)) - 1) / 12 * 12).toInt64) (((v_X0_dayNumber dy j2) - (v_X0_dayNumberMonthsOn dy j1 (((v_X0_monthPlace dy j2) - (v_X0_monthPlace dy j1)) - 1))).toInt64) H.size) mw_X1_put md_X1_put rfl lk_X1_25 ⟨Nat.le_of_ble_eq_true rfl, Nat.le_of_ble_eq_true rfl⟩ hA hK hT B (pl_sp hN hi0) (cf_sp hi0) rfl rfl hl.1 rfl (Nat.le_of_ble_eq_true rfl) dX1_putBetween_100 ⟨Nat.le_of_ble_eq_true rfl, Nat.le_of_ble_eq_true rfl⟩) (Nat.le_of_ble_eq_true rfl) (Nat.le_of_ble_eq_true rfl) (fun r ad' f' H locs hw B => ?_)
      obtain ⟨rfl, rfl, rfl⟩ := hw
      have ev := (show v_X1_putBetween sp dy i0 j1 j2 = ((v_X1_put sp i0 (((((v_X0_monthPlace dy j2) - (v_X0_monthPlace dy j1)) - 1) / 12).toInt64) (((((v_X0_monthPlace dy j2) - (v_X0_monthPlace dy j1)) - 1) - (((v_X0_monthPlace dy j2) - (v_X0_monthPlace dy j1)) - 1) / 12 * 12).toInt64) (((v_X0_dayNumber dy j2) - (v_X0_dayNumberMonthsOn dy j1 (((v_X0_monthPlace dy j2) - (v_X0_monthPlace dy j1)) - 1))).toInt64)).1, (v_X1_put sp i0 (((((v_X0_monthPlace dy j2) - (v_X0_monthPlace dy j1)) - 1) / 12).toInt64) (((((v_X0_monthPlace dy j2) - (v_X0_monthPlace dy j1)) - 1) - (((v_X0_monthPlace dy j2) - (v_X0_monthPlace dy j1)) - 1) / 12 * 12).toInt64) (((v_X0_dayNumber dy j2) - (v_X0_dayNumberMonthsOn dy j1 (((v_X0_monthPlace dy j2) - (v_X0_monthPlace dy j1)) - 1))).toInt64)).2) from by unfold v_X1_putBetween; rw [if_neg c1, if_neg c5])
      exact rt_i X hr (ad, (cf g ad x (v_X1_put sp i0 (((((v_X0_monthPlace dy j2) - (v_X0_monthPlace dy j1)) - 1) / 12).toInt64) (((((v_X0_monthPlace dy j2) - (v_X0_monthPlace dy j1)) - 1) - (((v_X0_monthPlace dy j2) - (v_X0_monthPlace dy j1)) - 1) / 12 * 12).toInt64) (((v_X0_dayNumber dy j2) - (v_X0_dayNumberMonthsOn dy j1 (((v_X0_monthPlace dy j2) - (v_X0_monthPlace dy j1)) - 1))).toInt64)).2 dy la kn re)) B (PO_of B) ⟨rfl, by rw [ev], by rw [ev]⟩ (nb_of b01_X1_put) (Nat.le_of_ble_eq_true rfl) (Nat.le_of_ble_eq_true rfl) dX1_putBetween_103
def v_X2_isInCalendar (a0 : Int32) (a1 : Int32) (a2 : Int32) : Int32 := if a0 < 1600 then 0 else (if 2400 < a0 then 0 else (if a1 < 1 then 0 else (if a1 ≤ 12 then (if a2 < 1 then 0 else (if (v_X2_daysOfMonth a0 a1) < a2 then 0 else 1)) else 0)))
theorem b01_X2_isInCalendar {a0 : Int32} {a1 : Int32} {a2 : Int32} : (v_X2_isInCalendar a0 a1 a2) = 0 ∨ (v_X2_isInCalendar a0 a1 a2) = 1 := by
  unfold v_X2_isInCalendar
  by_cases q1 : a0 < 1600
  · rw [if_pos q1]
    exact Or.inl rfl
  · rw [if_neg q1]
    by_cases q2 : 2400 < a0
    · rw [if_pos q2]
      exact Or.inl rfl
    · rw [if_neg q2]
      by_cases q3 : a1 < 1
      · rw [if_pos q3]
        exact Or.inl rfl
      · rw [if_neg q3]
        by_cases q4 : a1 ≤ 12
        · rw [if_pos q4]
          by_cases q5 : a2 < 1
          · rw [if_pos q5]
            exact Or.inl rfl
          · rw [if_neg q5]
            by_cases q6 : (v_X2_daysOfMonth a0 a1) < a2
            · rw [if_pos q6]
              exact Or.inl rfl
            · rw [if_neg q6]
              exact Or.inr rfl
        · rw [if_neg q4]
          exact Or.inl rfl
set_option maxHeartbeats 4000000 in
set_option maxRecDepth 100000 in
theorem c_X2_isInCalendar (l : Launch) (g : GG) (N : Nat) (ad : Nat → Nat) (x : Nat → va_E) (sp dy : Nat → TR) (la kn re : Int32) (hN : 23 ≤ N) (a0 : Int32) (a1 : Int32) (a2 : Int32) : KI l yX2_isInCalendar cX2_isInCalendar 3 (some .boolean) (rm 1 0 0) g [.int a0, .int a1, .int a2] N ad (cf g ad x sp dy la kn re) N (fun r ad' f' => ad = ad' ∧ (v_X2_isInCalendar a0 a1 a2) = r ∧ (cf g ad x sp dy la kn re) = f') := by
  intro sz
  refine mt_start (by decide) (Nat.le_of_ble_eq_true rfl) ?_
  intro p e s m args below meth c hsz X hr hnam hA hK hT H locs B ls hl
  obtain ⟨hx, hb, hml, hown, hts, hlocks⟩ := id X
  have hl : lv_has ls 3 [(0, .int a0), (1, .int a1), (2, .int a2)] := hl
  refine lv_iload_n hx hb dX2_isInCalendar_0 rfl (lv_at hl 0 rfl) ?_
  refine lv_sipush (v := 1600) hx hb dX2_isInCalendar_1 (by decide) ?_
  refine lv_icmp_lt (tgt := 25) hx hb dX2_isInCalendar_4 (by decide) (fun c1 => ?_) (fun c1 => ?_)
  · refine lv_iconst (v := 0) hx hb dX2_isInCalendar_25 (by decide) ?_
    have ev := (show v_X2_isInCalendar a0 a1 a2 = 0 from by unfold v_X2_isInCalendar; rw [if_pos c1])
    exact rt_i X hr (ad, (cf g ad x sp dy la kn re)) B (PO_of B) ⟨rfl, by rw [ev], rfl⟩ rfl (Nat.le_of_ble_eq_true rfl) (Nat.le_of_ble_eq_true rfl) dX2_isInCalendar_26
  · refine lv_iload_n hx hb dX2_isInCalendar_7 rfl (lv_at hl 0 rfl) ?_
    refine lv_sipush (v := 2400) hx hb dX2_isInCalendar_8 (by decide) ?_
    refine lv_icmp_gt (tgt := 25) hx hb dX2_isInCalendar_11 (by decide) (fun c2 => ?_) (fun c2 => ?_)
    · refine lv_iconst (v := 0) hx hb dX2_isInCalendar_25 (by decide) ?_
      have ev := (show v_X2_isInCalendar a0 a1 a2 = 0 from by unfold v_X2_isInCalendar; rw [if_neg c1, if_pos c2])
      exact rt_i X hr (ad, (cf g ad x sp dy la kn re)) B (PO_of B) ⟨rfl, by rw [ev], rfl⟩ rfl (Nat.le_of_ble_eq_true rfl) (Nat.le_of_ble_eq_true rfl) dX2_isInCalendar_26
    · refine lv_iload_n hx hb dX2_isInCalendar_14 rfl (lv_at hl 1 rfl) ?_
      refine lv_iconst (v := 1) hx hb dX2_isInCalendar_15 (by decide) ?_
      refine lv_icmp_lt (tgt := 25) hx hb dX2_isInCalendar_16 (by decide) (fun c3 => ?_) (fun c3 => ?_)
      · refine lv_iconst (v := 0) hx hb dX2_isInCalendar_25 (by decide) ?_
        have ev := (show v_X2_isInCalendar a0 a1 a2 = 0 from by unfold v_X2_isInCalendar; rw [if_neg c1, if_neg c2, if_pos c3])
        exact rt_i X hr (ad, (cf g ad x sp dy la kn re)) B (PO_of B) ⟨rfl, by rw [ev], rfl⟩ rfl (Nat.le_of_ble_eq_true rfl) (Nat.le_of_ble_eq_true rfl) dX2_isInCalendar_26
      · refine lv_iload_n hx hb dX2_isInCalendar_19 rfl (lv_at hl 1 rfl) ?_
        refine lv_bipush (v := 12) hx hb dX2_isInCalendar_20 (by decide) ?_
        refine lv_icmp_le (tgt := 27) hx hb dX2_isInCalendar_22 (by decide) (fun c4 => ?_) (fun c4 => ?_)
        · refine lv_iload_n hx hb dX2_isInCalendar_27 rfl (lv_at hl 2 rfl) ?_
          refine lv_iconst (v := 1) hx hb dX2_isInCalendar_28 (by decide) ?_
          refine lv_icmp_lt (tgt := 45) hx hb dX2_isInCalendar_29 (by decide) (fun c5 => ?_) (fun c5 => ?_)
          · refine lv_iconst (v := 0) hx hb dX2_isInCalendar_45 (by decide) ?_
            have ev := (show v_X2_isInCalendar a0 a1 a2 = 0 from by unfold v_X2_isInCalendar; rw [if_neg c1, if_neg c2, if_neg c3, if_pos c4, if_pos c5])
            exact rt_i X hr (ad, (cf g ad x sp dy la kn re)) B (PO_of B) ⟨rfl, by rw [ev], rfl⟩ rfl (Nat.le_of_ble_eq_true rfl) (Nat.le_of_ble_eq_true rfl) dX2_isInCalendar_46
          · refine lv_iload_n hx hb dX2_isInCalendar_32 rfl (lv_at hl 2 rfl) ?_
            refine lv_iload_n hx hb dX2_isInCalendar_33 rfl (lv_at hl 0 rfl) ?_
            refine lv_iload_n hx hb dX2_isInCalendar_34 rfl (lv_at hl 1 rfl) ?_
            refine k_i (k := 0) (n := 0) hA B (u_S (rest := [.int a2]) X (c_X2_daysOfMonth l g N ad x sp dy la kn re hN a0 a1 H.size) mw_X2_daysOfMonth md_X2_daysOfMonth rfl lk_X2_282 ⟨Nat.le_of_ble_eq_true rfl, Nat.le_of_ble_eq_true rfl⟩ hA hK hT B hl.1 rfl (Nat.le_of_ble_eq_true rfl) dX2_isInCalendar_35 ⟨Nat.le_of_ble_eq_true rfl, Nat.le_of_ble_eq_true rfl⟩) (Nat.le_of_ble_eq_true rfl) (Nat.le_of_ble_eq_true rfl) (fun r ad' f' H locs hw B => ?_)
            obtain ⟨rfl, rfl, rfl⟩ := hw
            refine lv_icmp_gt (tgt := 45) hx hb dX2_isInCalendar_38 (by decide) (fun c6 => ?_) (fun c6 => ?_)
            · refine lv_iconst (v := 0) hx hb dX2_isInCalendar_45 (by decide) ?_
              have ev := (show v_X2_isInCalendar a0 a1 a2 = 0 from by unfold v_X2_isInCalendar; rw [if_neg c1, if_neg c2, if_neg c3, if_pos c4, if_neg c5, if_pos c6])
              exact rt_i X hr (ad, (cf g ad x sp dy la kn re)) B (PO_of B) ⟨rfl, by rw [ev], rfl⟩ rfl (Nat.le_of_ble_eq_true rfl) (Nat.le_of_ble_eq_true rfl) dX2_isInCalendar_46
            · refine lv_iconst (v := 1) hx hb dX2_isInCalendar_41 (by decide) ?_
              refine lv_goto (tgt := 46) hx hb dX2_isInCalendar_42 (by decide) ?_
              have ev := (show v_X2_isInCalendar a0 a1 a2 = 1 from by unfold v_X2_isInCalendar; rw [if_neg c1, if_neg c2, if_neg c3, if_pos c4, if_neg c5, if_neg c6])
              exact rt_i X hr (ad, (cf g ad x sp dy la kn re)) B (PO_of B) ⟨rfl, by rw [ev], rfl⟩ rfl (Nat.le_of_ble_eq_true rfl) (Nat.le_of_ble_eq_true rfl) dX2_isInCalendar_46
        · refine lv_iconst (v := 0) hx hb dX2_isInCalendar_25 (by decide) ?_
          have ev := (show v_X2_isInCalendar a0 a1 a2 = 0 from by unfold v_X2_isInCalendar; rw [if_neg c1, if_neg c2, if_neg c3, if_neg c4])
          exact rt_i X hr (ad, (cf g ad x sp dy la kn re)) B (PO_of B) ⟨rfl, by rw [ev], rfl⟩ rfl (Nat.le_of_ble_eq_true rfl) (Nat.le_of_ble_eq_true rfl) dX2_isInCalendar_26
def v_X2_refuse (re : Int32) : Int32 × Int32 := ((-9), re + 1)
set_option maxHeartbeats 4000000 in
set_option maxRecDepth 100000 in
theorem c_X2_refuse (l : Launch) (g : GG) (N : Nat) (ad : Nat → Nat) (x : Nat → va_E) (sp dy : Nat → TR) (la kn re : Int32) (hN : 23 ≤ N) : KI l yX2_refuse cX2_refuse 1 (some .int) (rm 0 0 0) g [.ref (ad 0)] N ad (cf g ad x sp dy la kn re) N (fun r ad' f' => ad = ad' ∧ (v_X2_refuse re).1 = r ∧ (cf g ad x sp dy la kn (v_X2_refuse re).2) = f') := by
  intro sz
  refine mt_start (by decide) (Nat.le_of_ble_eq_true rfl) ?_
  intro p e s m args below meth c hsz X hr hnam hA hK hT H locs B ls hl
  obtain ⟨hx, hb, hml, hown, hts, hlocks⟩ := id X
  have hl : lv_has ls 1 [(0, .ref (ad 0))] := hl
  refine lv_aload_n hx hb dX2_refuse_0 rfl (lv_at hl 0 rfl) ?_
  refine lv_dup hx hb dX2_refuse_1 rfl ?_
  refine g_get (q := 0) (k := 5) X hK B rfl in_X2 (pl_c hN 0 (by decide)) cf_0 (by decide) lk_X2_236 rfl rfl dX2_refuse_2 ?_
  refine lv_iconst (v := 1) hx hb dX2_refuse_5 (by decide) ?_
  refine lv_iadd hx hb dX2_refuse_6 ?_
  refine g_put (q := 0) (k := 5) X hK B rfl in_X2 tyX2_ok nmX2 (pl_c hN 0 (by decide)) cf_0 (by decide) lk_X2_236 rfl rfl rfl rfl rfl (Nat.le_of_ble_eq_true rfl) dX2_refuse_7 (fun H locs B => ?_)
  have B : WB g (aw N ad sz) s.heap N ad (cf g ad x sp dy la kn (re + 1)) H locs := by rw [← cf_up_mn]; exact B
  refine lv_bipush (v := (-9)) hx hb dX2_refuse_10 (by decide) ?_
  have ev := (show v_X2_refuse re = ((-9), re + 1) from rfl)
  exact rt_i X hr (ad, (cf g ad x sp dy la kn (re + 1))) B (PO_of B) ⟨rfl, by rw [ev], by rw [ev]⟩ rfl (Nat.le_of_ble_eq_true rfl) (Nat.le_of_ble_eq_true rfl) dX2_refuse_12
def v_X2_actOnCard (sp : Nat → TR) (re : Int32) (i1 : Nat) (a2 : Int32) : Int32 × (Nat → TR) × Int32 := if a2 = 0 then ((v_X2_refuse re).1, sp, (v_X2_refuse re).2) else (if (v_X1_isSameAs sp i1 12) = 0 then (1, (v_X1_putSpan sp i1 12), re) else (0, sp, re))
set_option maxHeartbeats 4000000 in
set_option maxRecDepth 100000 in
theorem c_X2_actOnCard (l : Launch) (g : GG) (N : Nat) (ad : Nat → Nat) (x : Nat → va_E) (sp dy : Nat → TR) (la kn re : Int32) (hN : 23 ≤ N) (i1 : Nat) (hi1 : i1 < 14) (a2 : Int32) : KI l yX2_actOnCard cX2_actOnCard 3 (some .int) (rm 1 0 0) g [.ref (ad 0), .ref (ad (4 + i1)), .int a2] N ad (cf g ad x sp dy la kn re) N (fun r ad' f' => ad = ad' ∧ (v_X2_actOnCard sp re i1 a2).1 = r ∧ (cf g ad x (v_X2_actOnCard sp re i1 a2).2.1 dy la kn (v_X2_actOnCard sp re i1 a2).2.2) = f') := by
  intro sz
  refine mt_start (by decide) (Nat.le_of_ble_eq_true rfl) ?_
  intro p e s m args below meth c hsz X hr hnam hA hK hT H locs B ls hl
  obtain ⟨hx, hb, hml, hown, hts, hlocks⟩ := id X
  have hl : lv_has ls 3 [(0, .ref (ad 0)), (1, .ref (ad (4 + i1))), (2, .int a2)] := hl
  refine lv_iload_n hx hb dX2_actOnCard_0 rfl (lv_at hl 2 rfl) ?_
  refine lv_if_ne (tgt := 9) hx hb dX2_actOnCard_1 (by decide) (fun c1 => ?_) (fun c1 => ?_)
  · refine lv_aload_n hx hb dX2_actOnCard_9 rfl (lv_at hl 1 rfl) ?_
    refine lv_aload_n hx hb dX2_actOnCard_10 rfl (lv_at hl 0 rfl) ?_
    refine g_get (q := 0) (k := 6) X hK B rfl in_X2 (pl_c hN 0 (by decide)) cf_0 (by decide) lk_X2_25 rfl rfl dX2_actOnCard_11 ?_
    refine k_i (k := 0) (n := 0) hA B (u_VN (rest := []) X (c_X1_isSameAs l g N ad x sp dy la kn re hN i1 hi1 12 (by decide) H.size) mw_X1_isSameAs md_X1_isSameAs rfl lk_X2_123 ⟨Nat.le_of_ble_eq_true rfl, Nat.le_of_ble_eq_true rfl⟩ hA hK hT B (pl_sp hN hi1) (cf_sp hi1) rfl rfl hl.1 rfl (Nat.le_of_ble_eq_true rfl) dX2_actOnCard_14 ⟨Nat.le_of_ble_eq_true rfl, Nat.le_of_ble_eq_true rfl⟩) (Nat.le_of_ble_eq_true rfl) (Nat.le_of_ble_eq_true rfl) (fun r ad' f' H locs hw B => ?_)
    obtain ⟨rfl, rfl, rfl⟩ := hw
    refine lv_if_eq (tgt := 22) hx hb dX2_actOnCard_17 (by decide) (fun c2 => ?_) (fun c2 => ?_)
    · refine lv_aload_n hx hb dX2_actOnCard_22 rfl (lv_at hl 1 rfl) ?_
      refine lv_aload_n hx hb dX2_actOnCard_23 rfl (lv_at hl 0 rfl) ?_
      refine g_get (q := 0) (k := 6) X hK B rfl in_X2 (pl_c hN 0 (by decide)) cf_0 (by decide) lk_X2_25 rfl rfl dX2_actOnCard_24 ?_
      refine k_v (k := 0) (n := 0) hA B (u_VN (rest := []) X (c_X1_putSpan l g N ad x sp dy la kn re hN i1 hi1 12 (by decide) H.size) mw_X1_putSpan md_X1_putSpan rfl lk_X2_65 ⟨Nat.le_of_ble_eq_true rfl, Nat.le_of_ble_eq_true rfl⟩ hA hK hT B (pl_sp hN hi1) (cf_sp hi1) rfl rfl hl.1 rfl (Nat.le_of_ble_eq_true rfl) dX2_actOnCard_27 ⟨Nat.le_of_ble_eq_true rfl, Nat.le_of_ble_eq_true rfl⟩) (Nat.le_of_ble_eq_true rfl) (Nat.le_of_ble_eq_true rfl) (fun ad' f' H locs hw B => ?_)
      obtain ⟨rfl, rfl⟩ := hw
      refine lv_iconst (v := 1) hx hb dX2_actOnCard_30 (by decide) ?_
      have ev := (show v_X2_actOnCard sp re i1 a2 = (1, (v_X1_putSpan sp i1 12), re) from by unfold v_X2_actOnCard; rw [if_neg c1, if_pos c2])
      exact rt_i X hr (ad, (cf g ad x (v_X1_putSpan sp i1 12) dy la kn re)) B (PO_of B) ⟨rfl, by rw [ev], by rw [ev]⟩ rfl (Nat.le_of_ble_eq_true rfl) (Nat.le_of_ble_eq_true rfl) dX2_actOnCard_31
    · refine lv_iconst (v := 0) hx hb dX2_actOnCard_20 (by decide) ?_
      have ev := (show v_X2_actOnCard sp re i1 a2 = (0, sp, re) from by unfold v_X2_actOnCard; rw [if_neg c1, if_neg c2])
      exact rt_i X hr (ad, (cf g ad x sp dy la kn re)) B (PO_of B) ⟨rfl, by rw [ev], by rw [ev]⟩ rfl (Nat.le_of_ble_eq_true rfl) (Nat.le_of_ble_eq_true rfl) dX2_actOnCard_21
  · refine lv_aload_n hx hb dX2_actOnCard_4 rfl (lv_at hl 0 rfl) ?_
    refine k_i (k := 0) (n := 0) hA B (u_V (rest := []) X (c_X2_refuse l g N ad x sp dy la kn re hN H.size) mw_X2_refuse md_X2_refuse rfl lk_X2_94 ⟨Nat.le_of_ble_eq_true rfl, Nat.le_of_ble_eq_true rfl⟩ hA hK hT B (pl_c hN 0 (by decide)) cf_0 rfl rfl hl.1 rfl (Nat.le_of_ble_eq_true rfl) dX2_actOnCard_5 ⟨Nat.le_of_ble_eq_true rfl, Nat.le_of_ble_eq_true rfl⟩) (Nat.le_of_ble_eq_true rfl) (Nat.le_of_ble_eq_true rfl) (fun r ad' f' H locs hw B => ?_)
    obtain ⟨rfl, rfl, rfl⟩ := hw
    have ev := (show v_X2_actOnCard sp re i1 a2 = ((v_X2_refuse re).1, sp, (v_X2_refuse re).2) from by unfold v_X2_actOnCard; rw [if_pos c1])
    exact rt_i X hr (ad, (cf g ad x sp dy la kn (v_X2_refuse re).2)) B (PO_of B) ⟨rfl, by rw [ev], by rw [ev]⟩ rfl (Nat.le_of_ble_eq_true rfl) (Nat.le_of_ble_eq_true rfl) dX2_actOnCard_8
def v_X2_actOnDate (dy : Nat → TR) (re : Int32) (j1 : Nat) (a2 : Int32) : Int32 × (Nat → TR) × Int32 := if a2 = 0 then ((v_X2_refuse re).1, dy, (v_X2_refuse re).2) else (if (v_X0_orderTo dy j1 4) = 0 then (0, dy, re) else (1, (v_X0_putDay dy j1 4), re))
set_option maxHeartbeats 4000000 in
set_option maxRecDepth 100000 in
theorem c_X2_actOnDate (l : Launch) (g : GG) (N : Nat) (ad : Nat → Nat) (x : Nat → va_E) (sp dy : Nat → TR) (la kn re : Int32) (hN : 23 ≤ N) (j1 : Nat) (hj1 : j1 < 5) (a2 : Int32) : KI l yX2_actOnDate cX2_actOnDate 3 (some .int) (rm 4 0 0) g [.ref (ad 0), .ref (ad (18 + j1)), .int a2] N ad (cf g ad x sp dy la kn re) N (fun r ad' f' => ad = ad' ∧ (v_X2_actOnDate dy re j1 a2).1 = r ∧ (cf g ad x sp (v_X2_actOnDate dy re j1 a2).2.1 la kn (v_X2_actOnDate dy re j1 a2).2.2) = f') := by
  intro sz
  refine mt_start (by decide) (Nat.le_of_ble_eq_true rfl) ?_
  intro p e s m args below meth c hsz X hr hnam hA hK hT H locs B ls hl
  obtain ⟨hx, hb, hml, hown, hts, hlocks⟩ := id X
  have hl : lv_has ls 3 [(0, .ref (ad 0)), (1, .ref (ad (18 + j1))), (2, .int a2)] := hl
  refine lv_iload_n hx hb dX2_actOnDate_0 rfl (lv_at hl 2 rfl) ?_
  refine lv_if_ne (tgt := 9) hx hb dX2_actOnDate_1 (by decide) (fun c1 => ?_) (fun c1 => ?_)
  · refine lv_aload_n hx hb dX2_actOnDate_9 rfl (lv_at hl 1 rfl) ?_
    refine lv_aload_n hx hb dX2_actOnDate_10 rfl (lv_at hl 0 rfl) ?_
    refine g_get (q := 0) (k := 8) X hK B rfl in_X2 (pl_c hN 0 (by decide)) cf_0 (by decide) lk_X2_33 rfl rfl dX2_actOnDate_11 ?_
    refine k_i (k := 0) (n := 0) hA B (u_VN (rest := []) X (c_X0_orderTo l g N ad x sp dy la kn re hN j1 hj1 4 (by decide) H.size) mw_X0_orderTo md_X0_orderTo rfl lk_X2_181 ⟨Nat.le_of_ble_eq_true rfl, Nat.le_of_ble_eq_true rfl⟩ hA hK hT B (pl_dy hN hj1) (cf_dy hj1) rfl rfl hl.1 rfl (Nat.le_of_ble_eq_true rfl) dX2_actOnDate_14 ⟨Nat.le_of_ble_eq_true rfl, Nat.le_of_ble_eq_true rfl⟩) (Nat.le_of_ble_eq_true rfl) (Nat.le_of_ble_eq_true rfl) (fun r ad' f' H locs hw B => ?_)
    obtain ⟨rfl, rfl, rfl⟩ := hw
    refine lv_if_ne (tgt := 22) hx hb dX2_actOnDate_17 (by decide) (fun c2 => ?_) (fun c2 => ?_)
    · refine lv_aload_n hx hb dX2_actOnDate_22 rfl (lv_at hl 1 rfl) ?_
      refine lv_aload_n hx hb dX2_actOnDate_23 rfl (lv_at hl 0 rfl) ?_
      refine g_get (q := 0) (k := 8) X hK B rfl in_X2 (pl_c hN 0 (by decide)) cf_0 (by decide) lk_X2_33 rfl rfl dX2_actOnDate_24 ?_
      refine k_v (k := 0) (n := 0) hA B (u_VN (rest := []) X (c_X0_putDay l g N ad x sp dy la kn re hN j1 hj1 4 (by decide) H.size) mw_X0_putDay md_X0_putDay rfl lk_X2_157 ⟨Nat.le_of_ble_eq_true rfl, Nat.le_of_ble_eq_true rfl⟩ hA hK hT B (pl_dy hN hj1) (cf_dy hj1) rfl rfl hl.1 rfl (Nat.le_of_ble_eq_true rfl) dX2_actOnDate_27 ⟨Nat.le_of_ble_eq_true rfl, Nat.le_of_ble_eq_true rfl⟩) (Nat.le_of_ble_eq_true rfl) (Nat.le_of_ble_eq_true rfl) (fun ad' f' H locs hw B => ?_)
      obtain ⟨rfl, rfl⟩ := hw
      refine lv_iconst (v := 1) hx hb dX2_actOnDate_30 (by decide) ?_
      have ev := (show v_X2_actOnDate dy re j1 a2 = (1, (v_X0_putDay dy j1 4), re) from by unfold v_X2_actOnDate; rw [if_neg c1, if_neg c2])
      exact rt_i X hr (ad, (cf g ad x sp (v_X0_putDay dy j1 4) la kn re)) B (PO_of B) ⟨rfl, by rw [ev], by rw [ev]⟩ rfl (Nat.le_of_ble_eq_true rfl) (Nat.le_of_ble_eq_true rfl) dX2_actOnDate_31
    · refine lv_iconst (v := 0) hx hb dX2_actOnDate_20 (by decide) ?_
      have ev := (show v_X2_actOnDate dy re j1 a2 = (0, dy, re) from by unfold v_X2_actOnDate; rw [if_neg c1, if_pos c2])
      exact rt_i X hr (ad, (cf g ad x sp dy la kn re)) B (PO_of B) ⟨rfl, by rw [ev], by rw [ev]⟩ rfl (Nat.le_of_ble_eq_true rfl) (Nat.le_of_ble_eq_true rfl) dX2_actOnDate_21
  · refine lv_aload_n hx hb dX2_actOnDate_4 rfl (lv_at hl 0 rfl) ?_
    refine k_i (k := 0) (n := 0) hA B (u_V (rest := []) X (c_X2_refuse l g N ad x sp dy la kn re hN H.size) mw_X2_refuse md_X2_refuse rfl lk_X2_94 ⟨Nat.le_of_ble_eq_true rfl, Nat.le_of_ble_eq_true rfl⟩ hA hK hT B (pl_c hN 0 (by decide)) cf_0 rfl rfl hl.1 rfl (Nat.le_of_ble_eq_true rfl) dX2_actOnDate_5 ⟨Nat.le_of_ble_eq_true rfl, Nat.le_of_ble_eq_true rfl⟩) (Nat.le_of_ble_eq_true rfl) (Nat.le_of_ble_eq_true rfl) (fun r ad' f' H locs hw B => ?_)
    obtain ⟨rfl, rfl, rfl⟩ := hw
    have ev := (show v_X2_actOnDate dy re j1 a2 = ((v_X2_refuse re).1, dy, (v_X2_refuse re).2) from by unfold v_X2_actOnDate; rw [if_pos c1])
    exact rt_i X hr (ad, (cf g ad x sp dy la kn (v_X2_refuse re).2)) B (PO_of B) ⟨rfl, by rw [ev], by rw [ev]⟩ rfl (Nat.le_of_ble_eq_true rfl) (Nat.le_of_ble_eq_true rfl) dX2_actOnDate_8
def v_X2_digestNext (b0 : Int64) (b1 : Int64) : Int64 := (b0 * 31) + b1
set_option maxHeartbeats 4000000 in
set_option maxRecDepth 100000 in
theorem c_X2_digestNext (l : Launch) (g : GG) (N : Nat) (ad : Nat → Nat) (x : Nat → va_E) (sp dy : Nat → TR) (la kn re : Int32) (hN : 23 ≤ N) (b0 : Int64) (b1 : Int64) : KL l yX2_digestNext cX2_digestNext 4 (rm 0 0 0) g [.long b0, .long b1] N ad (cf g ad x sp dy la kn re) N (fun r ad' f' => ad = ad' ∧ (v_X2_digestNext b0 b1) = r ∧ (cf g ad x sp dy la kn re) = f') := by
  intro sz
  refine mt_start (by decide) (Nat.le_of_ble_eq_true rfl) ?_
  intro p e s m args below meth c hsz X hr hnam hA hK hT H locs B ls hl
  obtain ⟨hx, hb, hml, hown, hts, hlocks⟩ := id X
  have hl : lv_has ls 4 [(0, .long b0), (2, .long b1)] := hl
  refine lv_lload_n hx hb dX2_digestNext_0 rfl (lv_at hl 0 rfl) ?_
  refine lv_ldc2 hx hb hown (hts _ (List.mem_cons_of_mem _ lk_X2_251)) dX2_digestNext_1 ?_
  refine lv_lmul hx hb dX2_digestNext_4 ?_
  refine lv_lload_n hx hb dX2_digestNext_5 rfl (lv_at hl 1 rfl) ?_
  refine lv_ladd hx hb dX2_digestNext_6 ?_
  have ev := (show v_X2_digestNext b0 b1 = (b0 * 31) + b1 from rfl)
  exact rt_l X hr (ad, (cf g ad x sp dy la kn re)) B (PO_of B) ⟨rfl, by rw [ev], rfl⟩ (Nat.le_of_ble_eq_true rfl) (Nat.le_of_ble_eq_true rfl) dX2_digestNext_7
def v_X2_resultSigns (sp : Nat → TR) (a1 : Int32) : Int32 := if a1 = 0 then 0 else (v_X1_signs sp 12)
set_option maxHeartbeats 4000000 in
set_option maxRecDepth 100000 in
theorem c_X2_resultSigns (l : Launch) (g : GG) (N : Nat) (ad : Nat → Nat) (x : Nat → va_E) (sp dy : Nat → TR) (la kn re : Int32) (hN : 23 ≤ N) (a1 : Int32) : KI l yX2_resultSigns cX2_resultSigns 2 (some .int) (rm 2 0 0) g [.ref (ad 0), .int a1] N ad (cf g ad x sp dy la kn re) N (fun r ad' f' => ad = ad' ∧ (v_X2_resultSigns sp a1) = r ∧ (cf g ad x sp dy la kn re) = f') := by
  intro sz
  refine mt_start (by decide) (Nat.le_of_ble_eq_true rfl) ?_
  intro p e s m args below meth c hsz X hr hnam hA hK hT H locs B ls hl
  obtain ⟨hx, hb, hml, hown, hts, hlocks⟩ := id X
  have hl : lv_has ls 2 [(0, .ref (ad 0)), (1, .int a1)] := hl
  refine lv_iload_n hx hb dX2_resultSigns_0 rfl (lv_at hl 1 rfl) ?_
  refine lv_if_eq (tgt := 14) hx hb dX2_resultSigns_1 (by decide) (fun c1 => ?_) (fun c1 => ?_)
  · refine lv_iconst (v := 0) hx hb dX2_resultSigns_14 (by decide) ?_
    have ev := (show v_X2_resultSigns sp a1 = 0 from by unfold v_X2_resultSigns; rw [if_pos c1])
    exact rt_i X hr (ad, (cf g ad x sp dy la kn re)) B (PO_of B) ⟨rfl, by rw [ev], rfl⟩ rfl (Nat.le_of_ble_eq_true rfl) (Nat.le_of_ble_eq_true rfl) dX2_resultSigns_15
  · refine lv_aload_n hx hb dX2_resultSigns_4 rfl (lv_at hl 0 rfl) ?_
    refine g_get (q := 0) (k := 6) X hK B rfl in_X2 (pl_c hN 0 (by decide)) cf_0 (by decide) lk_X2_25 rfl rfl dX2_resultSigns_5 ?_
    refine k_i (k := 0) (n := 0) hA B (u_VN (rest := []) X (c_X1_signs l g N ad x sp dy la kn re hN 12 (by decide) H.size) mw_X1_signs md_X1_signs rfl lk_X2_210 ⟨Nat.le_of_ble_eq_true rfl, Nat.le_of_ble_eq_true rfl⟩ hA hK hT B (pl_sp hN (by decide)) (cf_sp (by decide)) rfl rfl hl.1 rfl (Nat.le_of_ble_eq_true rfl) dX2_resultSigns_8 ⟨Nat.le_of_ble_eq_true rfl, Nat.le_of_ble_eq_true rfl⟩) (Nat.le_of_ble_eq_true rfl) (Nat.le_of_ble_eq_true rfl) (fun r ad' f' H locs hw B => ?_)
    obtain ⟨rfl, rfl, rfl⟩ := hw
    refine lv_goto (tgt := 15) hx hb dX2_resultSigns_11 (by decide) ?_
    have ev := (show v_X2_resultSigns sp a1 = (v_X1_signs sp 12) from by unfold v_X2_resultSigns; rw [if_neg c1])
    exact rt_i X hr (ad, (cf g ad x sp dy la kn re)) B (PO_of B) ⟨rfl, by rw [ev], rfl⟩ rfl (Nat.le_of_ble_eq_true rfl) (Nat.le_of_ble_eq_true rfl) dX2_resultSigns_15
def v_X2_reach (sp : Nat → TR) (dy : Nat → TR) (j1 : Nat) (i2 : Nat) (a3 : Int32) : Int32 × (Nat → TR) := if a3 = 0 then ((v_X0_putMoved dy 4 j1 (1 * (v_X1_allMonths sp i2)) (1 * ((sp i2).2.2.toInt64))).1, (v_X0_putMoved dy 4 j1 (1 * (v_X1_allMonths sp i2)) (1 * ((sp i2).2.2.toInt64))).2) else ((v_X0_putMoved dy 4 j1 ((-1) * (v_X1_allMonths sp i2)) ((-1) * ((sp i2).2.2.toInt64))).1, (v_X0_putMoved dy 4 j1 ((-1) * (v_X1_allMonths sp i2)) ((-1) * ((sp i2).2.2.toInt64))).2)
theorem kp_X2_reach_dy {sp : Nat → TR} {dy : Nat → TR} {j1 : Nat} {i2 : Nat} {a3 : Int32} {j : Nat} (h : j ≠ 4) : (v_X2_reach sp dy j1 i2 a3).2 j = dy j := by
  unfold v_X2_reach
  by_cases q1 : a3 = 0
  · rw [if_pos q1]
    first | (dsimp only; exact kp_X0_putMoved_dy h) | exact kp_X0_putMoved_dy h
  · rw [if_neg q1]
    first | (dsimp only; exact kp_X0_putMoved_dy h) | exact kp_X0_putMoved_dy h
theorem b01_X2_reach {sp : Nat → TR} {dy : Nat → TR} {j1 : Nat} {i2 : Nat} {a3 : Int32} : (v_X2_reach sp dy j1 i2 a3).1 = 0 ∨ (v_X2_reach sp dy j1 i2 a3).1 = 1 := by
  unfold v_X2_reach
  by_cases q1 : a3 = 0
  · rw [if_pos q1]
    first | (dsimp only; exact b01_X0_putMoved) | exact b01_X0_putMoved
  · rw [if_neg q1]
    first | (dsimp only; exact b01_X0_putMoved) | exact b01_X0_putMoved
set_option maxHeartbeats 4000000 in
set_option maxRecDepth 100000 in
theorem c_X2_reach (l : Launch) (g : GG) (N : Nat) (ad : Nat → Nat) (x : Nat → va_E) (sp dy : Nat → TR) (la kn re : Int32) (hN : 23 ≤ N) (j1 : Nat) (hj1 : j1 < 5) (i2 : Nat) (hi2 : i2 < 14) (a3 : Int32) : KI l yX2_reach cX2_reach 6 (some .boolean) (rm 4 0 0) g [.ref (ad 0), .ref (ad (18 + j1)), .ref (ad (4 + i2)), .int a3] N ad (cf g ad x sp dy la kn re) N (fun r ad' f' => ad = ad' ∧ (v_X2_reach sp dy j1 i2 a3).1 = r ∧ (cf g ad x sp (v_X2_reach sp dy j1 i2 a3).2 la kn re) = f') := by
  intro sz
  refine mt_start (by decide) (Nat.le_of_ble_eq_true rfl) ?_
  intro p e s m args below meth c hsz X hr hnam hA hK hT H locs B ls hl
  obtain ⟨hx, hb, hml, hown, hts, hlocks⟩ := id X
  have hl : lv_has ls 6 [(0, .ref (ad 0)), (1, .ref (ad (18 + j1))), (2, .ref (ad (4 + i2))), (3, .int a3)] := hl
  refine lv_iload_n hx hb dX2_reach_0 rfl (lv_at hl 3 rfl) ?_
  refine lv_if_eq (tgt := 10) hx hb dX2_reach_1 (by decide) (fun c1 => ?_) (fun c1 => ?_)
  · refine lv_lconst (v := 1) hx hb dX2_reach_10 (by decide) ?_
    refine lv_lstore (lv' := [(4, .long 1), (0, .ref (ad 0)), (1, .ref (ad (18 + j1))), (2, .ref (ad (4 + i2))), (3, .int a3)]) hx hb dX2_reach_11 hl (by decide) rfl (fun ls hl => ?_)
    refine lv_aload_n hx hb dX2_reach_13 rfl (lv_at hl 1 rfl) ?_
    refine g_get (q := 0) (k := 8) X hK B rfl in_X2 (pl_c hN 0 (by decide)) cf_0 (by decide) lk_X2_33 rfl rfl dX2_reach_14 ?_
    refine lv_aload_n hx hb dX2_reach_17 rfl (lv_at hl 2 rfl) ?_
    refine lv_lload hx hb dX2_reach_18 (lv_at hl 0 rfl) ?_
    refine lv_aload_n hx hb dX2_reach_20 rfl (lv_at hl 3 rfl) ?_
    refine k_l (k := 0) (n := 0) hA B (u_VN (rest := [.long 1, .ref (ad (18 + j1)), .ref (ad (18 + 4))]) X (c_X1_allMonths l g N ad x sp dy la kn re hN i2 hi2 H.size) mw_X1_allMonths md_X1_allMonths rfl lk_X2_108 ⟨Nat.le_of_ble_eq_true rfl, Nat.le_of_ble_eq_true rfl⟩ hA hK hT B (pl_sp hN hi2) (cf_sp hi2) rfl rfl hl.1 rfl (Nat.le_of_ble_eq_true rfl) dX2_reach_21 ⟨Nat.le_of_ble_eq_true rfl, Nat.le_of_ble_eq_true rfl⟩) (Nat.le_of_ble_eq_true rfl) (Nat.le_of_ble_eq_true rfl) (fun r ad' f' H locs hw B => ?_)
    obtain ⟨rfl, rfl, rfl⟩ := hw
    refine lv_lmul hx hb dX2_reach_24 ?_
    refine lv_lload hx hb dX2_reach_25 (lv_at hl 0 rfl) ?_
    refine lv_aload_n hx hb dX2_reach_27 rfl (lv_at hl 3 rfl) ?_
    refine g_getN (q := (4 + i2)) (k := 2) X hK hT B rfl in_X1 (pl_sp hN hi2) (cf_sp hi2) (by decide) lk_X2_62 rfl rfl dX2_reach_28 ?_
    refine lv_i2l (v := (sp i2).2.2.toInt64) hx hb dX2_reach_31 rfl ?_
    refine lv_lmul hx hb dX2_reach_32 ?_
    refine k_i (k := 0) (n := 0) hA B (u_VN (rest := []) X (c_X0_putMoved l g N ad x sp dy la kn re hN 4 (by decide) j1 hj1 (1 * (v_X1_allMonths sp i2)) (1 * ((sp i2).2.2.toInt64)) H.size) mw_X0_putMoved md_X0_putMoved rfl lk_X2_241 ⟨Nat.le_of_ble_eq_true rfl, Nat.le_of_ble_eq_true rfl⟩ hA hK hT B (pl_dy hN (by decide)) (cf_dy (by decide)) rfl rfl hl.1 rfl (Nat.le_of_ble_eq_true rfl) dX2_reach_33 ⟨Nat.le_of_ble_eq_true rfl, Nat.le_of_ble_eq_true rfl⟩) (Nat.le_of_ble_eq_true rfl) (Nat.le_of_ble_eq_true rfl) (fun r ad' f' H locs hw B => ?_)
    obtain ⟨rfl, rfl, rfl⟩ := hw
    have ev := (show v_X2_reach sp dy j1 i2 a3 = ((v_X0_putMoved dy 4 j1 (1 * (v_X1_allMonths sp i2)) (1 * ((sp i2).2.2.toInt64))).1, (v_X0_putMoved dy 4 j1 (1 * (v_X1_allMonths sp i2)) (1 * ((sp i2).2.2.toInt64))).2) from by unfold v_X2_reach; rw [if_pos c1])
    exact rt_i X hr (ad, (cf g ad x sp (v_X0_putMoved dy 4 j1 (1 * (v_X1_allMonths sp i2)) (1 * ((sp i2).2.2.toInt64))).2 la kn re)) B (PO_of B) ⟨rfl, by rw [ev], by rw [ev]⟩ (nb_of b01_X0_putMoved) (Nat.le_of_ble_eq_true rfl) (Nat.le_of_ble_eq_true rfl) dX2_reach_36
  · refine lv_ldc2 hx hb hown (hts _ (List.mem_cons_of_mem _ lk_X2_239)) dX2_reach_4 ?_
    refine lv_goto (tgt := 11) hx hb dX2_reach_7 (by decide) ?_
    refine lv_lstore (lv' := [(4, .long (-1)), (0, .ref (ad 0)), (1, .ref (ad (18 + j1))), (2, .ref (ad (4 + i2))), (3, .int a3)]) hx hb dX2_reach_11 hl (by decide) rfl (fun ls hl => ?_)
    refine lv_aload_n hx hb dX2_reach_13 rfl (lv_at hl 1 rfl) ?_
    refine g_get (q := 0) (k := 8) X hK B rfl in_X2 (pl_c hN 0 (by decide)) cf_0 (by decide) lk_X2_33 rfl rfl dX2_reach_14 ?_
    refine lv_aload_n hx hb dX2_reach_17 rfl (lv_at hl 2 rfl) ?_
    refine lv_lload hx hb dX2_reach_18 (lv_at hl 0 rfl) ?_
    refine lv_aload_n hx hb dX2_reach_20 rfl (lv_at hl 3 rfl) ?_
    refine k_l (k := 0) (n := 0) hA B (u_VN (rest := [.long (-1), .ref (ad (18 + j1)), .ref (ad (18 + 4))]) X (c_X1_allMonths l g N ad x sp dy la kn re hN i2 hi2 H.size) mw_X1_allMonths md_X1_allMonths rfl lk_X2_108 ⟨Nat.le_of_ble_eq_true rfl, Nat.le_of_ble_eq_true rfl⟩ hA hK hT B (pl_sp hN hi2) (cf_sp hi2) rfl rfl hl.1 rfl (Nat.le_of_ble_eq_true rfl) dX2_reach_21 ⟨Nat.le_of_ble_eq_true rfl, Nat.le_of_ble_eq_true rfl⟩) (Nat.le_of_ble_eq_true rfl) (Nat.le_of_ble_eq_true rfl) (fun r ad' f' H locs hw B => ?_)
    obtain ⟨rfl, rfl, rfl⟩ := hw
    refine lv_lmul hx hb dX2_reach_24 ?_
    refine lv_lload hx hb dX2_reach_25 (lv_at hl 0 rfl) ?_
    refine lv_aload_n hx hb dX2_reach_27 rfl (lv_at hl 3 rfl) ?_
    refine g_getN (q := (4 + i2)) (k := 2) X hK hT B rfl in_X1 (pl_sp hN hi2) (cf_sp hi2) (by decide) lk_X2_62 rfl rfl dX2_reach_28 ?_
    refine lv_i2l (v := (sp i2).2.2.toInt64) hx hb dX2_reach_31 rfl ?_
    refine lv_lmul hx hb dX2_reach_32 ?_
    refine k_i (k := 0) (n := 0) hA B (u_VN (rest := []) X (c_X0_putMoved l g N ad x sp dy la kn re hN 4 (by decide) j1 hj1 ((-1) * (v_X1_allMonths sp i2)) ((-1) * ((sp i2).2.2.toInt64)) H.size) mw_X0_putMoved md_X0_putMoved rfl lk_X2_241 ⟨Nat.le_of_ble_eq_true rfl, Nat.le_of_ble_eq_true rfl⟩ hA hK hT B (pl_dy hN (by decide)) (cf_dy (by decide)) rfl rfl hl.1 rfl (Nat.le_of_ble_eq_true rfl) dX2_reach_33 ⟨Nat.le_of_ble_eq_true rfl, Nat.le_of_ble_eq_true rfl⟩) (Nat.le_of_ble_eq_true rfl) (Nat.le_of_ble_eq_true rfl) (fun r ad' f' H locs hw B => ?_)
    obtain ⟨rfl, rfl, rfl⟩ := hw
    have ev := (show v_X2_reach sp dy j1 i2 a3 = ((v_X0_putMoved dy 4 j1 ((-1) * (v_X1_allMonths sp i2)) ((-1) * ((sp i2).2.2.toInt64))).1, (v_X0_putMoved dy 4 j1 ((-1) * (v_X1_allMonths sp i2)) ((-1) * ((sp i2).2.2.toInt64))).2) from by unfold v_X2_reach; rw [if_neg c1])
    exact rt_i X hr (ad, (cf g ad x sp (v_X0_putMoved dy 4 j1 ((-1) * (v_X1_allMonths sp i2)) ((-1) * ((sp i2).2.2.toInt64))).2 la kn re)) B (PO_of B) ⟨rfl, by rw [ev], by rw [ev]⟩ (nb_of b01_X0_putMoved) (Nat.le_of_ble_eq_true rfl) (Nat.le_of_ble_eq_true rfl) dX2_reach_36
def v_X2_leads (sp : Nat → TR) (dy : Nat → TR) (j1 : Nat) (i2 : Nat) (j3 : Nat) : Int32 × (Nat → TR) := if (v_X0_putMoved dy 4 j1 (v_X1_allMonths sp i2) ((sp i2).2.2.toInt64)).1 = 0 then (0, (v_X0_putMoved dy 4 j1 (v_X1_allMonths sp i2) ((sp i2).2.2.toInt64)).2) else (if (v_X0_orderTo (v_X0_putMoved dy 4 j1 (v_X1_allMonths sp i2) ((sp i2).2.2.toInt64)).2 4 j3) = 0 then (1, (v_X0_putMoved dy 4 j1 (v_X1_allMonths sp i2) ((sp i2).2.2.toInt64)).2) else (0, (v_X0_putMoved dy 4 j1 (v_X1_allMonths sp i2) ((sp i2).2.2.toInt64)).2))
theorem kp_X2_leads_dy {sp : Nat → TR} {dy : Nat → TR} {j1 : Nat} {i2 : Nat} {j3 : Nat} {j : Nat} (h : j ≠ 4) : (v_X2_leads sp dy j1 i2 j3).2 j = dy j := by
  unfold v_X2_leads
  by_cases q1 : (v_X0_putMoved dy 4 j1 (v_X1_allMonths sp i2) ((sp i2).2.2.toInt64)).1 = 0
  · rw [if_pos q1]
    first | (dsimp only; exact kp_X0_putMoved_dy h) | exact kp_X0_putMoved_dy h
  · rw [if_neg q1]
    by_cases q2 : (v_X0_orderTo (v_X0_putMoved dy 4 j1 (v_X1_allMonths sp i2) ((sp i2).2.2.toInt64)).2 4 j3) = 0
    · rw [if_pos q2]
      first | (dsimp only; exact kp_X0_putMoved_dy h) | exact kp_X0_putMoved_dy h
    · rw [if_neg q2]
      first | (dsimp only; exact kp_X0_putMoved_dy h) | exact kp_X0_putMoved_dy h
theorem b01_X2_leads {sp : Nat → TR} {dy : Nat → TR} {j1 : Nat} {i2 : Nat} {j3 : Nat} : (v_X2_leads sp dy j1 i2 j3).1 = 0 ∨ (v_X2_leads sp dy j1 i2 j3).1 = 1 := by
  unfold v_X2_leads
  by_cases q1 : (v_X0_putMoved dy 4 j1 (v_X1_allMonths sp i2) ((sp i2).2.2.toInt64)).1 = 0
  · rw [if_pos q1]
    exact Or.inl rfl
  · rw [if_neg q1]
    by_cases q2 : (v_X0_orderTo (v_X0_putMoved dy 4 j1 (v_X1_allMonths sp i2) ((sp i2).2.2.toInt64)).2 4 j3) = 0
    · rw [if_pos q2]
      exact Or.inr rfl
    · rw [if_neg q2]
      exact Or.inl rfl
set_option maxHeartbeats 4000000 in
set_option maxRecDepth 100000 in
theorem c_X2_leads (l : Launch) (g : GG) (N : Nat) (ad : Nat → Nat) (x : Nat → va_E) (sp dy : Nat → TR) (la kn re : Int32) (hN : 23 ≤ N) (j1 : Nat) (hj1 : j1 < 5) (i2 : Nat) (hi2 : i2 < 14) (j3 : Nat) (hj3 : j3 < 5) : KI l yX2_leads cX2_leads 4 (some .boolean) (rm 4 0 0) g [.ref (ad 0), .ref (ad (18 + j1)), .ref (ad (4 + i2)), .ref (ad (18 + j3))] N ad (cf g ad x sp dy la kn re) N (fun r ad' f' => ad = ad' ∧ (v_X2_leads sp dy j1 i2 j3).1 = r ∧ (cf g ad x sp (v_X2_leads sp dy j1 i2 j3).2 la kn re) = f') := by
  intro sz
  refine mt_start (by decide) (Nat.le_of_ble_eq_true rfl) ?_
  intro p e s m args below meth c hsz X hr hnam hA hK hT H locs B ls hl
  obtain ⟨hx, hb, hml, hown, hts, hlocks⟩ := id X
  have hl : lv_has ls 4 [(0, .ref (ad 0)), (1, .ref (ad (18 + j1))), (2, .ref (ad (4 + i2))), (3, .ref (ad (18 + j3)))] := hl
  refine lv_aload_n hx hb dX2_leads_0 rfl (lv_at hl 0 rfl) ?_
  refine g_get (q := 0) (k := 8) X hK B rfl in_X2 (pl_c hN 0 (by decide)) cf_0 (by decide) lk_X2_33 rfl rfl dX2_leads_1 ?_
  refine lv_aload_n hx hb dX2_leads_4 rfl (lv_at hl 1 rfl) ?_
  refine lv_aload_n hx hb dX2_leads_5 rfl (lv_at hl 2 rfl) ?_
  refine k_l (k := 0) (n := 0) hA B (u_VN (rest := [.ref (ad (18 + j1)), .ref (ad (18 + 4))]) X (c_X1_allMonths l g N ad x sp dy la kn re hN i2 hi2 H.size) mw_X1_allMonths md_X1_allMonths rfl lk_X2_108 ⟨Nat.le_of_ble_eq_true rfl, Nat.le_of_ble_eq_true rfl⟩ hA hK hT B (pl_sp hN hi2) (cf_sp hi2) rfl rfl hl.1 rfl (Nat.le_of_ble_eq_true rfl) dX2_leads_6 ⟨Nat.le_of_ble_eq_true rfl, Nat.le_of_ble_eq_true rfl⟩) (Nat.le_of_ble_eq_true rfl) (Nat.le_of_ble_eq_true rfl) (fun r ad' f' H locs hw B => ?_)
  obtain ⟨rfl, rfl, rfl⟩ := hw
  refine lv_aload_n hx hb dX2_leads_9 rfl (lv_at hl 2 rfl) ?_
  refine g_getN (q := (4 + i2)) (k := 2) X hK hT B rfl in_X1 (pl_sp hN hi2) (cf_sp hi2) (by decide) lk_X2_62 rfl rfl dX2_leads_10 ?_
  refine lv_i2l (v := (sp i2).2.2.toInt64) hx hb dX2_leads_13 rfl ?_
  refine k_i (k := 0) (n := 0) hA B (u_VN (rest := []) X (c_X0_putMoved l g N ad x sp dy la kn re hN 4 (by decide) j1 hj1 (v_X1_allMonths sp i2) ((sp i2).2.2.toInt64) H.size) mw_X0_putMoved md_X0_putMoved rfl lk_X2_241 ⟨Nat.le_of_ble_eq_true rfl, Nat.le_of_ble_eq_true rfl⟩ hA hK hT B (pl_dy hN (by decide)) (cf_dy (by decide)) rfl rfl hl.1 rfl (Nat.le_of_ble_eq_true rfl) dX2_leads_14 ⟨Nat.le_of_ble_eq_true rfl, Nat.le_of_ble_eq_true rfl⟩) (Nat.le_of_ble_eq_true rfl) (Nat.le_of_ble_eq_true rfl) (fun r ad' f' H locs hw B => ?_)
  obtain ⟨rfl, rfl, rfl⟩ := hw
  refine lv_if_eq (tgt := 35) hx hb dX2_leads_17 (by decide) (fun c1 => ?_) (fun c1 => ?_)
  · refine lv_iconst (v := 0) hx hb dX2_leads_35 (by decide) ?_
    have ev := (show v_X2_leads sp dy j1 i2 j3 = (0, (v_X0_putMoved dy 4 j1 (v_X1_allMonths sp i2) ((sp i2).2.2.toInt64)).2) from by unfold v_X2_leads; rw [if_pos c1])
    exact rt_i X hr (ad, (cf g ad x sp (v_X0_putMoved dy 4 j1 (v_X1_allMonths sp i2) ((sp i2).2.2.toInt64)).2 la kn re)) B (PO_of B) ⟨rfl, by rw [ev], by rw [ev]⟩ rfl (Nat.le_of_ble_eq_true rfl) (Nat.le_of_ble_eq_true rfl) dX2_leads_36
  · refine lv_aload_n hx hb dX2_leads_20 rfl (lv_at hl 0 rfl) ?_
    refine g_get (q := 0) (k := 8) X hK B rfl in_X2 (pl_c hN 0 (by decide)) cf_0 (by decide) lk_X2_33 rfl rfl dX2_leads_21 ?_
    refine lv_aload_n hx hb dX2_leads_24 rfl (lv_at hl 3 rfl) ?_
    refine k_i (k := 0) (n := 0) hA B (u_VN (rest := []) X (c_X0_orderTo l g N ad x sp (v_X0_putMoved dy 4 j1 (v_X1_allMonths sp i2) ((sp i2).2.2.toInt64)).2 la kn re hN 4 (by decide) j3 hj3 H.size) mw_X0_orderTo md_X0_orderTo rfl lk_X2_181 ⟨Nat.le_of_ble_eq_true rfl, Nat.le_of_ble_eq_true rfl⟩ hA hK hT B (pl_dy hN (by decide)) (cf_dy (by decide)) rfl rfl hl.1 rfl (Nat.le_of_ble_eq_true rfl) dX2_leads_25 ⟨Nat.le_of_ble_eq_true rfl, Nat.le_of_ble_eq_true rfl⟩) (Nat.le_of_ble_eq_true rfl) (Nat.le_of_ble_eq_true rfl) (fun r ad' f' H locs hw B => ?_)
    obtain ⟨rfl, rfl, rfl⟩ := hw
    refine lv_if_ne (tgt := 35) hx hb dX2_leads_28 (by decide) (fun c2 => ?_) (fun c2 => ?_)
    · refine lv_iconst (v := 0) hx hb dX2_leads_35 (by decide) ?_
      have ev := (show v_X2_leads sp dy j1 i2 j3 = (0, (v_X0_putMoved dy 4 j1 (v_X1_allMonths sp i2) ((sp i2).2.2.toInt64)).2) from by unfold v_X2_leads; rw [if_neg c1, if_neg c2])
      exact rt_i X hr (ad, (cf g ad x sp (v_X0_putMoved dy 4 j1 (v_X1_allMonths sp i2) ((sp i2).2.2.toInt64)).2 la kn re)) B (PO_of B) ⟨rfl, by rw [ev], by rw [ev]⟩ rfl (Nat.le_of_ble_eq_true rfl) (Nat.le_of_ble_eq_true rfl) dX2_leads_36
    · refine lv_iconst (v := 1) hx hb dX2_leads_31 (by decide) ?_
      refine lv_goto (tgt := 36) hx hb dX2_leads_32 (by decide) ?_
      have ev := (show v_X2_leads sp dy j1 i2 j3 = (1, (v_X0_putMoved dy 4 j1 (v_X1_allMonths sp i2) ((sp i2).2.2.toInt64)).2) from by unfold v_X2_leads; rw [if_neg c1, if_pos c2])
      exact rt_i X hr (ad, (cf g ad x sp (v_X0_putMoved dy 4 j1 (v_X1_allMonths sp i2) ((sp i2).2.2.toInt64)).2 la kn re)) B (PO_of B) ⟨rfl, by rw [ev], by rw [ev]⟩ rfl (Nat.le_of_ble_eq_true rfl) (Nat.le_of_ble_eq_true rfl) dX2_leads_36
def x_X2_cardAt (a1 : Int32) : Option String := if a1 < 0 then (some iobN) else (if a1 < 4 then none else (some iobN))
theorem xl_X2_cardAt {a1 : Int32} (h : x_X2_cardAt a1 = none) : a1.toNatClampNeg < 4 := by
  unfold x_X2_cardAt at h
  by_cases c1 : a1 < 0
  · rw [if_pos c1] at h; cases h
  · rw [if_neg c1] at h
    by_cases c2 : a1 < 4
    · exact ix_lt c1 (ix_nl c2) rfl
    · rw [if_neg c2] at h; cases h
set_option maxHeartbeats 4000000 in
set_option maxRecDepth 100000 in
theorem c_X2_cardAt (l : Launch) (hfl : l.stackTraces = false) (g : GG) (N : Nat) (ad : Nat → Nat) (x : Nat → va_E) (sp dy : Nat → TR) (la kn re : Int32) (hN : 23 ≤ N) (a1 : Int32) : XR l yX2_cardAt cX2_cardAt 2 (.object "Periodcard$Span") (rm 1 1 6) g [.ref (ad 0), .int a1] N ad (cf g ad x sp dy la kn re) N (fun E => x_X2_cardAt a1 = some E) (fun r ad' f' => ad = ad' ∧ x_X2_cardAt a1 = none ∧ some (ad (4 + a1.toNatClampNeg)) = r ∧ (cf g ad x sp dy la kn re) = f') := by
  intro sz
  refine mx_start (by decide) (Nat.le_of_ble_eq_true rfl) ?_
  intro p e s m args below meth c hsz X hr hex hA hK hT H locs B ls hl
  obtain ⟨hx, hb, hml, hown, hts, hlocks⟩ := id X
  have hl : lv_has ls 2 [(0, .ref (ad 0)), (1, .int a1)] := hl
  refine lv_iload_n hx hb dX2_cardAt_0 rfl (lv_at hl 1 rfl) ?_
  refine lv_if_lt (tgt := 9) hx hb dX2_cardAt_1 (by decide) (fun c1 => ?_) (fun c1 => ?_)
  · exact g_throw (cls := "java/lang/IndexOutOfBoundsException") (names := ["java/lang/RuntimeException", "java/lang/Exception"]) (i := 4) X hfl (by decide) lk_X2_227 ii_java_lang_IndexOutOfBoundsException (by decide) rfl at_X2_231 ag_X2_231 hex hsz hT B hl.1 dX2_cardAt_9 dX2_cardAt_12 dX2_cardAt_13 dX2_cardAt_15 dX2_cardAt_18 (by decide) (Nat.le_of_ble_eq_true rfl) (Nat.le_of_ble_eq_true rfl) (Nat.le_of_ble_eq_true rfl) (by unfold x_X2_cardAt; rw [if_pos c1]; rfl) (Nat.le_of_ble_eq_true rfl) (Nat.le_of_ble_eq_true rfl)
  · refine lv_iload_n hx hb dX2_cardAt_4 rfl (lv_at hl 1 rfl) ?_
    refine lv_iconst (v := 4) hx hb dX2_cardAt_5 (by decide) ?_
    refine lv_icmp_lt (tgt := 19) hx hb dX2_cardAt_6 (by decide) (fun c2 => ?_) (fun c2 => ?_)
    · refine lv_aload_n hx hb dX2_cardAt_19 rfl (lv_at hl 0 rfl) ?_
      refine g_get (q := 0) (k := 0) X hK B rfl in_X2 (pl_c hN 0 (by decide)) cf_0 (by decide) lk_X2_11 rfl rfl dX2_cardAt_20 ?_
      refine lv_iload_n hx hb dX2_cardAt_23 rfl (lv_at hl 1 rfl) ?_
      refine g_aald (q := 1) (t0 := 3) X hK B (pl_c hN 1 (by decide)) cf_1 rfl rfl (ix_in (n := 4) c1 (ix_nl c2) rfl) dX2_cardAt_24 ?_
      have h3 : a1.toNatClampNeg < 14 := by have := (ix_lt (n := 4) c1 (ix_nl c2) rfl); omega
      exact vx_ret (rt_r (r := some (ad (4 + a1.toNatClampNeg))) rfl X hr (Or.inl ⟨_, rfl⟩) (ad, (cf g ad x sp dy la kn re)) B (PO_of B) ⟨rfl, by unfold x_X2_cardAt; rw [if_neg c1, if_pos c2], rfl, rfl⟩ (Nat.le_of_ble_eq_true rfl) (Nat.le_of_ble_eq_true rfl) dX2_cardAt_25)
    · exact g_throw (cls := "java/lang/IndexOutOfBoundsException") (names := ["java/lang/RuntimeException", "java/lang/Exception"]) (i := 4) X hfl (by decide) lk_X2_227 ii_java_lang_IndexOutOfBoundsException (by decide) rfl at_X2_231 ag_X2_231 hex hsz hT B hl.1 dX2_cardAt_9 dX2_cardAt_12 dX2_cardAt_13 dX2_cardAt_15 dX2_cardAt_18 (by decide) (Nat.le_of_ble_eq_true rfl) (Nat.le_of_ble_eq_true rfl) (Nat.le_of_ble_eq_true rfl) (by unfold x_X2_cardAt; rw [if_neg c1, if_neg c2]; rfl) (Nat.le_of_ble_eq_true rfl) (Nat.le_of_ble_eq_true rfl)
def x_X2_dateAt (a1 : Int32) : Option String := if a1 < 0 then (some iobN) else (if a1 < 4 then none else (some iobN))
theorem xl_X2_dateAt {a1 : Int32} (h : x_X2_dateAt a1 = none) : a1.toNatClampNeg < 4 := by
  unfold x_X2_dateAt at h
  by_cases c1 : a1 < 0
  · rw [if_pos c1] at h; cases h
  · rw [if_neg c1] at h
    by_cases c2 : a1 < 4
    · exact ix_lt c1 (ix_nl c2) rfl
    · rw [if_neg c2] at h; cases h
set_option maxHeartbeats 4000000 in
set_option maxRecDepth 100000 in
theorem c_X2_dateAt (l : Launch) (hfl : l.stackTraces = false) (g : GG) (N : Nat) (ad : Nat → Nat) (x : Nat → va_E) (sp dy : Nat → TR) (la kn re : Int32) (hN : 23 ≤ N) (a1 : Int32) : XR l yX2_dateAt cX2_dateAt 2 (.object "Periodcard$Day") (rm 1 1 6) g [.ref (ad 0), .int a1] N ad (cf g ad x sp dy la kn re) N (fun E => x_X2_dateAt a1 = some E) (fun r ad' f' => ad = ad' ∧ x_X2_dateAt a1 = none ∧ some (ad (18 + a1.toNatClampNeg)) = r ∧ (cf g ad x sp dy la kn re) = f') := by
  intro sz
  refine mx_start (by decide) (Nat.le_of_ble_eq_true rfl) ?_
  intro p e s m args below meth c hsz X hr hex hA hK hT H locs B ls hl
  obtain ⟨hx, hb, hml, hown, hts, hlocks⟩ := id X
  have hl : lv_has ls 2 [(0, .ref (ad 0)), (1, .int a1)] := hl
  refine lv_iload_n hx hb dX2_dateAt_0 rfl (lv_at hl 1 rfl) ?_
  refine lv_if_lt (tgt := 9) hx hb dX2_dateAt_1 (by decide) (fun c1 => ?_) (fun c1 => ?_)
  · exact g_throw (cls := "java/lang/IndexOutOfBoundsException") (names := ["java/lang/RuntimeException", "java/lang/Exception"]) (i := 7) X hfl (by decide) lk_X2_227 ii_java_lang_IndexOutOfBoundsException (by decide) rfl at_X2_231 ag_X2_231 hex hsz hT B hl.1 dX2_dateAt_9 dX2_dateAt_12 dX2_dateAt_13 dX2_dateAt_15 dX2_dateAt_18 (by decide) (Nat.le_of_ble_eq_true rfl) (Nat.le_of_ble_eq_true rfl) (Nat.le_of_ble_eq_true rfl) (by unfold x_X2_dateAt; rw [if_pos c1]; rfl) (Nat.le_of_ble_eq_true rfl) (Nat.le_of_ble_eq_true rfl)
  · refine lv_iload_n hx hb dX2_dateAt_4 rfl (lv_at hl 1 rfl) ?_
    refine lv_iconst (v := 4) hx hb dX2_dateAt_5 (by decide) ?_
    refine lv_icmp_lt (tgt := 19) hx hb dX2_dateAt_6 (by decide) (fun c2 => ?_) (fun c2 => ?_)
    · refine lv_aload_n hx hb dX2_dateAt_19 rfl (lv_at hl 0 rfl) ?_
      refine g_get (q := 0) (k := 2) X hK B rfl in_X2 (pl_c hN 0 (by decide)) cf_0 (by decide) lk_X2_20 rfl rfl dX2_dateAt_20 ?_
      refine lv_iload_n hx hb dX2_dateAt_23 rfl (lv_at hl 1 rfl) ?_
      refine g_aald (q := 3) (t0 := 4) X hK B (pl_c hN 3 (by decide)) cf_3 rfl rfl (ix_in (n := 4) c1 (ix_nl c2) rfl) dX2_dateAt_24 ?_
      have h3 : a1.toNatClampNeg < 5 := by have := (ix_lt (n := 4) c1 (ix_nl c2) rfl); omega
      exact vx_ret (rt_r (r := some (ad (18 + a1.toNatClampNeg))) rfl X hr (Or.inl ⟨_, rfl⟩) (ad, (cf g ad x sp dy la kn re)) B (PO_of B) ⟨rfl, by unfold x_X2_dateAt; rw [if_neg c1, if_pos c2], rfl, rfl⟩ (Nat.le_of_ble_eq_true rfl) (Nat.le_of_ble_eq_true rfl) dX2_dateAt_25)
    · exact g_throw (cls := "java/lang/IndexOutOfBoundsException") (names := ["java/lang/RuntimeException", "java/lang/Exception"]) (i := 7) X hfl (by decide) lk_X2_227 ii_java_lang_IndexOutOfBoundsException (by decide) rfl at_X2_231 ag_X2_231 hex hsz hT B hl.1 dX2_dateAt_9 dX2_dateAt_12 dX2_dateAt_13 dX2_dateAt_15 dX2_dateAt_18 (by decide) (Nat.le_of_ble_eq_true rfl) (Nat.le_of_ble_eq_true rfl) (Nat.le_of_ble_eq_true rfl) (by unfold x_X2_dateAt; rw [if_neg c1, if_neg c2]; rfl) (Nat.le_of_ble_eq_true rfl) (Nat.le_of_ble_eq_true rfl)
def x_X2_checkWhat (a0 : Int32) (a1 : Int32) : Option String := if a0 < 0 then (some iaeN) else (if a0 < a1 then none else (some iaeN))
set_option maxHeartbeats 4000000 in
set_option maxRecDepth 100000 in
theorem c_X2_checkWhat (l : Launch) (hfl : l.stackTraces = false) (g : GG) (N : Nat) (ad : Nat → Nat) (x : Nat → va_E) (sp dy : Nat → TR) (la kn re : Int32) (hN : 23 ≤ N) (a0 : Int32) (a1 : Int32) : XV l yX2_checkWhat cX2_checkWhat 2 (rm 1 1 6) g [.int a0, .int a1] N ad (cf g ad x sp dy la kn re) N (fun E => x_X2_checkWhat a0 a1 = some E) (fun ad' f' => ad = ad' ∧ x_X2_checkWhat a0 a1 = none ∧ (cf g ad x sp dy la kn re) = f') := by
  intro sz
  refine mx_start (by decide) (Nat.le_of_ble_eq_true rfl) ?_
  intro p e s m args below meth c hsz X hr hex hA hK hT H locs B ls hl
  obtain ⟨hx, hb, hml, hown, hts, hlocks⟩ := id X
  have hl : lv_has ls 2 [(0, .int a0), (1, .int a1)] := hl
  refine lv_iload_n hx hb dX2_checkWhat_0 rfl (lv_at hl 0 rfl) ?_
  refine lv_if_lt (tgt := 9) hx hb dX2_checkWhat_1 (by decide) (fun c1 => ?_) (fun c1 => ?_)
  · exact g_throw (cls := "java/lang/IllegalArgumentException") (names := ["java/lang/RuntimeException", "java/lang/Exception"]) (i := 5) X hfl (by decide) lk_X2_133 ii_java_lang_IllegalArgumentException (by decide) rfl at_X2_137 ag_X2_137 hex hsz hT B hl.1 dX2_checkWhat_9 dX2_checkWhat_12 dX2_checkWhat_13 dX2_checkWhat_15 dX2_checkWhat_18 (by decide) (Nat.le_of_ble_eq_true rfl) (Nat.le_of_ble_eq_true rfl) (Nat.le_of_ble_eq_true rfl) (by unfold x_X2_checkWhat; rw [if_pos c1]; rfl) (Nat.le_of_ble_eq_true rfl) (Nat.le_of_ble_eq_true rfl)
  · refine lv_iload_n hx hb dX2_checkWhat_4 rfl (lv_at hl 0 rfl) ?_
    refine lv_iload_n hx hb dX2_checkWhat_5 rfl (lv_at hl 1 rfl) ?_
    refine lv_icmp_lt (tgt := 19) hx hb dX2_checkWhat_6 (by decide) (fun c2 => ?_) (fun c2 => ?_)
    · exact vx_ret (rt_v X hr (ad, (cf g ad x sp dy la kn re)) B (PO_of B) ⟨rfl, by unfold x_X2_checkWhat; rw [if_neg c1, if_pos c2], rfl⟩ (Nat.le_of_ble_eq_true rfl) (Nat.le_of_ble_eq_true rfl) dX2_checkWhat_19)
    · exact g_throw (cls := "java/lang/IllegalArgumentException") (names := ["java/lang/RuntimeException", "java/lang/Exception"]) (i := 5) X hfl (by decide) lk_X2_133 ii_java_lang_IllegalArgumentException (by decide) rfl at_X2_137 ag_X2_137 hex hsz hT B hl.1 dX2_checkWhat_9 dX2_checkWhat_12 dX2_checkWhat_13 dX2_checkWhat_15 dX2_checkWhat_18 (by decide) (Nat.le_of_ble_eq_true rfl) (Nat.le_of_ble_eq_true rfl) (Nat.le_of_ble_eq_true rfl) (by unfold x_X2_checkWhat; rw [if_neg c1, if_neg c2]; rfl) (Nat.le_of_ble_eq_true rfl) (Nat.le_of_ble_eq_true rfl)
end
section
def v_X2_write (sp : Nat → TR) (re : Int32) (a1 : Int32) (a2 : Int32) (a3 : Int32) (a4 : Int32) : Int32 × (Nat → TR) × Int32 := ((v_X2_actOnCard (v_X1_put sp 12 a2.toInt64 a3.toInt64 a4.toInt64).2 re a1.toNatClampNeg (v_X1_put sp 12 a2.toInt64 a3.toInt64 a4.toInt64).1).1, (v_X2_actOnCard (v_X1_put sp 12 a2.toInt64 a3.toInt64 a4.toInt64).2 re a1.toNatClampNeg (v_X1_put sp 12 a2.toInt64 a3.toInt64 a4.toInt64).1).2.1, (v_X2_actOnCard (v_X1_put sp 12 a2.toInt64 a3.toInt64 a4.toInt64).2 re a1.toNatClampNeg (v_X1_put sp 12 a2.toInt64 a3.toInt64 a4.toInt64).1).2.2)
def x_X2_write (a1 : Int32) : Option String := xo (x_X2_cardAt a1) none
set_option maxHeartbeats 4000000 in
set_option maxRecDepth 100000 in
theorem c_X2_write (l : Launch) (hfl : l.stackTraces = false) (g : GG) (N : Nat) (ad : Nat → Nat) (x : Nat → va_E) (sp dy : Nat → TR) (la kn re : Int32) (hN : 23 ≤ N) (a1 : Int32) (a2 : Int32) (a3 : Int32) (a4 : Int32) : XI l yX2_write cX2_write 5 (some .int) (rm 2 1 6) g [.ref (ad 0), .int a1, .int a2, .int a3, .int a4] N ad (cf g ad x sp dy la kn re) N (fun E => x_X2_write a1 = some E) (fun r ad' f' => ad = ad' ∧ x_X2_write a1 = none ∧ (v_X2_write sp re a1 a2 a3 a4).1 = r ∧ (cf g ad x (v_X2_write sp re a1 a2 a3 a4).2.1 dy la kn (v_X2_write sp re a1 a2 a3 a4).2.2) = f') := by
  intro sz
  refine mx_start (by decide) (Nat.le_of_ble_eq_true rfl) ?_
  intro p e s m args below meth c hsz X hr hex hA hK hT H locs B ls hl
  obtain ⟨hx, hb, hml, hown, hts, hlocks⟩ := id X
  have hl : lv_has ls 5 [(0, .ref (ad 0)), (1, .int a1), (2, .int a2), (3, .int a3), (4, .int a4)] := hl
  refine lv_aload_n hx hb dX2_write_0 rfl (lv_at hl 0 rfl) ?_
  refine lv_aload_n hx hb dX2_write_1 rfl (lv_at hl 0 rfl) ?_
  refine lv_iload_n hx hb dX2_write_2 rfl (lv_at hl 1 rfl) ?_
  refine k_xr (k := 1) (n := 6) hex X hsz hA B (ux_V (rest := [.ref (ad 0)]) X (c_X2_cardAt l hfl g N ad x sp dy la kn re hN a1 H.size) mw_X2_cardAt md_X2_cardAt rfl lk_X2_37 ⟨Nat.le_of_ble_eq_true rfl, Nat.le_of_ble_eq_true rfl⟩ hA hK hT B (pl_c hN 0 (by decide)) cf_0 rfl rfl hl.1 rfl (Nat.le_of_ble_eq_true rfl) dX2_write_3 ⟨Nat.le_of_ble_eq_true rfl, Nat.le_of_ble_eq_true rfl⟩) (Nat.le_of_ble_eq_true rfl) (Nat.le_of_ble_eq_true rfl) (Nat.le_of_ble_eq_true rfl) (Nat.le_of_ble_eq_true rfl) (fun E hE => by unfold x_X2_write; rw [xo_some hE]) (fun r ad' f' H locs hw B => ?_)
  obtain ⟨rfl, x1, rfl, rfl⟩ := hw
  refine lv_aload_n hx hb dX2_write_6 rfl (lv_at hl 0 rfl) ?_
  refine g_get (q := 0) (k := 6) X hK B rfl in_X2 (pl_c hN 0 (by decide)) cf_0 (by decide) lk_X2_25 rfl rfl dX2_write_7 ?_
  refine lv_iload_n hx hb dX2_write_10 rfl (lv_at hl 2 rfl) ?_
  refine lv_i2l (v := a2.toInt64) hx hb dX2_write_11 rfl ?_
  refine lv_iload_n hx hb dX2_write_12 rfl (lv_at hl 3 rfl) ?_
  refine lv_i2l (v := a3.toInt64) hx hb dX2_write_13 rfl ?_
  refine lv_iload hx hb dX2_write_14 (lv_at hl 4 rfl) ?_
  refine lv_i2l (v := a4.toInt64) hx hb dX2_write_16 rfl ?_
  refine k_i (k := 1) (n := 6) hA B (u_VN (rest := [.ref (ad (4 + a1.toNatClampNeg)), .ref (ad 0)]) X (c_X1_put l g N ad x sp dy la kn re hN 12 (by decide) a2.toInt64 a3.toInt64 a4.toInt64 H.size) mw_X1_put md_X1_put rfl lk_X2_41 ⟨Nat.le_of_ble_eq_true rfl, Nat.le_of_ble_eq_true rfl⟩ hA hK hT B (pl_sp hN (by decide)) (cf_sp (by decide)) rfl rfl hl.1 rfl (Nat.le_of_ble_eq_true rfl) dX2_write_17 ⟨Nat.le_of_ble_eq_true rfl, Nat.le_of_ble_eq_true rfl⟩) (Nat.le_of_ble_eq_true rfl) (Nat.le_of_ble_eq_true rfl) (fun r ad' f' H locs hw B => ?_)
  obtain ⟨rfl, rfl, rfl⟩ := hw
  refine k_i (k := 1) (n := 6) hA B (u_V (rest := []) X (c_X2_actOnCard l g N ad x (v_X1_put sp 12 a2.toInt64 a3.toInt64 a4.toInt64).2 dy la kn re hN a1.toNatClampNeg (Nat.lt_of_lt_of_le (xl_X2_cardAt x1) (by decide)) (v_X1_put sp 12 a2.toInt64 a3.toInt64 a4.toInt64).1 H.size) mw_X2_actOnCard md_X2_actOnCard rfl lk_X2_45 ⟨Nat.le_of_ble_eq_true rfl, Nat.le_of_ble_eq_true rfl⟩ hA hK hT B (pl_c hN 0 (by decide)) cf_0 rfl rfl hl.1 rfl (Nat.le_of_ble_eq_true rfl) dX2_write_20 ⟨Nat.le_of_ble_eq_true rfl, Nat.le_of_ble_eq_true rfl⟩) (Nat.le_of_ble_eq_true rfl) (Nat.le_of_ble_eq_true rfl) (fun r ad' f' H locs hw B => ?_)
  obtain ⟨rfl, rfl, rfl⟩ := hw
  have ev := (show v_X2_write sp re a1 a2 a3 a4 = ((v_X2_actOnCard (v_X1_put sp 12 a2.toInt64 a3.toInt64 a4.toInt64).2 re a1.toNatClampNeg (v_X1_put sp 12 a2.toInt64 a3.toInt64 a4.toInt64).1).1, (v_X2_actOnCard (v_X1_put sp 12 a2.toInt64 a3.toInt64 a4.toInt64).2 re a1.toNatClampNeg (v_X1_put sp 12 a2.toInt64 a3.toInt64 a4.toInt64).1).2.1, (v_X2_actOnCard (v_X1_put sp 12 a2.toInt64 a3.toInt64 a4.toInt64).2 re a1.toNatClampNeg (v_X1_put sp 12 a2.toInt64 a3.toInt64 a4.toInt64).1).2.2) from rfl)
  exact vx_ret (rt_i X hr (ad, (cf g ad x (v_X2_actOnCard (v_X1_put sp 12 a2.toInt64 a3.toInt64 a4.toInt64).2 re a1.toNatClampNeg (v_X1_put sp 12 a2.toInt64 a3.toInt64 a4.toInt64).1).2.1 dy la kn (v_X2_actOnCard (v_X1_put sp 12 a2.toInt64 a3.toInt64 a4.toInt64).2 re a1.toNatClampNeg (v_X1_put sp 12 a2.toInt64 a3.toInt64 a4.toInt64).1).2.2)) B (PO_of B) ⟨rfl, by unfold x_X2_write; rw [xo_none x1], by rw [ev], by rw [ev]⟩ rfl (Nat.le_of_ble_eq_true rfl) (Nat.le_of_ble_eq_true rfl) dX2_write_23)
def v_X2_ofYears (sp : Nat → TR) (re : Int32) (a1 : Int32) (a2 : Int32) : Int32 × (Nat → TR) × Int32 := ((v_X2_actOnCard (v_X1_put sp 12 a2.toInt64 0 0).2 re a1.toNatClampNeg (v_X1_put sp 12 a2.toInt64 0 0).1).1, (v_X2_actOnCard (v_X1_put sp 12 a2.toInt64 0 0).2 re a1.toNatClampNeg (v_X1_put sp 12 a2.toInt64 0 0).1).2.1, (v_X2_actOnCard (v_X1_put sp 12 a2.toInt64 0 0).2 re a1.toNatClampNeg (v_X1_put sp 12 a2.toInt64 0 0).1).2.2)
def x_X2_ofYears (a1 : Int32) : Option String := xo (x_X2_cardAt a1) none
set_option maxHeartbeats 4000000 in
set_option maxRecDepth 100000 in
theorem c_X2_ofYears (l : Launch) (hfl : l.stackTraces = false) (g : GG) (N : Nat) (ad : Nat → Nat) (x : Nat → va_E) (sp dy : Nat → TR) (la kn re : Int32) (hN : 23 ≤ N) (a1 : Int32) (a2 : Int32) : XI l yX2_ofYears cX2_ofYears 3 (some .int) (rm 2 1 6) g [.ref (ad 0), .int a1, .int a2] N ad (cf g ad x sp dy la kn re) N (fun E => x_X2_ofYears a1 = some E) (fun r ad' f' => ad = ad' ∧ x_X2_ofYears a1 = none ∧ (v_X2_ofYears sp re a1 a2).1 = r ∧ (cf g ad x (v_X2_ofYears sp re a1 a2).2.1 dy la kn (v_X2_ofYears sp re a1 a2).2.2) = f') := by
  intro sz
  refine mx_start (by decide) (Nat.le_of_ble_eq_true rfl) ?_
  intro p e s m args below meth c hsz X hr hex hA hK hT H locs B ls hl
  obtain ⟨hx, hb, hml, hown, hts, hlocks⟩ := id X
  have hl : lv_has ls 3 [(0, .ref (ad 0)), (1, .int a1), (2, .int a2)] := hl
  refine lv_aload_n hx hb dX2_ofYears_0 rfl (lv_at hl 0 rfl) ?_
  refine lv_aload_n hx hb dX2_ofYears_1 rfl (lv_at hl 0 rfl) ?_
  refine lv_iload_n hx hb dX2_ofYears_2 rfl (lv_at hl 1 rfl) ?_
  refine k_xr (k := 1) (n := 6) hex X hsz hA B (ux_V (rest := [.ref (ad 0)]) X (c_X2_cardAt l hfl g N ad x sp dy la kn re hN a1 H.size) mw_X2_cardAt md_X2_cardAt rfl lk_X2_37 ⟨Nat.le_of_ble_eq_true rfl, Nat.le_of_ble_eq_true rfl⟩ hA hK hT B (pl_c hN 0 (by decide)) cf_0 rfl rfl hl.1 rfl (Nat.le_of_ble_eq_true rfl) dX2_ofYears_3 ⟨Nat.le_of_ble_eq_true rfl, Nat.le_of_ble_eq_true rfl⟩) (Nat.le_of_ble_eq_true rfl) (Nat.le_of_ble_eq_true rfl) (Nat.le_of_ble_eq_true rfl) (Nat.le_of_ble_eq_true rfl) (fun E hE => by unfold x_X2_ofYears; rw [xo_some hE]) (fun r ad' f' H locs hw B => ?_)
  obtain ⟨rfl, x1, rfl, rfl⟩ := hw
  refine lv_aload_n hx hb dX2_ofYears_6 rfl (lv_at hl 0 rfl) ?_
  refine g_get (q := 0) (k := 6) X hK B rfl in_X2 (pl_c hN 0 (by decide)) cf_0 (by decide) lk_X2_25 rfl rfl dX2_ofYears_7 ?_
  refine lv_iload_n hx hb dX2_ofYears_10 rfl (lv_at hl 2 rfl) ?_
  refine lv_i2l (v := a2.toInt64) hx hb dX2_ofYears_11 rfl ?_
  refine lv_lconst (v := 0) hx hb dX2_ofYears_12 (by decide) ?_
  refine lv_lconst (v := 0) hx hb dX2_ofYears_13 (by decide) ?_
  refine k_i (k := 1) (n := 6) hA B (u_VN (rest := [.ref (ad (4 + a1.toNatClampNeg)), .ref (ad 0)]) X (c_X1_put l g N ad x sp dy la kn re hN 12 (by decide) a2.toInt64 0 0 H.size) mw_X1_put md_X1_put rfl lk_X2_41 ⟨Nat.le_of_ble_eq_true rfl, Nat.le_of_ble_eq_true rfl⟩ hA hK hT B (pl_sp hN (by decide)) (cf_sp (by decide)) rfl rfl hl.1 rfl (Nat.le_of_ble_eq_true rfl) dX2_ofYears_14 ⟨Nat.le_of_ble_eq_true rfl, Nat.le_of_ble_eq_true rfl⟩) (Nat.le_of_ble_eq_true rfl) (Nat.le_of_ble_eq_true rfl) (fun r ad' f' H locs hw B => ?_)
  obtain ⟨rfl, rfl, rfl⟩ := hw
  refine k_i (k := 1) (n := 6) hA B (u_V (rest := []) X (c_X2_actOnCard l g N ad x (v_X1_put sp 12 a2.toInt64 0 0).2 dy la kn re hN a1.toNatClampNeg (Nat.lt_of_lt_of_le (xl_X2_cardAt x1) (by decide)) (v_X1_put sp 12 a2.toInt64 0 0).1 H.size) mw_X2_actOnCard md_X2_actOnCard rfl lk_X2_45 ⟨Nat.le_of_ble_eq_true rfl, Nat.le_of_ble_eq_true rfl⟩ hA hK hT B (pl_c hN 0 (by decide)) cf_0 rfl rfl hl.1 rfl (Nat.le_of_ble_eq_true rfl) dX2_ofYears_17 ⟨Nat.le_of_ble_eq_true rfl, Nat.le_of_ble_eq_true rfl⟩) (Nat.le_of_ble_eq_true rfl) (Nat.le_of_ble_eq_true rfl) (fun r ad' f' H locs hw B => ?_)
  obtain ⟨rfl, rfl, rfl⟩ := hw
  have ev := (show v_X2_ofYears sp re a1 a2 = ((v_X2_actOnCard (v_X1_put sp 12 a2.toInt64 0 0).2 re a1.toNatClampNeg (v_X1_put sp 12 a2.toInt64 0 0).1).1, (v_X2_actOnCard (v_X1_put sp 12 a2.toInt64 0 0).2 re a1.toNatClampNeg (v_X1_put sp 12 a2.toInt64 0 0).1).2.1, (v_X2_actOnCard (v_X1_put sp 12 a2.toInt64 0 0).2 re a1.toNatClampNeg (v_X1_put sp 12 a2.toInt64 0 0).1).2.2) from rfl)
  exact vx_ret (rt_i X hr (ad, (cf g ad x (v_X2_actOnCard (v_X1_put sp 12 a2.toInt64 0 0).2 re a1.toNatClampNeg (v_X1_put sp 12 a2.toInt64 0 0).1).2.1 dy la kn (v_X2_actOnCard (v_X1_put sp 12 a2.toInt64 0 0).2 re a1.toNatClampNeg (v_X1_put sp 12 a2.toInt64 0 0).1).2.2)) B (PO_of B) ⟨rfl, by unfold x_X2_ofYears; rw [xo_none x1], by rw [ev], by rw [ev]⟩ rfl (Nat.le_of_ble_eq_true rfl) (Nat.le_of_ble_eq_true rfl) dX2_ofYears_20)
def v_X2_ofMonths (sp : Nat → TR) (re : Int32) (a1 : Int32) (a2 : Int32) : Int32 × (Nat → TR) × Int32 := ((v_X2_actOnCard (v_X1_put sp 12 0 a2.toInt64 0).2 re a1.toNatClampNeg (v_X1_put sp 12 0 a2.toInt64 0).1).1, (v_X2_actOnCard (v_X1_put sp 12 0 a2.toInt64 0).2 re a1.toNatClampNeg (v_X1_put sp 12 0 a2.toInt64 0).1).2.1, (v_X2_actOnCard (v_X1_put sp 12 0 a2.toInt64 0).2 re a1.toNatClampNeg (v_X1_put sp 12 0 a2.toInt64 0).1).2.2)
def x_X2_ofMonths (a1 : Int32) : Option String := xo (x_X2_cardAt a1) none
set_option maxHeartbeats 4000000 in
set_option maxRecDepth 100000 in
theorem c_X2_ofMonths (l : Launch) (hfl : l.stackTraces = false) (g : GG) (N : Nat) (ad : Nat → Nat) (x : Nat → va_E) (sp dy : Nat → TR) (la kn re : Int32) (hN : 23 ≤ N) (a1 : Int32) (a2 : Int32) : XI l yX2_ofMonths cX2_ofMonths 3 (some .int) (rm 2 1 6) g [.ref (ad 0), .int a1, .int a2] N ad (cf g ad x sp dy la kn re) N (fun E => x_X2_ofMonths a1 = some E) (fun r ad' f' => ad = ad' ∧ x_X2_ofMonths a1 = none ∧ (v_X2_ofMonths sp re a1 a2).1 = r ∧ (cf g ad x (v_X2_ofMonths sp re a1 a2).2.1 dy la kn (v_X2_ofMonths sp re a1 a2).2.2) = f') := by
  intro sz
  refine mx_start (by decide) (Nat.le_of_ble_eq_true rfl) ?_
  intro p e s m args below meth c hsz X hr hex hA hK hT H locs B ls hl
  obtain ⟨hx, hb, hml, hown, hts, hlocks⟩ := id X
  have hl : lv_has ls 3 [(0, .ref (ad 0)), (1, .int a1), (2, .int a2)] := hl
  refine lv_aload_n hx hb dX2_ofMonths_0 rfl (lv_at hl 0 rfl) ?_
  refine lv_aload_n hx hb dX2_ofMonths_1 rfl (lv_at hl 0 rfl) ?_
  refine lv_iload_n hx hb dX2_ofMonths_2 rfl (lv_at hl 1 rfl) ?_
  refine k_xr (k := 1) (n := 6) hex X hsz hA B (ux_V (rest := [.ref (ad 0)]) X (c_X2_cardAt l hfl g N ad x sp dy la kn re hN a1 H.size) mw_X2_cardAt md_X2_cardAt rfl lk_X2_37 ⟨Nat.le_of_ble_eq_true rfl, Nat.le_of_ble_eq_true rfl⟩ hA hK hT B (pl_c hN 0 (by decide)) cf_0 rfl rfl hl.1 rfl (Nat.le_of_ble_eq_true rfl) dX2_ofMonths_3 ⟨Nat.le_of_ble_eq_true rfl, Nat.le_of_ble_eq_true rfl⟩) (Nat.le_of_ble_eq_true rfl) (Nat.le_of_ble_eq_true rfl) (Nat.le_of_ble_eq_true rfl) (Nat.le_of_ble_eq_true rfl) (fun E hE => by unfold x_X2_ofMonths; rw [xo_some hE]) (fun r ad' f' H locs hw B => ?_)
  obtain ⟨rfl, x1, rfl, rfl⟩ := hw
  refine lv_aload_n hx hb dX2_ofMonths_6 rfl (lv_at hl 0 rfl) ?_
  refine g_get (q := 0) (k := 6) X hK B rfl in_X2 (pl_c hN 0 (by decide)) cf_0 (by decide) lk_X2_25 rfl rfl dX2_ofMonths_7 ?_
  refine lv_lconst (v := 0) hx hb dX2_ofMonths_10 (by decide) ?_
  refine lv_iload_n hx hb dX2_ofMonths_11 rfl (lv_at hl 2 rfl) ?_
  refine lv_i2l (v := a2.toInt64) hx hb dX2_ofMonths_12 rfl ?_
  refine lv_lconst (v := 0) hx hb dX2_ofMonths_13 (by decide) ?_
  refine k_i (k := 1) (n := 6) hA B (u_VN (rest := [.ref (ad (4 + a1.toNatClampNeg)), .ref (ad 0)]) X (c_X1_put l g N ad x sp dy la kn re hN 12 (by decide) 0 a2.toInt64 0 H.size) mw_X1_put md_X1_put rfl lk_X2_41 ⟨Nat.le_of_ble_eq_true rfl, Nat.le_of_ble_eq_true rfl⟩ hA hK hT B (pl_sp hN (by decide)) (cf_sp (by decide)) rfl rfl hl.1 rfl (Nat.le_of_ble_eq_true rfl) dX2_ofMonths_14 ⟨Nat.le_of_ble_eq_true rfl, Nat.le_of_ble_eq_true rfl⟩) (Nat.le_of_ble_eq_true rfl) (Nat.le_of_ble_eq_true rfl) (fun r ad' f' H locs hw B => ?_)
  obtain ⟨rfl, rfl, rfl⟩ := hw
  refine k_i (k := 1) (n := 6) hA B (u_V (rest := []) X (c_X2_actOnCard l g N ad x (v_X1_put sp 12 0 a2.toInt64 0).2 dy la kn re hN a1.toNatClampNeg (Nat.lt_of_lt_of_le (xl_X2_cardAt x1) (by decide)) (v_X1_put sp 12 0 a2.toInt64 0).1 H.size) mw_X2_actOnCard md_X2_actOnCard rfl lk_X2_45 ⟨Nat.le_of_ble_eq_true rfl, Nat.le_of_ble_eq_true rfl⟩ hA hK hT B (pl_c hN 0 (by decide)) cf_0 rfl rfl hl.1 rfl (Nat.le_of_ble_eq_true rfl) dX2_ofMonths_17 ⟨Nat.le_of_ble_eq_true rfl, Nat.le_of_ble_eq_true rfl⟩) (Nat.le_of_ble_eq_true rfl) (Nat.le_of_ble_eq_true rfl) (fun r ad' f' H locs hw B => ?_)
  obtain ⟨rfl, rfl, rfl⟩ := hw
  have ev := (show v_X2_ofMonths sp re a1 a2 = ((v_X2_actOnCard (v_X1_put sp 12 0 a2.toInt64 0).2 re a1.toNatClampNeg (v_X1_put sp 12 0 a2.toInt64 0).1).1, (v_X2_actOnCard (v_X1_put sp 12 0 a2.toInt64 0).2 re a1.toNatClampNeg (v_X1_put sp 12 0 a2.toInt64 0).1).2.1, (v_X2_actOnCard (v_X1_put sp 12 0 a2.toInt64 0).2 re a1.toNatClampNeg (v_X1_put sp 12 0 a2.toInt64 0).1).2.2) from rfl)
  exact vx_ret (rt_i X hr (ad, (cf g ad x (v_X2_actOnCard (v_X1_put sp 12 0 a2.toInt64 0).2 re a1.toNatClampNeg (v_X1_put sp 12 0 a2.toInt64 0).1).2.1 dy la kn (v_X2_actOnCard (v_X1_put sp 12 0 a2.toInt64 0).2 re a1.toNatClampNeg (v_X1_put sp 12 0 a2.toInt64 0).1).2.2)) B (PO_of B) ⟨rfl, by unfold x_X2_ofMonths; rw [xo_none x1], by rw [ev], by rw [ev]⟩ rfl (Nat.le_of_ble_eq_true rfl) (Nat.le_of_ble_eq_true rfl) dX2_ofMonths_20)
def v_X2_ofWeeks (sp : Nat → TR) (re : Int32) (a1 : Int32) (a2 : Int32) : Int32 × (Nat → TR) × Int32 := ((v_X2_actOnCard (v_X1_put sp 12 0 0 (a2.toInt64 * 7)).2 re a1.toNatClampNeg (v_X1_put sp 12 0 0 (a2.toInt64 * 7)).1).1, (v_X2_actOnCard (v_X1_put sp 12 0 0 (a2.toInt64 * 7)).2 re a1.toNatClampNeg (v_X1_put sp 12 0 0 (a2.toInt64 * 7)).1).2.1, (v_X2_actOnCard (v_X1_put sp 12 0 0 (a2.toInt64 * 7)).2 re a1.toNatClampNeg (v_X1_put sp 12 0 0 (a2.toInt64 * 7)).1).2.2)
def x_X2_ofWeeks (a1 : Int32) : Option String := xo (x_X2_cardAt a1) none
set_option maxHeartbeats 4000000 in
set_option maxRecDepth 100000 in
theorem c_X2_ofWeeks (l : Launch) (hfl : l.stackTraces = false) (g : GG) (N : Nat) (ad : Nat → Nat) (x : Nat → va_E) (sp dy : Nat → TR) (la kn re : Int32) (hN : 23 ≤ N) (a1 : Int32) (a2 : Int32) : XI l yX2_ofWeeks cX2_ofWeeks 3 (some .int) (rm 2 1 6) g [.ref (ad 0), .int a1, .int a2] N ad (cf g ad x sp dy la kn re) N (fun E => x_X2_ofWeeks a1 = some E) (fun r ad' f' => ad = ad' ∧ x_X2_ofWeeks a1 = none ∧ (v_X2_ofWeeks sp re a1 a2).1 = r ∧ (cf g ad x (v_X2_ofWeeks sp re a1 a2).2.1 dy la kn (v_X2_ofWeeks sp re a1 a2).2.2) = f') := by
  intro sz
  refine mx_start (by decide) (Nat.le_of_ble_eq_true rfl) ?_
  intro p e s m args below meth c hsz X hr hex hA hK hT H locs B ls hl
  obtain ⟨hx, hb, hml, hown, hts, hlocks⟩ := id X
  have hl : lv_has ls 3 [(0, .ref (ad 0)), (1, .int a1), (2, .int a2)] := hl
  refine lv_aload_n hx hb dX2_ofWeeks_0 rfl (lv_at hl 0 rfl) ?_
  refine lv_aload_n hx hb dX2_ofWeeks_1 rfl (lv_at hl 0 rfl) ?_
  refine lv_iload_n hx hb dX2_ofWeeks_2 rfl (lv_at hl 1 rfl) ?_
  refine k_xr (k := 1) (n := 6) hex X hsz hA B (ux_V (rest := [.ref (ad 0)]) X (c_X2_cardAt l hfl g N ad x sp dy la kn re hN a1 H.size) mw_X2_cardAt md_X2_cardAt rfl lk_X2_37 ⟨Nat.le_of_ble_eq_true rfl, Nat.le_of_ble_eq_true rfl⟩ hA hK hT B (pl_c hN 0 (by decide)) cf_0 rfl rfl hl.1 rfl (Nat.le_of_ble_eq_true rfl) dX2_ofWeeks_3 ⟨Nat.le_of_ble_eq_true rfl, Nat.le_of_ble_eq_true rfl⟩) (Nat.le_of_ble_eq_true rfl) (Nat.le_of_ble_eq_true rfl) (Nat.le_of_ble_eq_true rfl) (Nat.le_of_ble_eq_true rfl) (fun E hE => by unfold x_X2_ofWeeks; rw [xo_some hE]) (fun r ad' f' H locs hw B => ?_)
  obtain ⟨rfl, x1, rfl, rfl⟩ := hw
  refine lv_aload_n hx hb dX2_ofWeeks_6 rfl (lv_at hl 0 rfl) ?_
  refine g_get (q := 0) (k := 6) X hK B rfl in_X2 (pl_c hN 0 (by decide)) cf_0 (by decide) lk_X2_25 rfl rfl dX2_ofWeeks_7 ?_
  refine lv_lconst (v := 0) hx hb dX2_ofWeeks_10 (by decide) ?_
  refine lv_lconst (v := 0) hx hb dX2_ofWeeks_11 (by decide) ?_
  refine lv_iload_n hx hb dX2_ofWeeks_12 rfl (lv_at hl 2 rfl) ?_
  refine lv_i2l (v := a2.toInt64) hx hb dX2_ofWeeks_13 rfl ?_
  refine lv_ldc2 hx hb hown (hts _ (List.mem_cons_of_mem _ lk_X2_49)) dX2_ofWeeks_14 ?_
  refine lv_lmul hx hb dX2_ofWeeks_17 ?_
  refine k_i (k := 1) (n := 6) hA B (u_VN (rest := [.ref (ad (4 + a1.toNatClampNeg)), .ref (ad 0)]) X (c_X1_put l g N ad x sp dy la kn re hN 12 (by decide) 0 0 (a2.toInt64 * 7) H.size) mw_X1_put md_X1_put rfl lk_X2_41 ⟨Nat.le_of_ble_eq_true rfl, Nat.le_of_ble_eq_true rfl⟩ hA hK hT B (pl_sp hN (by decide)) (cf_sp (by decide)) rfl rfl hl.1 rfl (Nat.le_of_ble_eq_true rfl) dX2_ofWeeks_18 ⟨Nat.le_of_ble_eq_true rfl, Nat.le_of_ble_eq_true rfl⟩) (Nat.le_of_ble_eq_true rfl) (Nat.le_of_ble_eq_true rfl) (fun r ad' f' H locs hw B => ?_)
  obtain ⟨rfl, rfl, rfl⟩ := hw
  refine k_i (k := 1) (n := 6) hA B (u_V (rest := []) X (c_X2_actOnCard l g N ad x (v_X1_put sp 12 0 0 (a2.toInt64 * 7)).2 dy la kn re hN a1.toNatClampNeg (Nat.lt_of_lt_of_le (xl_X2_cardAt x1) (by decide)) (v_X1_put sp 12 0 0 (a2.toInt64 * 7)).1 H.size) mw_X2_actOnCard md_X2_actOnCard rfl lk_X2_45 ⟨Nat.le_of_ble_eq_true rfl, Nat.le_of_ble_eq_true rfl⟩ hA hK hT B (pl_c hN 0 (by decide)) cf_0 rfl rfl hl.1 rfl (Nat.le_of_ble_eq_true rfl) dX2_ofWeeks_21 ⟨Nat.le_of_ble_eq_true rfl, Nat.le_of_ble_eq_true rfl⟩) (Nat.le_of_ble_eq_true rfl) (Nat.le_of_ble_eq_true rfl) (fun r ad' f' H locs hw B => ?_)
  obtain ⟨rfl, rfl, rfl⟩ := hw
  have ev := (show v_X2_ofWeeks sp re a1 a2 = ((v_X2_actOnCard (v_X1_put sp 12 0 0 (a2.toInt64 * 7)).2 re a1.toNatClampNeg (v_X1_put sp 12 0 0 (a2.toInt64 * 7)).1).1, (v_X2_actOnCard (v_X1_put sp 12 0 0 (a2.toInt64 * 7)).2 re a1.toNatClampNeg (v_X1_put sp 12 0 0 (a2.toInt64 * 7)).1).2.1, (v_X2_actOnCard (v_X1_put sp 12 0 0 (a2.toInt64 * 7)).2 re a1.toNatClampNeg (v_X1_put sp 12 0 0 (a2.toInt64 * 7)).1).2.2) from rfl)
  exact vx_ret (rt_i X hr (ad, (cf g ad x (v_X2_actOnCard (v_X1_put sp 12 0 0 (a2.toInt64 * 7)).2 re a1.toNatClampNeg (v_X1_put sp 12 0 0 (a2.toInt64 * 7)).1).2.1 dy la kn (v_X2_actOnCard (v_X1_put sp 12 0 0 (a2.toInt64 * 7)).2 re a1.toNatClampNeg (v_X1_put sp 12 0 0 (a2.toInt64 * 7)).1).2.2)) B (PO_of B) ⟨rfl, by unfold x_X2_ofWeeks; rw [xo_none x1], by rw [ev], by rw [ev]⟩ rfl (Nat.le_of_ble_eq_true rfl) (Nat.le_of_ble_eq_true rfl) dX2_ofWeeks_24)
def v_X2_ofDays (sp : Nat → TR) (re : Int32) (a1 : Int32) (a2 : Int32) : Int32 × (Nat → TR) × Int32 := ((v_X2_actOnCard (v_X1_put sp 12 0 0 a2.toInt64).2 re a1.toNatClampNeg (v_X1_put sp 12 0 0 a2.toInt64).1).1, (v_X2_actOnCard (v_X1_put sp 12 0 0 a2.toInt64).2 re a1.toNatClampNeg (v_X1_put sp 12 0 0 a2.toInt64).1).2.1, (v_X2_actOnCard (v_X1_put sp 12 0 0 a2.toInt64).2 re a1.toNatClampNeg (v_X1_put sp 12 0 0 a2.toInt64).1).2.2)
def x_X2_ofDays (a1 : Int32) : Option String := xo (x_X2_cardAt a1) none
set_option maxHeartbeats 4000000 in
set_option maxRecDepth 100000 in
theorem c_X2_ofDays (l : Launch) (hfl : l.stackTraces = false) (g : GG) (N : Nat) (ad : Nat → Nat) (x : Nat → va_E) (sp dy : Nat → TR) (la kn re : Int32) (hN : 23 ≤ N) (a1 : Int32) (a2 : Int32) : XI l yX2_ofDays cX2_ofDays 3 (some .int) (rm 2 1 6) g [.ref (ad 0), .int a1, .int a2] N ad (cf g ad x sp dy la kn re) N (fun E => x_X2_ofDays a1 = some E) (fun r ad' f' => ad = ad' ∧ x_X2_ofDays a1 = none ∧ (v_X2_ofDays sp re a1 a2).1 = r ∧ (cf g ad x (v_X2_ofDays sp re a1 a2).2.1 dy la kn (v_X2_ofDays sp re a1 a2).2.2) = f') := by
  intro sz
  refine mx_start (by decide) (Nat.le_of_ble_eq_true rfl) ?_
  intro p e s m args below meth c hsz X hr hex hA hK hT H locs B ls hl
  obtain ⟨hx, hb, hml, hown, hts, hlocks⟩ := id X
  have hl : lv_has ls 3 [(0, .ref (ad 0)), (1, .int a1), (2, .int a2)] := hl
  refine lv_aload_n hx hb dX2_ofDays_0 rfl (lv_at hl 0 rfl) ?_
  refine lv_aload_n hx hb dX2_ofDays_1 rfl (lv_at hl 0 rfl) ?_
  refine lv_iload_n hx hb dX2_ofDays_2 rfl (lv_at hl 1 rfl) ?_
  refine k_xr (k := 1) (n := 6) hex X hsz hA B (ux_V (rest := [.ref (ad 0)]) X (c_X2_cardAt l hfl g N ad x sp dy la kn re hN a1 H.size) mw_X2_cardAt md_X2_cardAt rfl lk_X2_37 ⟨Nat.le_of_ble_eq_true rfl, Nat.le_of_ble_eq_true rfl⟩ hA hK hT B (pl_c hN 0 (by decide)) cf_0 rfl rfl hl.1 rfl (Nat.le_of_ble_eq_true rfl) dX2_ofDays_3 ⟨Nat.le_of_ble_eq_true rfl, Nat.le_of_ble_eq_true rfl⟩) (Nat.le_of_ble_eq_true rfl) (Nat.le_of_ble_eq_true rfl) (Nat.le_of_ble_eq_true rfl) (Nat.le_of_ble_eq_true rfl) (fun E hE => by unfold x_X2_ofDays; rw [xo_some hE]) (fun r ad' f' H locs hw B => ?_)
  obtain ⟨rfl, x1, rfl, rfl⟩ := hw
  refine lv_aload_n hx hb dX2_ofDays_6 rfl (lv_at hl 0 rfl) ?_
  refine g_get (q := 0) (k := 6) X hK B rfl in_X2 (pl_c hN 0 (by decide)) cf_0 (by decide) lk_X2_25 rfl rfl dX2_ofDays_7 ?_
  refine lv_lconst (v := 0) hx hb dX2_ofDays_10 (by decide) ?_
  refine lv_lconst (v := 0) hx hb dX2_ofDays_11 (by decide) ?_
  refine lv_iload_n hx hb dX2_ofDays_12 rfl (lv_at hl 2 rfl) ?_
  refine lv_i2l (v := a2.toInt64) hx hb dX2_ofDays_13 rfl ?_
  refine k_i (k := 1) (n := 6) hA B (u_VN (rest := [.ref (ad (4 + a1.toNatClampNeg)), .ref (ad 0)]) X (c_X1_put l g N ad x sp dy la kn re hN 12 (by decide) 0 0 a2.toInt64 H.size) mw_X1_put md_X1_put rfl lk_X2_41 ⟨Nat.le_of_ble_eq_true rfl, Nat.le_of_ble_eq_true rfl⟩ hA hK hT B (pl_sp hN (by decide)) (cf_sp (by decide)) rfl rfl hl.1 rfl (Nat.le_of_ble_eq_true rfl) dX2_ofDays_14 ⟨Nat.le_of_ble_eq_true rfl, Nat.le_of_ble_eq_true rfl⟩) (Nat.le_of_ble_eq_true rfl) (Nat.le_of_ble_eq_true rfl) (fun r ad' f' H locs hw B => ?_)
  obtain ⟨rfl, rfl, rfl⟩ := hw
  refine k_i (k := 1) (n := 6) hA B (u_V (rest := []) X (c_X2_actOnCard l g N ad x (v_X1_put sp 12 0 0 a2.toInt64).2 dy la kn re hN a1.toNatClampNeg (Nat.lt_of_lt_of_le (xl_X2_cardAt x1) (by decide)) (v_X1_put sp 12 0 0 a2.toInt64).1 H.size) mw_X2_actOnCard md_X2_actOnCard rfl lk_X2_45 ⟨Nat.le_of_ble_eq_true rfl, Nat.le_of_ble_eq_true rfl⟩ hA hK hT B (pl_c hN 0 (by decide)) cf_0 rfl rfl hl.1 rfl (Nat.le_of_ble_eq_true rfl) dX2_ofDays_17 ⟨Nat.le_of_ble_eq_true rfl, Nat.le_of_ble_eq_true rfl⟩) (Nat.le_of_ble_eq_true rfl) (Nat.le_of_ble_eq_true rfl) (fun r ad' f' H locs hw B => ?_)
  obtain ⟨rfl, rfl, rfl⟩ := hw
  have ev := (show v_X2_ofDays sp re a1 a2 = ((v_X2_actOnCard (v_X1_put sp 12 0 0 a2.toInt64).2 re a1.toNatClampNeg (v_X1_put sp 12 0 0 a2.toInt64).1).1, (v_X2_actOnCard (v_X1_put sp 12 0 0 a2.toInt64).2 re a1.toNatClampNeg (v_X1_put sp 12 0 0 a2.toInt64).1).2.1, (v_X2_actOnCard (v_X1_put sp 12 0 0 a2.toInt64).2 re a1.toNatClampNeg (v_X1_put sp 12 0 0 a2.toInt64).1).2.2) from rfl)
  exact vx_ret (rt_i X hr (ad, (cf g ad x (v_X2_actOnCard (v_X1_put sp 12 0 0 a2.toInt64).2 re a1.toNatClampNeg (v_X1_put sp 12 0 0 a2.toInt64).1).2.1 dy la kn (v_X2_actOnCard (v_X1_put sp 12 0 0 a2.toInt64).2 re a1.toNatClampNeg (v_X1_put sp 12 0 0 a2.toInt64).1).2.2)) B (PO_of B) ⟨rfl, by unfold x_X2_ofDays; rw [xo_none x1], by rw [ev], by rw [ev]⟩ rfl (Nat.le_of_ble_eq_true rfl) (Nat.le_of_ble_eq_true rfl) dX2_ofDays_20)
def v_X2_change (sp : Nat → TR) (re : Int32) (a1 : Int32) (a2 : Int32) (a3 : Int32) : Int32 × (Nat → TR) × Int32 := if a2 = 0 then (if a2 = 1 then (if a2 = 2 then ((v_X2_actOnCard (v_X1_put sp 12 a3.toInt64 a3.toInt64 a3.toInt64).2 re a1.toNatClampNeg (v_X1_put sp 12 a3.toInt64 a3.toInt64 a3.toInt64).1).1, (v_X2_actOnCard (v_X1_put sp 12 a3.toInt64 a3.toInt64 a3.toInt64).2 re a1.toNatClampNeg (v_X1_put sp 12 a3.toInt64 a3.toInt64 a3.toInt64).1).2.1, (v_X2_actOnCard (v_X1_put sp 12 a3.toInt64 a3.toInt64 a3.toInt64).2 re a1.toNatClampNeg (v_X1_put sp 12 a3.toInt64 a3.toInt64 a3.toInt64).1).2.2) else ((v_X2_actOnCard (v_X1_put sp 12 a3.toInt64 a3.toInt64 ((sp a1.toNatClampNeg).2.2.toInt64)).2 re a1.toNatClampNeg (v_X1_put sp 12 a3.toInt64 a3.toInt64 ((sp a1.toNatClampNeg).2.2.toInt64)).1).1, (v_X2_actOnCard (v_X1_put sp 12 a3.toInt64 a3.toInt64 ((sp a1.toNatClampNeg).2.2.toInt64)).2 re a1.toNatClampNeg (v_X1_put sp 12 a3.toInt64 a3.toInt64 ((sp a1.toNatClampNeg).2.2.toInt64)).1).2.1, (v_X2_actOnCard (v_X1_put sp 12 a3.toInt64 a3.toInt64 ((sp a1.toNatClampNeg).2.2.toInt64)).2 re a1.toNatClampNeg (v_X1_put sp 12 a3.toInt64 a3.toInt64 ((sp a1.toNatClampNeg).2.2.toInt64)).1).2.2)) else (if a2 = 2 then ((v_X2_actOnCard (v_X1_put sp 12 a3.toInt64 ((sp a1.toNatClampNeg).2.1.toInt64) a3.toInt64).2 re a1.toNatClampNeg (v_X1_put sp 12 a3.toInt64 ((sp a1.toNatClampNeg).2.1.toInt64) a3.toInt64).1).1, (v_X2_actOnCard (v_X1_put sp 12 a3.toInt64 ((sp a1.toNatClampNeg).2.1.toInt64) a3.toInt64).2 re a1.toNatClampNeg (v_X1_put sp 12 a3.toInt64 ((sp a1.toNatClampNeg).2.1.toInt64) a3.toInt64).1).2.1, (v_X2_actOnCard (v_X1_put sp 12 a3.toInt64 ((sp a1.toNatClampNeg).2.1.toInt64) a3.toInt64).2 re a1.toNatClampNeg (v_X1_put sp 12 a3.toInt64 ((sp a1.toNatClampNeg).2.1.toInt64) a3.toInt64).1).2.2) else ((v_X2_actOnCard (v_X1_put sp 12 a3.toInt64 ((sp a1.toNatClampNeg).2.1.toInt64) ((sp a1.toNatClampNeg).2.2.toInt64)).2 re a1.toNatClampNeg (v_X1_put sp 12 a3.toInt64 ((sp a1.toNatClampNeg).2.1.toInt64) ((sp a1.toNatClampNeg).2.2.toInt64)).1).1, (v_X2_actOnCard (v_X1_put sp 12 a3.toInt64 ((sp a1.toNatClampNeg).2.1.toInt64) ((sp a1.toNatClampNeg).2.2.toInt64)).2 re a1.toNatClampNeg (v_X1_put sp 12 a3.toInt64 ((sp a1.toNatClampNeg).2.1.toInt64) ((sp a1.toNatClampNeg).2.2.toInt64)).1).2.1, (v_X2_actOnCard (v_X1_put sp 12 a3.toInt64 ((sp a1.toNatClampNeg).2.1.toInt64) ((sp a1.toNatClampNeg).2.2.toInt64)).2 re a1.toNatClampNeg (v_X1_put sp 12 a3.toInt64 ((sp a1.toNatClampNeg).2.1.toInt64) ((sp a1.toNatClampNeg).2.2.toInt64)).1).2.2))) else (if a2 = 1 then (if a2 = 2 then ((v_X2_actOnCard (v_X1_put sp 12 ((sp a1.toNatClampNeg).1.toInt64) a3.toInt64 a3.toInt64).2 re a1.toNatClampNeg (v_X1_put sp 12 ((sp a1.toNatClampNeg).1.toInt64) a3.toInt64 a3.toInt64).1).1, (v_X2_actOnCard (v_X1_put sp 12 ((sp a1.toNatClampNeg).1.toInt64) a3.toInt64 a3.toInt64).2 re a1.toNatClampNeg (v_X1_put sp 12 ((sp a1.toNatClampNeg).1.toInt64) a3.toInt64 a3.toInt64).1).2.1, (v_X2_actOnCard (v_X1_put sp 12 ((sp a1.toNatClampNeg).1.toInt64) a3.toInt64 a3.toInt64).2 re a1.toNatClampNeg (v_X1_put sp 12 ((sp a1.toNatClampNeg).1.toInt64) a3.toInt64 a3.toInt64).1).2.2) else ((v_X2_actOnCard (v_X1_put sp 12 ((sp a1.toNatClampNeg).1.toInt64) a3.toInt64 ((sp a1.toNatClampNeg).2.2.toInt64)).2 re a1.toNatClampNeg (v_X1_put sp 12 ((sp a1.toNatClampNeg).1.toInt64) a3.toInt64 ((sp a1.toNatClampNeg).2.2.toInt64)).1).1, (v_X2_actOnCard (v_X1_put sp 12 ((sp a1.toNatClampNeg).1.toInt64) a3.toInt64 ((sp a1.toNatClampNeg).2.2.toInt64)).2 re a1.toNatClampNeg (v_X1_put sp 12 ((sp a1.toNatClampNeg).1.toInt64) a3.toInt64 ((sp a1.toNatClampNeg).2.2.toInt64)).1).2.1, (v_X2_actOnCard (v_X1_put sp 12 ((sp a1.toNatClampNeg).1.toInt64) a3.toInt64 ((sp a1.toNatClampNeg).2.2.toInt64)).2 re a1.toNatClampNeg (v_X1_put sp 12 ((sp a1.toNatClampNeg).1.toInt64) a3.toInt64 ((sp a1.toNatClampNeg).2.2.toInt64)).1).2.2)) else (if a2 = 2 then ((v_X2_actOnCard (v_X1_put sp 12 ((sp a1.toNatClampNeg).1.toInt64) ((sp a1.toNatClampNeg).2.1.toInt64) a3.toInt64).2 re a1.toNatClampNeg (v_X1_put sp 12 ((sp a1.toNatClampNeg).1.toInt64) ((sp a1.toNatClampNeg).2.1.toInt64) a3.toInt64).1).1, (v_X2_actOnCard (v_X1_put sp 12 ((sp a1.toNatClampNeg).1.toInt64) ((sp a1.toNatClampNeg).2.1.toInt64) a3.toInt64).2 re a1.toNatClampNeg (v_X1_put sp 12 ((sp a1.toNatClampNeg).1.toInt64) ((sp a1.toNatClampNeg).2.1.toInt64) a3.toInt64).1).2.1, (v_X2_actOnCard (v_X1_put sp 12 ((sp a1.toNatClampNeg).1.toInt64) ((sp a1.toNatClampNeg).2.1.toInt64) a3.toInt64).2 re a1.toNatClampNeg (v_X1_put sp 12 ((sp a1.toNatClampNeg).1.toInt64) ((sp a1.toNatClampNeg).2.1.toInt64) a3.toInt64).1).2.2) else ((v_X2_actOnCard (v_X1_put sp 12 ((sp a1.toNatClampNeg).1.toInt64) ((sp a1.toNatClampNeg).2.1.toInt64) ((sp a1.toNatClampNeg).2.2.toInt64)).2 re a1.toNatClampNeg (v_X1_put sp 12 ((sp a1.toNatClampNeg).1.toInt64) ((sp a1.toNatClampNeg).2.1.toInt64) ((sp a1.toNatClampNeg).2.2.toInt64)).1).1, (v_X2_actOnCard (v_X1_put sp 12 ((sp a1.toNatClampNeg).1.toInt64) ((sp a1.toNatClampNeg).2.1.toInt64) ((sp a1.toNatClampNeg).2.2.toInt64)).2 re a1.toNatClampNeg (v_X1_put sp 12 ((sp a1.toNatClampNeg).1.toInt64) ((sp a1.toNatClampNeg).2.1.toInt64) ((sp a1.toNatClampNeg).2.2.toInt64)).1).2.1, (v_X2_actOnCard (v_X1_put sp 12 ((sp a1.toNatClampNeg).1.toInt64) ((sp a1.toNatClampNeg).2.1.toInt64) ((sp a1.toNatClampNeg).2.2.toInt64)).2 re a1.toNatClampNeg (v_X1_put sp 12 ((sp a1.toNatClampNeg).1.toInt64) ((sp a1.toNatClampNeg).2.1.toInt64) ((sp a1.toNatClampNeg).2.2.toInt64)).1).2.2)))
def x_X2_change (a1 : Int32) (a2 : Int32) : Option String := xo (x_X2_cardAt a1) (xo (x_X2_checkWhat a2 3) (if a2 = 0 then (if a2 = 1 then (if a2 = 2 then none else none) else (if a2 = 2 then none else none)) else (if a2 = 1 then (if a2 = 2 then none else none) else (if a2 = 2 then none else none))))
set_option maxHeartbeats 4000000 in
set_option maxRecDepth 100000 in
theorem c_X2_change (l : Launch) (hfl : l.stackTraces = false) (g : GG) (N : Nat) (ad : Nat → Nat) (x : Nat → va_E) (sp dy : Nat → TR) (la kn re : Int32) (hN : 23 ≤ N) (a1 : Int32) (a2 : Int32) (a3 : Int32) : XI l yX2_change cX2_change 8 (some .int) (rm 2 2 12) g [.ref (ad 0), .int a1, .int a2, .int a3] N ad (cf g ad x sp dy la kn re) N (fun E => x_X2_change a1 a2 = some E) (fun r ad' f' => ad = ad' ∧ x_X2_change a1 a2 = none ∧ (v_X2_change sp re a1 a2 a3).1 = r ∧ (cf g ad x (v_X2_change sp re a1 a2 a3).2.1 dy la kn (v_X2_change sp re a1 a2 a3).2.2) = f') := by
  intro sz
  refine mx_start (by decide) (Nat.le_of_ble_eq_true rfl) ?_
  intro p e s m args below meth c hsz X hr hex hA hK hT H locs B ls hl
  obtain ⟨hx, hb, hml, hown, hts, hlocks⟩ := id X
  have hl : lv_has ls 8 [(0, .ref (ad 0)), (1, .int a1), (2, .int a2), (3, .int a3)] := hl
  refine lv_aload_n hx hb dX2_change_0 rfl (lv_at hl 0 rfl) ?_
  refine lv_iload_n hx hb dX2_change_1 rfl (lv_at hl 1 rfl) ?_
  refine k_xr (k := 1) (n := 6) hex X hsz hA B (ux_V (rest := []) X (c_X2_cardAt l hfl g N ad x sp dy la kn re hN a1 H.size) mw_X2_cardAt md_X2_cardAt rfl lk_X2_37 ⟨Nat.le_of_ble_eq_true rfl, Nat.le_of_ble_eq_true rfl⟩ hA hK hT B (pl_c hN 0 (by decide)) cf_0 rfl rfl hl.1 rfl (Nat.le_of_ble_eq_true rfl) dX2_change_2 ⟨Nat.le_of_ble_eq_true rfl, Nat.le_of_ble_eq_true rfl⟩) (Nat.le_of_ble_eq_true rfl) (Nat.le_of_ble_eq_true rfl) (Nat.le_of_ble_eq_true rfl) (Nat.le_of_ble_eq_true rfl) (fun E hE => by unfold x_X2_change; rw [xo_some hE]) (fun r ad' f' H locs hw B => ?_)
  obtain ⟨rfl, x1, rfl, rfl⟩ := hw
  refine lv_astore (lv' := [(4, .ref (ad (4 + a1.toNatClampNeg))), (0, .ref (ad 0)), (1, .int a1), (2, .int a2), (3, .int a3)]) hx hb dX2_change_5 hl (by decide) rfl (fun ls hl => ?_)
  refine lv_iload_n hx hb dX2_change_7 rfl (lv_at hl 3 rfl) ?_
  refine lv_iconst (v := 3) hx hb dX2_change_8 (by decide) ?_
  refine k_xv (k := 2) (n := 12) hex X hsz hA B (ux_S (rest := []) X (c_X2_checkWhat l hfl g N ad x sp dy la kn re hN a2 3 H.size) mw_X2_checkWhat md_X2_checkWhat rfl lk_X2_51 ⟨Nat.le_of_ble_eq_true rfl, Nat.le_of_ble_eq_true rfl⟩ hA hK hT B hl.1 rfl (Nat.le_of_ble_eq_true rfl) dX2_change_9 ⟨Nat.le_of_ble_eq_true rfl, Nat.le_of_ble_eq_true rfl⟩) (Nat.le_of_ble_eq_true rfl) (Nat.le_of_ble_eq_true rfl) (Nat.le_of_ble_eq_true rfl) (Nat.le_of_ble_eq_true rfl) (fun E hE => by unfold x_X2_change; rw [xo_none x1, xo_some hE]) (fun ad' f' H locs hw B => ?_)
  obtain ⟨rfl, x2, rfl⟩ := hw
  refine lv_iload_n hx hb dX2_change_12 rfl (lv_at hl 3 rfl) ?_
  refine lv_if_ne (tgt := 20) hx hb dX2_change_13 (by decide) (fun c3 => ?_) (fun c3 => ?_)
  · refine lv_aload hx hb dX2_change_20 (lv_at hl 0 rfl) ?_
    refine g_getN (q := (4 + a1.toNatClampNeg)) (k := 0) X hK hT B rfl in_X1 (pl_sp hN (Nat.lt_of_lt_of_le (xl_X2_cardAt x1) (by decide))) (cf_sp (Nat.lt_of_lt_of_le (xl_X2_cardAt x1) (by decide))) (by decide) lk_X2_55 rfl rfl dX2_change_22 ?_
    refine lv_istore (lv' := [(5, .int (sp a1.toNatClampNeg).1), (4, .ref (ad (4 + a1.toNatClampNeg))), (0, .ref (ad 0)), (1, .int a1), (2, .int a2), (3, .int a3)]) hx hb dX2_change_25 hl (by decide) rfl (fun ls hl => ?_)
    refine lv_iload_n hx hb dX2_change_27 rfl (lv_at hl 4 rfl) ?_
    refine lv_iconst (v := 1) hx hb dX2_change_28 (by decide) ?_
    refine lv_icmp_ne (tgt := 36) hx hb dX2_change_29 (by decide) (fun c4 => ?_) (fun c4 => ?_)
    · refine lv_aload hx hb dX2_change_36 (lv_at hl 1 rfl) ?_
      refine g_getN (q := (4 + a1.toNatClampNeg)) (k := 1) X hK hT B rfl in_X1 (pl_sp hN (Nat.lt_of_lt_of_le (xl_X2_cardAt x1) (by decide))) (cf_sp (Nat.lt_of_lt_of_le (xl_X2_cardAt x1) (by decide))) (by decide) lk_X2_59 rfl rfl dX2_change_38 ?_
      refine lv_istore (lv' := [(6, .int (sp a1.toNatClampNeg).2.1), (5, .int (sp a1.toNatClampNeg).1), (4, .ref (ad (4 + a1.toNatClampNeg))), (0, .ref (ad 0)), (1, .int a1), (2, .int a2), (3, .int a3)]) hx hb dX2_change_41 hl (by decide) rfl (fun ls hl => ?_)
      refine lv_iload_n hx hb dX2_change_43 rfl (lv_at hl 5 rfl) ?_
      refine lv_iconst (v := 2) hx hb dX2_change_44 (by decide) ?_
      refine lv_icmp_ne (tgt := 52) hx hb dX2_change_45 (by decide) (fun c5 => ?_) (fun c5 => ?_)
      · refine lv_aload hx hb dX2_change_52 (lv_at hl 2 rfl) ?_
        refine g_getN (q := (4 + a1.toNatClampNeg)) (k := 2) X hK hT B rfl in_X1 (pl_sp hN (Nat.lt_of_lt_of_le (xl_X2_cardAt x1) (by decide))) (cf_sp (Nat.lt_of_lt_of_le (xl_X2_cardAt x1) (by decide))) (by decide) lk_X2_62 rfl rfl dX2_change_54 ?_
        refine lv_istore (lv' := [(7, .int (sp a1.toNatClampNeg).2.2), (6, .int (sp a1.toNatClampNeg).2.1), (5, .int (sp a1.toNatClampNeg).1), (4, .ref (ad (4 + a1.toNatClampNeg))), (0, .ref (ad 0)), (1, .int a1), (2, .int a2), (3, .int a3)]) hx hb dX2_change_57 hl (by decide) rfl (fun ls hl => ?_)
        refine lv_aload_n hx hb dX2_change_59 rfl (lv_at hl 4 rfl) ?_
        refine lv_aload hx hb dX2_change_60 (lv_at hl 3 rfl) ?_
        refine lv_aload_n hx hb dX2_change_62 rfl (lv_at hl 4 rfl) ?_
        refine g_get (q := 0) (k := 6) X hK B rfl in_X2 (pl_c hN 0 (by decide)) cf_0 (by decide) lk_X2_25 rfl rfl dX2_change_63 ?_
        refine lv_iload hx hb dX2_change_66 (lv_at hl 2 rfl) ?_
        refine lv_i2l (v := (sp a1.toNatClampNeg).1.toInt64) hx hb dX2_change_68 rfl ?_
        refine lv_iload hx hb dX2_change_69 (lv_at hl 1 rfl) ?_
        refine lv_i2l (v := (sp a1.toNatClampNeg).2.1.toInt64) hx hb dX2_change_71 rfl ?_
        refine lv_iload hx hb dX2_change_72 (lv_at hl 0 rfl) ?_
        refine lv_i2l (v := (sp a1.toNatClampNeg).2.2.toInt64) hx hb dX2_change_74 rfl ?_
        refine k_i (k := 2) (n := 12) hA B (u_VN (rest := [.ref (ad (4 + a1.toNatClampNeg)), .ref (ad 0)]) X (c_X1_put l g N ad x sp dy la kn re hN 12 (by decide) ((sp a1.toNatClampNeg).1.toInt64) ((sp a1.toNatClampNeg).2.1.toInt64) ((sp a1.toNatClampNeg).2.2.toInt64) H.size) mw_X1_put md_X1_put rfl lk_X2_41 ⟨Nat.le_of_ble_eq_true rfl, Nat.le_of_ble_eq_true rfl⟩ hA hK hT B (pl_sp hN (by decide)) (cf_sp (by decide)) rfl rfl hl.1 rfl (Nat.le_of_ble_eq_true rfl) dX2_change_75 ⟨Nat.le_of_ble_eq_true rfl, Nat.le_of_ble_eq_true rfl⟩) (Nat.le_of_ble_eq_true rfl) (Nat.le_of_ble_eq_true rfl) (fun r ad' f' H locs hw B => ?_)
        obtain ⟨rfl, rfl, rfl⟩ := hw
        refine k_i (k := 2) (n := 12) hA B (u_V (rest := []) X (c_X2_actOnCard l g N ad x (v_X1_put sp 12 ((sp a1.toNatClampNeg).1.toInt64) ((sp a1.toNatClampNeg).2.1.toInt64) ((sp a1.toNatClampNeg).2.2.toInt64)).2 dy la kn re hN a1.toNatClampNeg (Nat.lt_of_lt_of_le (xl_X2_cardAt x1) (by decide)) (v_X1_put sp 12 ((sp a1.toNatClampNeg).1.toInt64) ((sp a1.toNatClampNeg).2.1.toInt64) ((sp a1.toNatClampNeg).2.2.toInt64)).1 H.size) mw_X2_actOnCard md_X2_actOnCard rfl lk_X2_45 ⟨Nat.le_of_ble_eq_true rfl, Nat.le_of_ble_eq_true rfl⟩ hA hK hT B (pl_c hN 0 (by decide)) cf_0 rfl rfl hl.1 rfl (Nat.le_of_ble_eq_true rfl) dX2_change_78 ⟨Nat.le_of_ble_eq_true rfl, Nat.le_of_ble_eq_true rfl⟩) (Nat.le_of_ble_eq_true rfl) (Nat.le_of_ble_eq_true rfl) (fun r ad' f' H locs hw B => ?_)
        obtain ⟨rfl, rfl, rfl⟩ := hw
        have ev := (show v_X2_change sp re a1 a2 a3 = ((v_X2_actOnCard (v_X1_put sp 12 ((sp a1.toNatClampNeg).1.toInt64) ((sp a1.toNatClampNeg).2.1.toInt64) ((sp a1.toNatClampNeg).2.2.toInt64)).2 re a1.toNatClampNeg (v_X1_put sp 12 ((sp a1.toNatClampNeg).1.toInt64) ((sp a1.toNatClampNeg).2.1.toInt64) ((sp a1.toNatClampNeg).2.2.toInt64)).1).1, (v_X2_actOnCard (v_X1_put sp 12 ((sp a1.toNatClampNeg).1.toInt64) ((sp a1.toNatClampNeg).2.1.toInt64) ((sp a1.toNatClampNeg).2.2.toInt64)).2 re a1.toNatClampNeg (v_X1_put sp 12 ((sp a1.toNatClampNeg).1.toInt64) ((sp a1.toNatClampNeg).2.1.toInt64) ((sp a1.toNatClampNeg).2.2.toInt64)).1).2.1, (v_X2_actOnCard (v_X1_put sp 12 ((sp a1.toNatClampNeg).1.toInt64) ((sp a1.toNatClampNeg).2.1.toInt64) ((sp a1.toNatClampNeg).2.2.toInt64)).2 re a1.toNatClampNeg (v_X1_put sp 12 ((sp a1.toNatClampNeg).1.toInt64) ((sp a1.toNatClampNeg).2.1.toInt64) ((sp a1.toNatClampNeg).2.2.toInt64)).1).2.2) from by unfold v_X2_change; rw [if_neg c3, if_neg c4, if_neg c5])
        exact vx_ret (rt_i X hr (ad, (cf g ad x (v_X2_actOnCard (v_X1_put sp 12 ((sp a1.toNatClampNeg).1.toInt64) ((sp a1.toNatClampNeg).2.1.toInt64) ((sp a1.toNatClampNeg).2.2.toInt64)).2 re a1.toNatClampNeg (v_X1_put sp 12 ((sp a1.toNatClampNeg).1.toInt64) ((sp a1.toNatClampNeg).2.1.toInt64) ((sp a1.toNatClampNeg).2.2.toInt64)).1).2.1 dy la kn (v_X2_actOnCard (v_X1_put sp 12 ((sp a1.toNatClampNeg).1.toInt64) ((sp a1.toNatClampNeg).2.1.toInt64) ((sp a1.toNatClampNeg).2.2.toInt64)).2 re a1.toNatClampNeg (v_X1_put sp 12 ((sp a1.toNatClampNeg).1.toInt64) ((sp a1.toNatClampNeg).2.1.toInt64) ((sp a1.toNatClampNeg).2.2.toInt64)).1).2.2)) B (PO_of B) ⟨rfl, by unfold x_X2_change; rw [xo_none x1, xo_none x2, if_neg c3, if_neg c4, if_neg c5], by rw [ev], by rw [ev]⟩ rfl (Nat.le_of_ble_eq_true rfl) (Nat.le_of_ble_eq_true rfl) dX2_change_81)
      · refine lv_iload_n hx hb dX2_change_48 rfl (lv_at hl 6 rfl) ?_
        refine lv_goto (tgt := 57) hx hb dX2_change_49 (by decide) ?_
        refine lv_istore (lv' := [(7, .int a3), (6, .int (sp a1.toNatClampNeg).2.1), (5, .int (sp a1.toNatClampNeg).1), (4, .ref (ad (4 + a1.toNatClampNeg))), (0, .ref (ad 0)), (1, .int a1), (2, .int a2), (3, .int a3)]) hx hb dX2_change_57 hl (by decide) rfl (fun ls hl => ?_)
        refine lv_aload_n hx hb dX2_change_59 rfl (lv_at hl 4 rfl) ?_
        refine lv_aload hx hb dX2_change_60 (lv_at hl 3 rfl) ?_
        refine lv_aload_n hx hb dX2_change_62 rfl (lv_at hl 4 rfl) ?_
        refine g_get (q := 0) (k := 6) X hK B rfl in_X2 (pl_c hN 0 (by decide)) cf_0 (by decide) lk_X2_25 rfl rfl dX2_change_63 ?_
        refine lv_iload hx hb dX2_change_66 (lv_at hl 2 rfl) ?_
        refine lv_i2l (v := (sp a1.toNatClampNeg).1.toInt64) hx hb dX2_change_68 rfl ?_
        refine lv_iload hx hb dX2_change_69 (lv_at hl 1 rfl) ?_
        refine lv_i2l (v := (sp a1.toNatClampNeg).2.1.toInt64) hx hb dX2_change_71 rfl ?_
        refine lv_iload hx hb dX2_change_72 (lv_at hl 0 rfl) ?_
        refine lv_i2l (v := a3.toInt64) hx hb dX2_change_74 rfl ?_
        refine k_i (k := 2) (n := 12) hA B (u_VN (rest := [.ref (ad (4 + a1.toNatClampNeg)), .ref (ad 0)]) X (c_X1_put l g N ad x sp dy la kn re hN 12 (by decide) ((sp a1.toNatClampNeg).1.toInt64) ((sp a1.toNatClampNeg).2.1.toInt64) a3.toInt64 H.size) mw_X1_put md_X1_put rfl lk_X2_41 ⟨Nat.le_of_ble_eq_true rfl, Nat.le_of_ble_eq_true rfl⟩ hA hK hT B (pl_sp hN (by decide)) (cf_sp (by decide)) rfl rfl hl.1 rfl (Nat.le_of_ble_eq_true rfl) dX2_change_75 ⟨Nat.le_of_ble_eq_true rfl, Nat.le_of_ble_eq_true rfl⟩) (Nat.le_of_ble_eq_true rfl) (Nat.le_of_ble_eq_true rfl) (fun r ad' f' H locs hw B => ?_)
        obtain ⟨rfl, rfl, rfl⟩ := hw
        refine k_i (k := 2) (n := 12) hA B (u_V (rest := []) X (c_X2_actOnCard l g N ad x (v_X1_put sp 12 ((sp a1.toNatClampNeg).1.toInt64) ((sp a1.toNatClampNeg).2.1.toInt64) a3.toInt64).2 dy la kn re hN a1.toNatClampNeg (Nat.lt_of_lt_of_le (xl_X2_cardAt x1) (by decide)) (v_X1_put sp 12 ((sp a1.toNatClampNeg).1.toInt64) ((sp a1.toNatClampNeg).2.1.toInt64) a3.toInt64).1 H.size) mw_X2_actOnCard md_X2_actOnCard rfl lk_X2_45 ⟨Nat.le_of_ble_eq_true rfl, Nat.le_of_ble_eq_true rfl⟩ hA hK hT B (pl_c hN 0 (by decide)) cf_0 rfl rfl hl.1 rfl (Nat.le_of_ble_eq_true rfl) dX2_change_78 ⟨Nat.le_of_ble_eq_true rfl, Nat.le_of_ble_eq_true rfl⟩) (Nat.le_of_ble_eq_true rfl) (Nat.le_of_ble_eq_true rfl) (fun r ad' f' H locs hw B => ?_)
        obtain ⟨rfl, rfl, rfl⟩ := hw
        have ev := (show v_X2_change sp re a1 a2 a3 = ((v_X2_actOnCard (v_X1_put sp 12 ((sp a1.toNatClampNeg).1.toInt64) ((sp a1.toNatClampNeg).2.1.toInt64) a3.toInt64).2 re a1.toNatClampNeg (v_X1_put sp 12 ((sp a1.toNatClampNeg).1.toInt64) ((sp a1.toNatClampNeg).2.1.toInt64) a3.toInt64).1).1, (v_X2_actOnCard (v_X1_put sp 12 ((sp a1.toNatClampNeg).1.toInt64) ((sp a1.toNatClampNeg).2.1.toInt64) a3.toInt64).2 re a1.toNatClampNeg (v_X1_put sp 12 ((sp a1.toNatClampNeg).1.toInt64) ((sp a1.toNatClampNeg).2.1.toInt64) a3.toInt64).1).2.1, (v_X2_actOnCard (v_X1_put sp 12 ((sp a1.toNatClampNeg).1.toInt64) ((sp a1.toNatClampNeg).2.1.toInt64) a3.toInt64).2 re a1.toNatClampNeg (v_X1_put sp 12 ((sp a1.toNatClampNeg).1.toInt64) ((sp a1.toNatClampNeg).2.1.toInt64) a3.toInt64).1).2.2) from by unfold v_X2_change; rw [if_neg c3, if_neg c4, if_pos c5])
        exact vx_ret (rt_i X hr (ad, (cf g ad x (v_X2_actOnCard (v_X1_put sp 12 ((sp a1.toNatClampNeg).1.toInt64) ((sp a1.toNatClampNeg).2.1.toInt64) a3.toInt64).2 re a1.toNatClampNeg (v_X1_put sp 12 ((sp a1.toNatClampNeg).1.toInt64) ((sp a1.toNatClampNeg).2.1.toInt64) a3.toInt64).1).2.1 dy la kn (v_X2_actOnCard (v_X1_put sp 12 ((sp a1.toNatClampNeg).1.toInt64) ((sp a1.toNatClampNeg).2.1.toInt64) a3.toInt64).2 re a1.toNatClampNeg (v_X1_put sp 12 ((sp a1.toNatClampNeg).1.toInt64) ((sp a1.toNatClampNeg).2.1.toInt64) a3.toInt64).1).2.2)) B (PO_of B) ⟨rfl, by unfold x_X2_change; rw [xo_none x1, xo_none x2, if_neg c3, if_neg c4, if_pos c5], by rw [ev], by rw [ev]⟩ rfl (Nat.le_of_ble_eq_true rfl) (Nat.le_of_ble_eq_true rfl) dX2_change_81)
    · refine lv_iload_n hx hb dX2_change_32 rfl (lv_at hl 5 rfl) ?_
      refine lv_goto (tgt := 41) hx hb dX2_change_33 (by decide) ?_
      refine lv_istore (lv' := [(6, .int a3), (5, .int (sp a1.toNatClampNeg).1), (4, .ref (ad (4 + a1.toNatClampNeg))), (0, .ref (ad 0)), (1, .int a1), (2, .int a2), (3, .int a3)]) hx hb dX2_change_41 hl (by decide) rfl (fun ls hl => ?_)
      refine lv_iload_n hx hb dX2_change_43 rfl (lv_at hl 5 rfl) ?_
      refine lv_iconst (v := 2) hx hb dX2_change_44 (by decide) ?_
      refine lv_icmp_ne (tgt := 52) hx hb dX2_change_45 (by decide) (fun c6 => ?_) (fun c6 => ?_)
      · refine lv_aload hx hb dX2_change_52 (lv_at hl 2 rfl) ?_
        refine g_getN (q := (4 + a1.toNatClampNeg)) (k := 2) X hK hT B rfl in_X1 (pl_sp hN (Nat.lt_of_lt_of_le (xl_X2_cardAt x1) (by decide))) (cf_sp (Nat.lt_of_lt_of_le (xl_X2_cardAt x1) (by decide))) (by decide) lk_X2_62 rfl rfl dX2_change_54 ?_
        refine lv_istore (lv' := [(7, .int (sp a1.toNatClampNeg).2.2), (6, .int a3), (5, .int (sp a1.toNatClampNeg).1), (4, .ref (ad (4 + a1.toNatClampNeg))), (0, .ref (ad 0)), (1, .int a1), (2, .int a2), (3, .int a3)]) hx hb dX2_change_57 hl (by decide) rfl (fun ls hl => ?_)
        refine lv_aload_n hx hb dX2_change_59 rfl (lv_at hl 4 rfl) ?_
        refine lv_aload hx hb dX2_change_60 (lv_at hl 3 rfl) ?_
        refine lv_aload_n hx hb dX2_change_62 rfl (lv_at hl 4 rfl) ?_
        refine g_get (q := 0) (k := 6) X hK B rfl in_X2 (pl_c hN 0 (by decide)) cf_0 (by decide) lk_X2_25 rfl rfl dX2_change_63 ?_
        refine lv_iload hx hb dX2_change_66 (lv_at hl 2 rfl) ?_
        refine lv_i2l (v := (sp a1.toNatClampNeg).1.toInt64) hx hb dX2_change_68 rfl ?_
        refine lv_iload hx hb dX2_change_69 (lv_at hl 1 rfl) ?_
        refine lv_i2l (v := a3.toInt64) hx hb dX2_change_71 rfl ?_
        refine lv_iload hx hb dX2_change_72 (lv_at hl 0 rfl) ?_
        refine lv_i2l (v := (sp a1.toNatClampNeg).2.2.toInt64) hx hb dX2_change_74 rfl ?_
        refine k_i (k := 2) (n := 12) hA B (u_VN (rest := [.ref (ad (4 + a1.toNatClampNeg)), .ref (ad 0)]) X (c_X1_put l g N ad x sp dy la kn re hN 12 (by decide) ((sp a1.toNatClampNeg).1.toInt64) a3.toInt64 ((sp a1.toNatClampNeg).2.2.toInt64) H.size) mw_X1_put md_X1_put rfl lk_X2_41 ⟨Nat.le_of_ble_eq_true rfl, Nat.le_of_ble_eq_true rfl⟩ hA hK hT B (pl_sp hN (by decide)) (cf_sp (by decide)) rfl rfl hl.1 rfl (Nat.le_of_ble_eq_true rfl) dX2_change_75 ⟨Nat.le_of_ble_eq_true rfl, Nat.le_of_ble_eq_true rfl⟩) (Nat.le_of_ble_eq_true rfl) (Nat.le_of_ble_eq_true rfl) (fun r ad' f' H locs hw B => ?_)
        obtain ⟨rfl, rfl, rfl⟩ := hw
        refine k_i (k := 2) (n := 12) hA B (u_V (rest := []) X (c_X2_actOnCard l g N ad x (v_X1_put sp 12 ((sp a1.toNatClampNeg).1.toInt64) a3.toInt64 ((sp a1.toNatClampNeg).2.2.toInt64)).2 dy la kn re hN a1.toNatClampNeg (Nat.lt_of_lt_of_le (xl_X2_cardAt x1) (by decide)) (v_X1_put sp 12 ((sp a1.toNatClampNeg).1.toInt64) a3.toInt64 ((sp a1.toNatClampNeg).2.2.toInt64)).1 H.size) mw_X2_actOnCard md_X2_actOnCard rfl lk_X2_45 ⟨Nat.le_of_ble_eq_true rfl, Nat.le_of_ble_eq_true rfl⟩ hA hK hT B (pl_c hN 0 (by decide)) cf_0 rfl rfl hl.1 rfl (Nat.le_of_ble_eq_true rfl) dX2_change_78 ⟨Nat.le_of_ble_eq_true rfl, Nat.le_of_ble_eq_true rfl⟩) (Nat.le_of_ble_eq_true rfl) (Nat.le_of_ble_eq_true rfl) (fun r ad' f' H locs hw B => ?_)
        obtain ⟨rfl, rfl, rfl⟩ := hw
        have ev := (show v_X2_change sp re a1 a2 a3 = ((v_X2_actOnCard (v_X1_put sp 12 ((sp a1.toNatClampNeg).1.toInt64) a3.toInt64 ((sp a1.toNatClampNeg).2.2.toInt64)).2 re a1.toNatClampNeg (v_X1_put sp 12 ((sp a1.toNatClampNeg).1.toInt64) a3.toInt64 ((sp a1.toNatClampNeg).2.2.toInt64)).1).1, (v_X2_actOnCard (v_X1_put sp 12 ((sp a1.toNatClampNeg).1.toInt64) a3.toInt64 ((sp a1.toNatClampNeg).2.2.toInt64)).2 re a1.toNatClampNeg (v_X1_put sp 12 ((sp a1.toNatClampNeg).1.toInt64) a3.toInt64 ((sp a1.toNatClampNeg).2.2.toInt64)).1).2.1, (v_X2_actOnCard (v_X1_put sp 12 ((sp a1.toNatClampNeg).1.toInt64) a3.toInt64 ((sp a1.toNatClampNeg).2.2.toInt64)).2 re a1.toNatClampNeg (v_X1_put sp 12 ((sp a1.toNatClampNeg).1.toInt64) a3.toInt64 ((sp a1.toNatClampNeg).2.2.toInt64)).1).2.2) from by unfold v_X2_change; rw [if_neg c3, if_pos c4, if_neg c6])
        exact vx_ret (rt_i X hr (ad, (cf g ad x (v_X2_actOnCard (v_X1_put sp 12 ((sp a1.toNatClampNeg).1.toInt64) a3.toInt64 ((sp a1.toNatClampNeg).2.2.toInt64)).2 re a1.toNatClampNeg (v_X1_put sp 12 ((sp a1.toNatClampNeg).1.toInt64) a3.toInt64 ((sp a1.toNatClampNeg).2.2.toInt64)).1).2.1 dy la kn (v_X2_actOnCard (v_X1_put sp 12 ((sp a1.toNatClampNeg).1.toInt64) a3.toInt64 ((sp a1.toNatClampNeg).2.2.toInt64)).2 re a1.toNatClampNeg (v_X1_put sp 12 ((sp a1.toNatClampNeg).1.toInt64) a3.toInt64 ((sp a1.toNatClampNeg).2.2.toInt64)).1).2.2)) B (PO_of B) ⟨rfl, by unfold x_X2_change; rw [xo_none x1, xo_none x2, if_neg c3, if_pos c4, if_neg c6], by rw [ev], by rw [ev]⟩ rfl (Nat.le_of_ble_eq_true rfl) (Nat.le_of_ble_eq_true rfl) dX2_change_81)
      · refine lv_iload_n hx hb dX2_change_48 rfl (lv_at hl 6 rfl) ?_
        refine lv_goto (tgt := 57) hx hb dX2_change_49 (by decide) ?_
        refine lv_istore (lv' := [(7, .int a3), (6, .int a3), (5, .int (sp a1.toNatClampNeg).1), (4, .ref (ad (4 + a1.toNatClampNeg))), (0, .ref (ad 0)), (1, .int a1), (2, .int a2), (3, .int a3)]) hx hb dX2_change_57 hl (by decide) rfl (fun ls hl => ?_)
        refine lv_aload_n hx hb dX2_change_59 rfl (lv_at hl 4 rfl) ?_
        refine lv_aload hx hb dX2_change_60 (lv_at hl 3 rfl) ?_
        refine lv_aload_n hx hb dX2_change_62 rfl (lv_at hl 4 rfl) ?_
        refine g_get (q := 0) (k := 6) X hK B rfl in_X2 (pl_c hN 0 (by decide)) cf_0 (by decide) lk_X2_25 rfl rfl dX2_change_63 ?_
        refine lv_iload hx hb dX2_change_66 (lv_at hl 2 rfl) ?_
        refine lv_i2l (v := (sp a1.toNatClampNeg).1.toInt64) hx hb dX2_change_68 rfl ?_
        refine lv_iload hx hb dX2_change_69 (lv_at hl 1 rfl) ?_
        refine lv_i2l (v := a3.toInt64) hx hb dX2_change_71 rfl ?_
        refine lv_iload hx hb dX2_change_72 (lv_at hl 0 rfl) ?_
        refine lv_i2l (v := a3.toInt64) hx hb dX2_change_74 rfl ?_
        refine k_i (k := 2) (n := 12) hA B (u_VN (rest := [.ref (ad (4 + a1.toNatClampNeg)), .ref (ad 0)]) X (c_X1_put l g N ad x sp dy la kn re hN 12 (by decide) ((sp a1.toNatClampNeg).1.toInt64) a3.toInt64 a3.toInt64 H.size) mw_X1_put md_X1_put rfl lk_X2_41 ⟨Nat.le_of_ble_eq_true rfl, Nat.le_of_ble_eq_true rfl⟩ hA hK hT B (pl_sp hN (by decide)) (cf_sp (by decide)) rfl rfl hl.1 rfl (Nat.le_of_ble_eq_true rfl) dX2_change_75 ⟨Nat.le_of_ble_eq_true rfl, Nat.le_of_ble_eq_true rfl⟩) (Nat.le_of_ble_eq_true rfl) (Nat.le_of_ble_eq_true rfl) (fun r ad' f' H locs hw B => ?_)
        obtain ⟨rfl, rfl, rfl⟩ := hw
        refine k_i (k := 2) (n := 12) hA B (u_V (rest := []) X (c_X2_actOnCard l g N ad x (v_X1_put sp 12 ((sp a1.toNatClampNeg).1.toInt64) a3.toInt64 a3.toInt64).2 dy la kn re hN a1.toNatClampNeg (Nat.lt_of_lt_of_le (xl_X2_cardAt x1) (by decide)) (v_X1_put sp 12 ((sp a1.toNatClampNeg).1.toInt64) a3.toInt64 a3.toInt64).1 H.size) mw_X2_actOnCard md_X2_actOnCard rfl lk_X2_45 ⟨Nat.le_of_ble_eq_true rfl, Nat.le_of_ble_eq_true rfl⟩ hA hK hT B (pl_c hN 0 (by decide)) cf_0 rfl rfl hl.1 rfl (Nat.le_of_ble_eq_true rfl) dX2_change_78 ⟨Nat.le_of_ble_eq_true rfl, Nat.le_of_ble_eq_true rfl⟩) (Nat.le_of_ble_eq_true rfl) (Nat.le_of_ble_eq_true rfl) (fun r ad' f' H locs hw B => ?_)
        obtain ⟨rfl, rfl, rfl⟩ := hw
        have ev := (show v_X2_change sp re a1 a2 a3 = ((v_X2_actOnCard (v_X1_put sp 12 ((sp a1.toNatClampNeg).1.toInt64) a3.toInt64 a3.toInt64).2 re a1.toNatClampNeg (v_X1_put sp 12 ((sp a1.toNatClampNeg).1.toInt64) a3.toInt64 a3.toInt64).1).1, (v_X2_actOnCard (v_X1_put sp 12 ((sp a1.toNatClampNeg).1.toInt64) a3.toInt64 a3.toInt64).2 re a1.toNatClampNeg (v_X1_put sp 12 ((sp a1.toNatClampNeg).1.toInt64) a3.toInt64 a3.toInt64).1).2.1, (v_X2_actOnCard (v_X1_put sp 12 ((sp a1.toNatClampNeg).1.toInt64) a3.toInt64 a3.toInt64).2 re a1.toNatClampNeg (v_X1_put sp 12 ((sp a1.toNatClampNeg).1.toInt64) a3.toInt64 a3.toInt64).1).2.2) from by unfold v_X2_change; rw [if_neg c3, if_pos c4, if_pos c6])
        exact vx_ret (rt_i X hr (ad, (cf g ad x (v_X2_actOnCard (v_X1_put sp 12 ((sp a1.toNatClampNeg).1.toInt64) a3.toInt64 a3.toInt64).2 re a1.toNatClampNeg (v_X1_put sp 12 ((sp a1.toNatClampNeg).1.toInt64) a3.toInt64 a3.toInt64).1).2.1 dy la kn (v_X2_actOnCard (v_X1_put sp 12 ((sp a1.toNatClampNeg).1.toInt64) a3.toInt64 a3.toInt64).2 re a1.toNatClampNeg (v_X1_put sp 12 ((sp a1.toNatClampNeg).1.toInt64) a3.toInt64 a3.toInt64).1).2.2)) B (PO_of B) ⟨rfl, by unfold x_X2_change; rw [xo_none x1, xo_none x2, if_neg c3, if_pos c4, if_pos c6], by rw [ev], by rw [ev]⟩ rfl (Nat.le_of_ble_eq_true rfl) (Nat.le_of_ble_eq_true rfl) dX2_change_81)
  · refine lv_iload_n hx hb dX2_change_16 rfl (lv_at hl 4 rfl) ?_
    refine lv_goto (tgt := 25) hx hb dX2_change_17 (by decide) ?_
    refine lv_istore (lv' := [(5, .int a3), (4, .ref (ad (4 + a1.toNatClampNeg))), (0, .ref (ad 0)), (1, .int a1), (2, .int a2), (3, .int a3)]) hx hb dX2_change_25 hl (by decide) rfl (fun ls hl => ?_)
    refine lv_iload_n hx hb dX2_change_27 rfl (lv_at hl 4 rfl) ?_
    refine lv_iconst (v := 1) hx hb dX2_change_28 (by decide) ?_
    refine lv_icmp_ne (tgt := 36) hx hb dX2_change_29 (by decide) (fun c7 => ?_) (fun c7 => ?_)
    · refine lv_aload hx hb dX2_change_36 (lv_at hl 1 rfl) ?_
      refine g_getN (q := (4 + a1.toNatClampNeg)) (k := 1) X hK hT B rfl in_X1 (pl_sp hN (Nat.lt_of_lt_of_le (xl_X2_cardAt x1) (by decide))) (cf_sp (Nat.lt_of_lt_of_le (xl_X2_cardAt x1) (by decide))) (by decide) lk_X2_59 rfl rfl dX2_change_38 ?_
      refine lv_istore (lv' := [(6, .int (sp a1.toNatClampNeg).2.1), (5, .int a3), (4, .ref (ad (4 + a1.toNatClampNeg))), (0, .ref (ad 0)), (1, .int a1), (2, .int a2), (3, .int a3)]) hx hb dX2_change_41 hl (by decide) rfl (fun ls hl => ?_)
      refine lv_iload_n hx hb dX2_change_43 rfl (lv_at hl 5 rfl) ?_
      refine lv_iconst (v := 2) hx hb dX2_change_44 (by decide) ?_
      refine lv_icmp_ne (tgt := 52) hx hb dX2_change_45 (by decide) (fun c8 => ?_) (fun c8 => ?_)
      · refine lv_aload hx hb dX2_change_52 (lv_at hl 2 rfl) ?_
        refine g_getN (q := (4 + a1.toNatClampNeg)) (k := 2) X hK hT B rfl in_X1 (pl_sp hN (Nat.lt_of_lt_of_le (xl_X2_cardAt x1) (by decide))) (cf_sp (Nat.lt_of_lt_of_le (xl_X2_cardAt x1) (by decide))) (by decide) lk_X2_62 rfl rfl dX2_change_54 ?_
        refine lv_istore (lv' := [(7, .int (sp a1.toNatClampNeg).2.2), (6, .int (sp a1.toNatClampNeg).2.1), (5, .int a3), (4, .ref (ad (4 + a1.toNatClampNeg))), (0, .ref (ad 0)), (1, .int a1), (2, .int a2), (3, .int a3)]) hx hb dX2_change_57 hl (by decide) rfl (fun ls hl => ?_)
        refine lv_aload_n hx hb dX2_change_59 rfl (lv_at hl 4 rfl) ?_
        refine lv_aload hx hb dX2_change_60 (lv_at hl 3 rfl) ?_
        refine lv_aload_n hx hb dX2_change_62 rfl (lv_at hl 4 rfl) ?_
        refine g_get (q := 0) (k := 6) X hK B rfl in_X2 (pl_c hN 0 (by decide)) cf_0 (by decide) lk_X2_25 rfl rfl dX2_change_63 ?_
        refine lv_iload hx hb dX2_change_66 (lv_at hl 2 rfl) ?_
        refine lv_i2l (v := a3.toInt64) hx hb dX2_change_68 rfl ?_
        refine lv_iload hx hb dX2_change_69 (lv_at hl 1 rfl) ?_
        refine lv_i2l (v := (sp a1.toNatClampNeg).2.1.toInt64) hx hb dX2_change_71 rfl ?_
        refine lv_iload hx hb dX2_change_72 (lv_at hl 0 rfl) ?_
        refine lv_i2l (v := (sp a1.toNatClampNeg).2.2.toInt64) hx hb dX2_change_74 rfl ?_
        refine k_i (k := 2) (n := 12) hA B (u_VN (rest := [.ref (ad (4 + a1.toNatClampNeg)), .ref (ad 0)]) X (c_X1_put l g N ad x sp dy la kn re hN 12 (by decide) a3.toInt64 ((sp a1.toNatClampNeg).2.1.toInt64) ((sp a1.toNatClampNeg).2.2.toInt64) H.size) mw_X1_put md_X1_put rfl lk_X2_41 ⟨Nat.le_of_ble_eq_true rfl, Nat.le_of_ble_eq_true rfl⟩ hA hK hT B (pl_sp hN (by decide)) (cf_sp (by decide)) rfl rfl hl.1 rfl (Nat.le_of_ble_eq_true rfl) dX2_change_75 ⟨Nat.le_of_ble_eq_true rfl, Nat.le_of_ble_eq_true rfl⟩) (Nat.le_of_ble_eq_true rfl) (Nat.le_of_ble_eq_true rfl) (fun r ad' f' H locs hw B => ?_)
        obtain ⟨rfl, rfl, rfl⟩ := hw
        refine k_i (k := 2) (n := 12) hA B (u_V (rest := []) X (c_X2_actOnCard l g N ad x (v_X1_put sp 12 a3.toInt64 ((sp a1.toNatClampNeg).2.1.toInt64) ((sp a1.toNatClampNeg).2.2.toInt64)).2 dy la kn re hN a1.toNatClampNeg (Nat.lt_of_lt_of_le (xl_X2_cardAt x1) (by decide)) (v_X1_put sp 12 a3.toInt64 ((sp a1.toNatClampNeg).2.1.toInt64) ((sp a1.toNatClampNeg).2.2.toInt64)).1 H.size) mw_X2_actOnCard md_X2_actOnCard rfl lk_X2_45 ⟨Nat.le_of_ble_eq_true rfl, Nat.le_of_ble_eq_true rfl⟩ hA hK hT B (pl_c hN 0 (by decide)) cf_0 rfl rfl hl.1 rfl (Nat.le_of_ble_eq_true rfl) dX2_change_78 ⟨Nat.le_of_ble_eq_true rfl, Nat.le_of_ble_eq_true rfl⟩) (Nat.le_of_ble_eq_true rfl) (Nat.le_of_ble_eq_true rfl) (fun r ad' f' H locs hw B => ?_)
        obtain ⟨rfl, rfl, rfl⟩ := hw
        have ev := (show v_X2_change sp re a1 a2 a3 = ((v_X2_actOnCard (v_X1_put sp 12 a3.toInt64 ((sp a1.toNatClampNeg).2.1.toInt64) ((sp a1.toNatClampNeg).2.2.toInt64)).2 re a1.toNatClampNeg (v_X1_put sp 12 a3.toInt64 ((sp a1.toNatClampNeg).2.1.toInt64) ((sp a1.toNatClampNeg).2.2.toInt64)).1).1, (v_X2_actOnCard (v_X1_put sp 12 a3.toInt64 ((sp a1.toNatClampNeg).2.1.toInt64) ((sp a1.toNatClampNeg).2.2.toInt64)).2 re a1.toNatClampNeg (v_X1_put sp 12 a3.toInt64 ((sp a1.toNatClampNeg).2.1.toInt64) ((sp a1.toNatClampNeg).2.2.toInt64)).1).2.1, (v_X2_actOnCard (v_X1_put sp 12 a3.toInt64 ((sp a1.toNatClampNeg).2.1.toInt64) ((sp a1.toNatClampNeg).2.2.toInt64)).2 re a1.toNatClampNeg (v_X1_put sp 12 a3.toInt64 ((sp a1.toNatClampNeg).2.1.toInt64) ((sp a1.toNatClampNeg).2.2.toInt64)).1).2.2) from by unfold v_X2_change; rw [if_pos c3, if_neg c7, if_neg c8])
        exact vx_ret (rt_i X hr (ad, (cf g ad x (v_X2_actOnCard (v_X1_put sp 12 a3.toInt64 ((sp a1.toNatClampNeg).2.1.toInt64) ((sp a1.toNatClampNeg).2.2.toInt64)).2 re a1.toNatClampNeg (v_X1_put sp 12 a3.toInt64 ((sp a1.toNatClampNeg).2.1.toInt64) ((sp a1.toNatClampNeg).2.2.toInt64)).1).2.1 dy la kn (v_X2_actOnCard (v_X1_put sp 12 a3.toInt64 ((sp a1.toNatClampNeg).2.1.toInt64) ((sp a1.toNatClampNeg).2.2.toInt64)).2 re a1.toNatClampNeg (v_X1_put sp 12 a3.toInt64 ((sp a1.toNatClampNeg).2.1.toInt64) ((sp a1.toNatClampNeg).2.2.toInt64)).1).2.2)) B (PO_of B) ⟨rfl, by unfold x_X2_change; rw [xo_none x1, xo_none x2, if_pos c3, if_neg c7, if_neg c8], by rw [ev], by rw [ev]⟩ rfl (Nat.le_of_ble_eq_true rfl) (Nat.le_of_ble_eq_true rfl) dX2_change_81)
      · refine lv_iload_n hx hb dX2_change_48 rfl (lv_at hl 6 rfl) ?_
        refine lv_goto (tgt := 57) hx hb dX2_change_49 (by decide) ?_
        refine lv_istore (lv' := [(7, .int a3), (6, .int (sp a1.toNatClampNeg).2.1), (5, .int a3), (4, .ref (ad (4 + a1.toNatClampNeg))), (0, .ref (ad 0)), (1, .int a1), (2, .int a2), (3, .int a3)]) hx hb dX2_change_57 hl (by decide) rfl (fun ls hl => ?_)
        refine lv_aload_n hx hb dX2_change_59 rfl (lv_at hl 4 rfl) ?_
        refine lv_aload hx hb dX2_change_60 (lv_at hl 3 rfl) ?_
        refine lv_aload_n hx hb dX2_change_62 rfl (lv_at hl 4 rfl) ?_
        refine g_get (q := 0) (k := 6) X hK B rfl in_X2 (pl_c hN 0 (by decide)) cf_0 (by decide) lk_X2_25 rfl rfl dX2_change_63 ?_
        refine lv_iload hx hb dX2_change_66 (lv_at hl 2 rfl) ?_
        refine lv_i2l (v := a3.toInt64) hx hb dX2_change_68 rfl ?_
        refine lv_iload hx hb dX2_change_69 (lv_at hl 1 rfl) ?_
        refine lv_i2l (v := (sp a1.toNatClampNeg).2.1.toInt64) hx hb dX2_change_71 rfl ?_
        refine lv_iload hx hb dX2_change_72 (lv_at hl 0 rfl) ?_
        refine lv_i2l (v := a3.toInt64) hx hb dX2_change_74 rfl ?_
        refine k_i (k := 2) (n := 12) hA B (u_VN (rest := [.ref (ad (4 + a1.toNatClampNeg)), .ref (ad 0)]) X (c_X1_put l g N ad x sp dy la kn re hN 12 (by decide) a3.toInt64 ((sp a1.toNatClampNeg).2.1.toInt64) a3.toInt64 H.size) mw_X1_put md_X1_put rfl lk_X2_41 ⟨Nat.le_of_ble_eq_true rfl, Nat.le_of_ble_eq_true rfl⟩ hA hK hT B (pl_sp hN (by decide)) (cf_sp (by decide)) rfl rfl hl.1 rfl (Nat.le_of_ble_eq_true rfl) dX2_change_75 ⟨Nat.le_of_ble_eq_true rfl, Nat.le_of_ble_eq_true rfl⟩) (Nat.le_of_ble_eq_true rfl) (Nat.le_of_ble_eq_true rfl) (fun r ad' f' H locs hw B => ?_)
        obtain ⟨rfl, rfl, rfl⟩ := hw
        refine k_i (k := 2) (n := 12) hA B (u_V (rest := []) X (c_X2_actOnCard l g N ad x (v_X1_put sp 12 a3.toInt64 ((sp a1.toNatClampNeg).2.1.toInt64) a3.toInt64).2 dy la kn re hN a1.toNatClampNeg (Nat.lt_of_lt_of_le (xl_X2_cardAt x1) (by decide)) (v_X1_put sp 12 a3.toInt64 ((sp a1.toNatClampNeg).2.1.toInt64) a3.toInt64).1 H.size) mw_X2_actOnCard md_X2_actOnCard rfl lk_X2_45 ⟨Nat.le_of_ble_eq_true rfl, Nat.le_of_ble_eq_true rfl⟩ hA hK hT B (pl_c hN 0 (by decide)) cf_0 rfl rfl hl.1 rfl (Nat.le_of_ble_eq_true rfl) dX2_change_78 ⟨Nat.le_of_ble_eq_true rfl, Nat.le_of_ble_eq_true rfl⟩) (Nat.le_of_ble_eq_true rfl) (Nat.le_of_ble_eq_true rfl) (fun r ad' f' H locs hw B => ?_)
        obtain ⟨rfl, rfl, rfl⟩ := hw
        have ev := (show v_X2_change sp re a1 a2 a3 = ((v_X2_actOnCard (v_X1_put sp 12 a3.toInt64 ((sp a1.toNatClampNeg).2.1.toInt64) a3.toInt64).2 re a1.toNatClampNeg (v_X1_put sp 12 a3.toInt64 ((sp a1.toNatClampNeg).2.1.toInt64) a3.toInt64).1).1, (v_X2_actOnCard (v_X1_put sp 12 a3.toInt64 ((sp a1.toNatClampNeg).2.1.toInt64) a3.toInt64).2 re a1.toNatClampNeg (v_X1_put sp 12 a3.toInt64 ((sp a1.toNatClampNeg).2.1.toInt64) a3.toInt64).1).2.1, (v_X2_actOnCard (v_X1_put sp 12 a3.toInt64 ((sp a1.toNatClampNeg).2.1.toInt64) a3.toInt64).2 re a1.toNatClampNeg (v_X1_put sp 12 a3.toInt64 ((sp a1.toNatClampNeg).2.1.toInt64) a3.toInt64).1).2.2) from by unfold v_X2_change; rw [if_pos c3, if_neg c7, if_pos c8])
        exact vx_ret (rt_i X hr (ad, (cf g ad x (v_X2_actOnCard (v_X1_put sp 12 a3.toInt64 ((sp a1.toNatClampNeg).2.1.toInt64) a3.toInt64).2 re a1.toNatClampNeg (v_X1_put sp 12 a3.toInt64 ((sp a1.toNatClampNeg).2.1.toInt64) a3.toInt64).1).2.1 dy la kn (v_X2_actOnCard (v_X1_put sp 12 a3.toInt64 ((sp a1.toNatClampNeg).2.1.toInt64) a3.toInt64).2 re a1.toNatClampNeg (v_X1_put sp 12 a3.toInt64 ((sp a1.toNatClampNeg).2.1.toInt64) a3.toInt64).1).2.2)) B (PO_of B) ⟨rfl, by unfold x_X2_change; rw [xo_none x1, xo_none x2, if_pos c3, if_neg c7, if_pos c8], by rw [ev], by rw [ev]⟩ rfl (Nat.le_of_ble_eq_true rfl) (Nat.le_of_ble_eq_true rfl) dX2_change_81)
    · refine lv_iload_n hx hb dX2_change_32 rfl (lv_at hl 5 rfl) ?_
      refine lv_goto (tgt := 41) hx hb dX2_change_33 (by decide) ?_
      refine lv_istore (lv' := [(6, .int a3), (5, .int a3), (4, .ref (ad (4 + a1.toNatClampNeg))), (0, .ref (ad 0)), (1, .int a1), (2, .int a2), (3, .int a3)]) hx hb dX2_change_41 hl (by decide) rfl (fun ls hl => ?_)
      refine lv_iload_n hx hb dX2_change_43 rfl (lv_at hl 5 rfl) ?_
      refine lv_iconst (v := 2) hx hb dX2_change_44 (by decide) ?_
      refine lv_icmp_ne (tgt := 52) hx hb dX2_change_45 (by decide) (fun c9 => ?_) (fun c9 => ?_)
      · refine lv_aload hx hb dX2_change_52 (lv_at hl 2 rfl) ?_
        refine g_getN (q := (4 + a1.toNatClampNeg)) (k := 2) X hK hT B rfl in_X1 (pl_sp hN (Nat.lt_of_lt_of_le (xl_X2_cardAt x1) (by decide))) (cf_sp (Nat.lt_of_lt_of_le (xl_X2_cardAt x1) (by decide))) (by decide) lk_X2_62 rfl rfl dX2_change_54 ?_
        refine lv_istore (lv' := [(7, .int (sp a1.toNatClampNeg).2.2), (6, .int a3), (5, .int a3), (4, .ref (ad (4 + a1.toNatClampNeg))), (0, .ref (ad 0)), (1, .int a1), (2, .int a2), (3, .int a3)]) hx hb dX2_change_57 hl (by decide) rfl (fun ls hl => ?_)
        refine lv_aload_n hx hb dX2_change_59 rfl (lv_at hl 4 rfl) ?_
        refine lv_aload hx hb dX2_change_60 (lv_at hl 3 rfl) ?_
        refine lv_aload_n hx hb dX2_change_62 rfl (lv_at hl 4 rfl) ?_
        refine g_get (q := 0) (k := 6) X hK B rfl in_X2 (pl_c hN 0 (by decide)) cf_0 (by decide) lk_X2_25 rfl rfl dX2_change_63 ?_
        refine lv_iload hx hb dX2_change_66 (lv_at hl 2 rfl) ?_
        refine lv_i2l (v := a3.toInt64) hx hb dX2_change_68 rfl ?_
        refine lv_iload hx hb dX2_change_69 (lv_at hl 1 rfl) ?_
        refine lv_i2l (v := a3.toInt64) hx hb dX2_change_71 rfl ?_
        refine lv_iload hx hb dX2_change_72 (lv_at hl 0 rfl) ?_
        refine lv_i2l (v := (sp a1.toNatClampNeg).2.2.toInt64) hx hb dX2_change_74 rfl ?_
        refine k_i (k := 2) (n := 12) hA B (u_VN (rest := [.ref (ad (4 + a1.toNatClampNeg)), .ref (ad 0)]) X (c_X1_put l g N ad x sp dy la kn re hN 12 (by decide) a3.toInt64 a3.toInt64 ((sp a1.toNatClampNeg).2.2.toInt64) H.size) mw_X1_put md_X1_put rfl lk_X2_41 ⟨Nat.le_of_ble_eq_true rfl, Nat.le_of_ble_eq_true rfl⟩ hA hK hT B (pl_sp hN (by decide)) (cf_sp (by decide)) rfl rfl hl.1 rfl (Nat.le_of_ble_eq_true rfl) dX2_change_75 ⟨Nat.le_of_ble_eq_true rfl, Nat.le_of_ble_eq_true rfl⟩) (Nat.le_of_ble_eq_true rfl) (Nat.le_of_ble_eq_true rfl) (fun r ad' f' H locs hw B => ?_)
        obtain ⟨rfl, rfl, rfl⟩ := hw
        refine k_i (k := 2) (n := 12) hA B (u_V (rest := []) X (c_X2_actOnCard l g N ad x (v_X1_put sp 12 a3.toInt64 a3.toInt64 ((sp a1.toNatClampNeg).2.2.toInt64)).2 dy la kn re hN a1.toNatClampNeg (Nat.lt_of_lt_of_le (xl_X2_cardAt x1) (by decide)) (v_X1_put sp 12 a3.toInt64 a3.toInt64 ((sp a1.toNatClampNeg).2.2.toInt64)).1 H.size) mw_X2_actOnCard md_X2_actOnCard rfl lk_X2_45 ⟨Nat.le_of_ble_eq_true rfl, Nat.le_of_ble_eq_true rfl⟩ hA hK hT B (pl_c hN 0 (by decide)) cf_0 rfl rfl hl.1 rfl (Nat.le_of_ble_eq_true rfl) dX2_change_78 ⟨Nat.le_of_ble_eq_true rfl, Nat.le_of_ble_eq_true rfl⟩) (Nat.le_of_ble_eq_true rfl) (Nat.le_of_ble_eq_true rfl) (fun r ad' f' H locs hw B => ?_)
        obtain ⟨rfl, rfl, rfl⟩ := hw
        have ev := (show v_X2_change sp re a1 a2 a3 = ((v_X2_actOnCard (v_X1_put sp 12 a3.toInt64 a3.toInt64 ((sp a1.toNatClampNeg).2.2.toInt64)).2 re a1.toNatClampNeg (v_X1_put sp 12 a3.toInt64 a3.toInt64 ((sp a1.toNatClampNeg).2.2.toInt64)).1).1, (v_X2_actOnCard (v_X1_put sp 12 a3.toInt64 a3.toInt64 ((sp a1.toNatClampNeg).2.2.toInt64)).2 re a1.toNatClampNeg (v_X1_put sp 12 a3.toInt64 a3.toInt64 ((sp a1.toNatClampNeg).2.2.toInt64)).1).2.1, (v_X2_actOnCard (v_X1_put sp 12 a3.toInt64 a3.toInt64 ((sp a1.toNatClampNeg).2.2.toInt64)).2 re a1.toNatClampNeg (v_X1_put sp 12 a3.toInt64 a3.toInt64 ((sp a1.toNatClampNeg).2.2.toInt64)).1).2.2) from by unfold v_X2_change; rw [if_pos c3, if_pos c7, if_neg c9])
        exact vx_ret (rt_i X hr (ad, (cf g ad x (v_X2_actOnCard (v_X1_put sp 12 a3.toInt64 a3.toInt64 ((sp a1.toNatClampNeg).2.2.toInt64)).2 re a1.toNatClampNeg (v_X1_put sp 12 a3.toInt64 a3.toInt64 ((sp a1.toNatClampNeg).2.2.toInt64)).1).2.1 dy la kn (v_X2_actOnCard (v_X1_put sp 12 a3.toInt64 a3.toInt64 ((sp a1.toNatClampNeg).2.2.toInt64)).2 re a1.toNatClampNeg (v_X1_put sp 12 a3.toInt64 a3.toInt64 ((sp a1.toNatClampNeg).2.2.toInt64)).1).2.2)) B (PO_of B) ⟨rfl, by unfold x_X2_change; rw [xo_none x1, xo_none x2, if_pos c3, if_pos c7, if_neg c9], by rw [ev], by rw [ev]⟩ rfl (Nat.le_of_ble_eq_true rfl) (Nat.le_of_ble_eq_true rfl) dX2_change_81)
      · refine lv_iload_n hx hb dX2_change_48 rfl (lv_at hl 6 rfl) ?_
        refine lv_goto (tgt := 57) hx hb dX2_change_49 (by decide) ?_
        refine lv_istore (lv' := [(7, .int a3), (6, .int a3), (5, .int a3), (4, .ref (ad (4 + a1.toNatClampNeg))), (0, .ref (ad 0)), (1, .int a1), (2, .int a2), (3, .int a3)]) hx hb dX2_change_57 hl (by decide) rfl (fun ls hl => ?_)
        refine lv_aload_n hx hb dX2_change_59 rfl (lv_at hl 4 rfl) ?_
        refine lv_aload hx hb dX2_change_60 (lv_at hl 3 rfl) ?_
        refine lv_aload_n hx hb dX2_change_62 rfl (lv_at hl 4 rfl) ?_
        refine g_get (q := 0) (k := 6) X hK B rfl in_X2 (pl_c hN 0 (by decide)) cf_0 (by decide) lk_X2_25 rfl rfl dX2_change_63 ?_
        refine lv_iload hx hb dX2_change_66 (lv_at hl 2 rfl) ?_
        refine lv_i2l (v := a3.toInt64) hx hb dX2_change_68 rfl ?_
        refine lv_iload hx hb dX2_change_69 (lv_at hl 1 rfl) ?_
        refine lv_i2l (v := a3.toInt64) hx hb dX2_change_71 rfl ?_
        refine lv_iload hx hb dX2_change_72 (lv_at hl 0 rfl) ?_
        refine lv_i2l (v := a3.toInt64) hx hb dX2_change_74 rfl ?_
        refine k_i (k := 2) (n := 12) hA B (u_VN (rest := [.ref (ad (4 + a1.toNatClampNeg)), .ref (ad 0)]) X (c_X1_put l g N ad x sp dy la kn re hN 12 (by decide) a3.toInt64 a3.toInt64 a3.toInt64 H.size) mw_X1_put md_X1_put rfl lk_X2_41 ⟨Nat.le_of_ble_eq_true rfl, Nat.le_of_ble_eq_true rfl⟩ hA hK hT B (pl_sp hN (by decide)) (cf_sp (by decide)) rfl rfl hl.1 rfl (Nat.le_of_ble_eq_true rfl) dX2_change_75 ⟨Nat.le_of_ble_eq_true rfl, Nat.le_of_ble_eq_true rfl⟩) (Nat.le_of_ble_eq_true rfl) (Nat.le_of_ble_eq_true rfl) (fun r ad' f' H locs hw B => ?_)
        obtain ⟨rfl, rfl, rfl⟩ := hw
        refine k_i (k := 2) (n := 12) hA B (u_V (rest := []) X (c_X2_actOnCard l g N ad x (v_X1_put sp 12 a3.toInt64 a3.toInt64 a3.toInt64).2 dy la kn re hN a1.toNatClampNeg (Nat.lt_of_lt_of_le (xl_X2_cardAt x1) (by decide)) (v_X1_put sp 12 a3.toInt64 a3.toInt64 a3.toInt64).1 H.size) mw_X2_actOnCard md_X2_actOnCard rfl lk_X2_45 ⟨Nat.le_of_ble_eq_true rfl, Nat.le_of_ble_eq_true rfl⟩ hA hK hT B (pl_c hN 0 (by decide)) cf_0 rfl rfl hl.1 rfl (Nat.le_of_ble_eq_true rfl) dX2_change_78 ⟨Nat.le_of_ble_eq_true rfl, Nat.le_of_ble_eq_true rfl⟩) (Nat.le_of_ble_eq_true rfl) (Nat.le_of_ble_eq_true rfl) (fun r ad' f' H locs hw B => ?_)
        obtain ⟨rfl, rfl, rfl⟩ := hw
        have ev := (show v_X2_change sp re a1 a2 a3 = ((v_X2_actOnCard (v_X1_put sp 12 a3.toInt64 a3.toInt64 a3.toInt64).2 re a1.toNatClampNeg (v_X1_put sp 12 a3.toInt64 a3.toInt64 a3.toInt64).1).1, (v_X2_actOnCard (v_X1_put sp 12 a3.toInt64 a3.toInt64 a3.toInt64).2 re a1.toNatClampNeg (v_X1_put sp 12 a3.toInt64 a3.toInt64 a3.toInt64).1).2.1, (v_X2_actOnCard (v_X1_put sp 12 a3.toInt64 a3.toInt64 a3.toInt64).2 re a1.toNatClampNeg (v_X1_put sp 12 a3.toInt64 a3.toInt64 a3.toInt64).1).2.2) from by unfold v_X2_change; rw [if_pos c3, if_pos c7, if_pos c9])
        exact vx_ret (rt_i X hr (ad, (cf g ad x (v_X2_actOnCard (v_X1_put sp 12 a3.toInt64 a3.toInt64 a3.toInt64).2 re a1.toNatClampNeg (v_X1_put sp 12 a3.toInt64 a3.toInt64 a3.toInt64).1).2.1 dy la kn (v_X2_actOnCard (v_X1_put sp 12 a3.toInt64 a3.toInt64 a3.toInt64).2 re a1.toNatClampNeg (v_X1_put sp 12 a3.toInt64 a3.toInt64 a3.toInt64).1).2.2)) B (PO_of B) ⟨rfl, by unfold x_X2_change; rw [xo_none x1, xo_none x2, if_pos c3, if_pos c7, if_pos c9], by rw [ev], by rw [ev]⟩ rfl (Nat.le_of_ble_eq_true rfl) (Nat.le_of_ble_eq_true rfl) dX2_change_81)
def v_X2_copy (sp : Nat → TR) (re : Int32) (a1 : Int32) (a2 : Int32) : Int32 × (Nat → TR) × Int32 := ((v_X2_actOnCard (v_X1_putSpan sp 12 a2.toNatClampNeg) re a1.toNatClampNeg 1).1, (v_X2_actOnCard (v_X1_putSpan sp 12 a2.toNatClampNeg) re a1.toNatClampNeg 1).2.1, (v_X2_actOnCard (v_X1_putSpan sp 12 a2.toNatClampNeg) re a1.toNatClampNeg 1).2.2)
def x_X2_copy (a1 : Int32) (a2 : Int32) : Option String := xo (x_X2_cardAt a1) (xo (x_X2_cardAt a2) none)
set_option maxHeartbeats 4000000 in
set_option maxRecDepth 100000 in
theorem c_X2_copy (l : Launch) (hfl : l.stackTraces = false) (g : GG) (N : Nat) (ad : Nat → Nat) (x : Nat → va_E) (sp dy : Nat → TR) (la kn re : Int32) (hN : 23 ≤ N) (a1 : Int32) (a2 : Int32) : XI l yX2_copy cX2_copy 4 (some .int) (rm 2 2 12) g [.ref (ad 0), .int a1, .int a2] N ad (cf g ad x sp dy la kn re) N (fun E => x_X2_copy a1 a2 = some E) (fun r ad' f' => ad = ad' ∧ x_X2_copy a1 a2 = none ∧ (v_X2_copy sp re a1 a2).1 = r ∧ (cf g ad x (v_X2_copy sp re a1 a2).2.1 dy la kn (v_X2_copy sp re a1 a2).2.2) = f') := by
  intro sz
  refine mx_start (by decide) (Nat.le_of_ble_eq_true rfl) ?_
  intro p e s m args below meth c hsz X hr hex hA hK hT H locs B ls hl
  obtain ⟨hx, hb, hml, hown, hts, hlocks⟩ := id X
  have hl : lv_has ls 4 [(0, .ref (ad 0)), (1, .int a1), (2, .int a2)] := hl
  refine lv_aload_n hx hb dX2_copy_0 rfl (lv_at hl 0 rfl) ?_
  refine lv_iload_n hx hb dX2_copy_1 rfl (lv_at hl 1 rfl) ?_
  refine k_xr (k := 1) (n := 6) hex X hsz hA B (ux_V (rest := []) X (c_X2_cardAt l hfl g N ad x sp dy la kn re hN a1 H.size) mw_X2_cardAt md_X2_cardAt rfl lk_X2_37 ⟨Nat.le_of_ble_eq_true rfl, Nat.le_of_ble_eq_true rfl⟩ hA hK hT B (pl_c hN 0 (by decide)) cf_0 rfl rfl hl.1 rfl (Nat.le_of_ble_eq_true rfl) dX2_copy_2 ⟨Nat.le_of_ble_eq_true rfl, Nat.le_of_ble_eq_true rfl⟩) (Nat.le_of_ble_eq_true rfl) (Nat.le_of_ble_eq_true rfl) (Nat.le_of_ble_eq_true rfl) (Nat.le_of_ble_eq_true rfl) (fun E hE => by unfold x_X2_copy; rw [xo_some hE]) (fun r ad' f' H locs hw B => ?_)
  obtain ⟨rfl, x1, rfl, rfl⟩ := hw
  refine lv_astore_n (lv' := [(3, .ref (ad (4 + a1.toNatClampNeg))), (0, .ref (ad 0)), (1, .int a1), (2, .int a2)]) hx hb dX2_copy_5 rfl hl (by decide) rfl (fun ls hl => ?_)
  refine lv_aload_n hx hb dX2_copy_6 rfl (lv_at hl 1 rfl) ?_
  refine g_get (q := 0) (k := 6) X hK B rfl in_X2 (pl_c hN 0 (by decide)) cf_0 (by decide) lk_X2_25 rfl rfl dX2_copy_7 ?_
  refine lv_aload_n hx hb dX2_copy_10 rfl (lv_at hl 1 rfl) ?_
  refine lv_iload_n hx hb dX2_copy_11 rfl (lv_at hl 3 rfl) ?_
  refine k_xr (k := 2) (n := 12) hex X hsz hA B (ux_V (rest := [.ref (ad (4 + 12))]) X (c_X2_cardAt l hfl g N ad x sp dy la kn re hN a2 H.size) mw_X2_cardAt md_X2_cardAt rfl lk_X2_37 ⟨Nat.le_of_ble_eq_true rfl, Nat.le_of_ble_eq_true rfl⟩ hA hK hT B (pl_c hN 0 (by decide)) cf_0 rfl rfl hl.1 rfl (Nat.le_of_ble_eq_true rfl) dX2_copy_12 ⟨Nat.le_of_ble_eq_true rfl, Nat.le_of_ble_eq_true rfl⟩) (Nat.le_of_ble_eq_true rfl) (Nat.le_of_ble_eq_true rfl) (Nat.le_of_ble_eq_true rfl) (Nat.le_of_ble_eq_true rfl) (fun E hE => by unfold x_X2_copy; rw [xo_none x1, xo_some hE]) (fun r ad' f' H locs hw B => ?_)
  obtain ⟨rfl, x2, rfl, rfl⟩ := hw
  refine k_v (k := 2) (n := 12) hA B (u_VN (rest := []) X (c_X1_putSpan l g N ad x sp dy la kn re hN 12 (by decide) a2.toNatClampNeg (Nat.lt_of_lt_of_le (xl_X2_cardAt x2) (by decide)) H.size) mw_X1_putSpan md_X1_putSpan rfl lk_X2_65 ⟨Nat.le_of_ble_eq_true rfl, Nat.le_of_ble_eq_true rfl⟩ hA hK hT B (pl_sp hN (by decide)) (cf_sp (by decide)) rfl rfl hl.1 rfl (Nat.le_of_ble_eq_true rfl) dX2_copy_15 ⟨Nat.le_of_ble_eq_true rfl, Nat.le_of_ble_eq_true rfl⟩) (Nat.le_of_ble_eq_true rfl) (Nat.le_of_ble_eq_true rfl) (fun ad' f' H locs hw B => ?_)
  obtain ⟨rfl, rfl⟩ := hw
  refine lv_aload_n hx hb dX2_copy_18 rfl (lv_at hl 1 rfl) ?_
  refine lv_aload_n hx hb dX2_copy_19 rfl (lv_at hl 0 rfl) ?_
  refine lv_iconst (v := 1) hx hb dX2_copy_20 (by decide) ?_
  refine k_i (k := 2) (n := 12) hA B (u_V (rest := []) X (c_X2_actOnCard l g N ad x (v_X1_putSpan sp 12 a2.toNatClampNeg) dy la kn re hN a1.toNatClampNeg (Nat.lt_of_lt_of_le (xl_X2_cardAt x1) (by decide)) 1 H.size) mw_X2_actOnCard md_X2_actOnCard rfl lk_X2_45 ⟨Nat.le_of_ble_eq_true rfl, Nat.le_of_ble_eq_true rfl⟩ hA hK hT B (pl_c hN 0 (by decide)) cf_0 rfl rfl hl.1 rfl (Nat.le_of_ble_eq_true rfl) dX2_copy_21 ⟨Nat.le_of_ble_eq_true rfl, Nat.le_of_ble_eq_true rfl⟩) (Nat.le_of_ble_eq_true rfl) (Nat.le_of_ble_eq_true rfl) (fun r ad' f' H locs hw B => ?_)
  obtain ⟨rfl, rfl, rfl⟩ := hw
  have ev := (show v_X2_copy sp re a1 a2 = ((v_X2_actOnCard (v_X1_putSpan sp 12 a2.toNatClampNeg) re a1.toNatClampNeg 1).1, (v_X2_actOnCard (v_X1_putSpan sp 12 a2.toNatClampNeg) re a1.toNatClampNeg 1).2.1, (v_X2_actOnCard (v_X1_putSpan sp 12 a2.toNatClampNeg) re a1.toNatClampNeg 1).2.2) from rfl)
  exact vx_ret (rt_i X hr (ad, (cf g ad x (v_X2_actOnCard (v_X1_putSpan sp 12 a2.toNatClampNeg) re a1.toNatClampNeg 1).2.1 dy la kn (v_X2_actOnCard (v_X1_putSpan sp 12 a2.toNatClampNeg) re a1.toNatClampNeg 1).2.2)) B (PO_of B) ⟨rfl, by unfold x_X2_copy; rw [xo_none x1, xo_none x2], by rw [ev], by rw [ev]⟩ rfl (Nat.le_of_ble_eq_true rfl) (Nat.le_of_ble_eq_true rfl) dX2_copy_24)
def v_X2_swap (sp : Nat → TR) (re : Int32) (a1 : Int32) (a2 : Int32) : Int32 × (Nat → TR) × Int32 := ((v_X2_actOnCard (v_X1_putSpan (v_X1_putSpan sp 12 a2.toNatClampNeg) a2.toNatClampNeg a1.toNatClampNeg) re a1.toNatClampNeg 1).1, (v_X2_actOnCard (v_X1_putSpan (v_X1_putSpan sp 12 a2.toNatClampNeg) a2.toNatClampNeg a1.toNatClampNeg) re a1.toNatClampNeg 1).2.1, (v_X2_actOnCard (v_X1_putSpan (v_X1_putSpan sp 12 a2.toNatClampNeg) a2.toNatClampNeg a1.toNatClampNeg) re a1.toNatClampNeg 1).2.2)
def x_X2_swap (a1 : Int32) (a2 : Int32) : Option String := xo (x_X2_cardAt a1) (xo (x_X2_cardAt a2) none)
set_option maxHeartbeats 4000000 in
set_option maxRecDepth 100000 in
theorem c_X2_swap (l : Launch) (hfl : l.stackTraces = false) (g : GG) (N : Nat) (ad : Nat → Nat) (x : Nat → va_E) (sp dy : Nat → TR) (la kn re : Int32) (hN : 23 ≤ N) (a1 : Int32) (a2 : Int32) : XI l yX2_swap cX2_swap 5 (some .int) (rm 2 2 12) g [.ref (ad 0), .int a1, .int a2] N ad (cf g ad x sp dy la kn re) N (fun E => x_X2_swap a1 a2 = some E) (fun r ad' f' => ad = ad' ∧ x_X2_swap a1 a2 = none ∧ (v_X2_swap sp re a1 a2).1 = r ∧ (cf g ad x (v_X2_swap sp re a1 a2).2.1 dy la kn (v_X2_swap sp re a1 a2).2.2) = f') := by
  intro sz
  refine mx_start (by decide) (Nat.le_of_ble_eq_true rfl) ?_
  intro p e s m args below meth c hsz X hr hex hA hK hT H locs B ls hl
  obtain ⟨hx, hb, hml, hown, hts, hlocks⟩ := id X
  have hl : lv_has ls 5 [(0, .ref (ad 0)), (1, .int a1), (2, .int a2)] := hl
  refine lv_aload_n hx hb dX2_swap_0 rfl (lv_at hl 0 rfl) ?_
  refine lv_iload_n hx hb dX2_swap_1 rfl (lv_at hl 1 rfl) ?_
  refine k_xr (k := 1) (n := 6) hex X hsz hA B (ux_V (rest := []) X (c_X2_cardAt l hfl g N ad x sp dy la kn re hN a1 H.size) mw_X2_cardAt md_X2_cardAt rfl lk_X2_37 ⟨Nat.le_of_ble_eq_true rfl, Nat.le_of_ble_eq_true rfl⟩ hA hK hT B (pl_c hN 0 (by decide)) cf_0 rfl rfl hl.1 rfl (Nat.le_of_ble_eq_true rfl) dX2_swap_2 ⟨Nat.le_of_ble_eq_true rfl, Nat.le_of_ble_eq_true rfl⟩) (Nat.le_of_ble_eq_true rfl) (Nat.le_of_ble_eq_true rfl) (Nat.le_of_ble_eq_true rfl) (Nat.le_of_ble_eq_true rfl) (fun E hE => by unfold x_X2_swap; rw [xo_some hE]) (fun r ad' f' H locs hw B => ?_)
  obtain ⟨rfl, x1, rfl, rfl⟩ := hw
  refine lv_astore_n (lv' := [(3, .ref (ad (4 + a1.toNatClampNeg))), (0, .ref (ad 0)), (1, .int a1), (2, .int a2)]) hx hb dX2_swap_5 rfl hl (by decide) rfl (fun ls hl => ?_)
  refine lv_aload_n hx hb dX2_swap_6 rfl (lv_at hl 1 rfl) ?_
  refine lv_iload_n hx hb dX2_swap_7 rfl (lv_at hl 3 rfl) ?_
  refine k_xr (k := 2) (n := 12) hex X hsz hA B (ux_V (rest := []) X (c_X2_cardAt l hfl g N ad x sp dy la kn re hN a2 H.size) mw_X2_cardAt md_X2_cardAt rfl lk_X2_37 ⟨Nat.le_of_ble_eq_true rfl, Nat.le_of_ble_eq_true rfl⟩ hA hK hT B (pl_c hN 0 (by decide)) cf_0 rfl rfl hl.1 rfl (Nat.le_of_ble_eq_true rfl) dX2_swap_8 ⟨Nat.le_of_ble_eq_true rfl, Nat.le_of_ble_eq_true rfl⟩) (Nat.le_of_ble_eq_true rfl) (Nat.le_of_ble_eq_true rfl) (Nat.le_of_ble_eq_true rfl) (Nat.le_of_ble_eq_true rfl) (fun E hE => by unfold x_X2_swap; rw [xo_none x1, xo_some hE]) (fun r ad' f' H locs hw B => ?_)
  obtain ⟨rfl, x2, rfl, rfl⟩ := hw
  refine lv_astore (lv' := [(4, .ref (ad (4 + a2.toNatClampNeg))), (3, .ref (ad (4 + a1.toNatClampNeg))), (0, .ref (ad 0)), (1, .int a1), (2, .int a2)]) hx hb dX2_swap_11 hl (by decide) rfl (fun ls hl => ?_)
  refine lv_aload_n hx hb dX2_swap_13 rfl (lv_at hl 2 rfl) ?_
  refine g_get (q := 0) (k := 6) X hK B rfl in_X2 (pl_c hN 0 (by decide)) cf_0 (by decide) lk_X2_25 rfl rfl dX2_swap_14 ?_
  refine lv_aload hx hb dX2_swap_17 (lv_at hl 0 rfl) ?_
  refine k_v (k := 2) (n := 12) hA B (u_VN (rest := []) X (c_X1_putSpan l g N ad x sp dy la kn re hN 12 (by decide) a2.toNatClampNeg (Nat.lt_of_lt_of_le (xl_X2_cardAt x2) (by decide)) H.size) mw_X1_putSpan md_X1_putSpan rfl lk_X2_65 ⟨Nat.le_of_ble_eq_true rfl, Nat.le_of_ble_eq_true rfl⟩ hA hK hT B (pl_sp hN (by decide)) (cf_sp (by decide)) rfl rfl hl.1 rfl (Nat.le_of_ble_eq_true rfl) dX2_swap_19 ⟨Nat.le_of_ble_eq_true rfl, Nat.le_of_ble_eq_true rfl⟩) (Nat.le_of_ble_eq_true rfl) (Nat.le_of_ble_eq_true rfl) (fun ad' f' H locs hw B => ?_)
  obtain ⟨rfl, rfl⟩ := hw
  refine lv_aload hx hb dX2_swap_22 (lv_at hl 0 rfl) ?_
  refine lv_aload_n hx hb dX2_swap_24 rfl (lv_at hl 1 rfl) ?_
  refine k_v (k := 2) (n := 12) hA B (u_VN (rest := []) X (c_X1_putSpan l g N ad x (v_X1_putSpan sp 12 a2.toNatClampNeg) dy la kn re hN a2.toNatClampNeg (Nat.lt_of_lt_of_le (xl_X2_cardAt x2) (by decide)) a1.toNatClampNeg (Nat.lt_of_lt_of_le (xl_X2_cardAt x1) (by decide)) H.size) mw_X1_putSpan md_X1_putSpan rfl lk_X2_65 ⟨Nat.le_of_ble_eq_true rfl, Nat.le_of_ble_eq_true rfl⟩ hA hK hT B (pl_sp hN (Nat.lt_of_lt_of_le (xl_X2_cardAt x2) (by decide))) (cf_sp (Nat.lt_of_lt_of_le (xl_X2_cardAt x2) (by decide))) rfl rfl hl.1 rfl (Nat.le_of_ble_eq_true rfl) dX2_swap_25 ⟨Nat.le_of_ble_eq_true rfl, Nat.le_of_ble_eq_true rfl⟩) (Nat.le_of_ble_eq_true rfl) (Nat.le_of_ble_eq_true rfl) (fun ad' f' H locs hw B => ?_)
  obtain ⟨rfl, rfl⟩ := hw
  refine lv_aload_n hx hb dX2_swap_28 rfl (lv_at hl 2 rfl) ?_
  refine lv_aload_n hx hb dX2_swap_29 rfl (lv_at hl 1 rfl) ?_
  refine lv_iconst (v := 1) hx hb dX2_swap_30 (by decide) ?_
  refine k_i (k := 2) (n := 12) hA B (u_V (rest := []) X (c_X2_actOnCard l g N ad x (v_X1_putSpan (v_X1_putSpan sp 12 a2.toNatClampNeg) a2.toNatClampNeg a1.toNatClampNeg) dy la kn re hN a1.toNatClampNeg (Nat.lt_of_lt_of_le (xl_X2_cardAt x1) (by decide)) 1 H.size) mw_X2_actOnCard md_X2_actOnCard rfl lk_X2_45 ⟨Nat.le_of_ble_eq_true rfl, Nat.le_of_ble_eq_true rfl⟩ hA hK hT B (pl_c hN 0 (by decide)) cf_0 rfl rfl hl.1 rfl (Nat.le_of_ble_eq_true rfl) dX2_swap_31 ⟨Nat.le_of_ble_eq_true rfl, Nat.le_of_ble_eq_true rfl⟩) (Nat.le_of_ble_eq_true rfl) (Nat.le_of_ble_eq_true rfl) (fun r ad' f' H locs hw B => ?_)
  obtain ⟨rfl, rfl, rfl⟩ := hw
  have ev := (show v_X2_swap sp re a1 a2 = ((v_X2_actOnCard (v_X1_putSpan (v_X1_putSpan sp 12 a2.toNatClampNeg) a2.toNatClampNeg a1.toNatClampNeg) re a1.toNatClampNeg 1).1, (v_X2_actOnCard (v_X1_putSpan (v_X1_putSpan sp 12 a2.toNatClampNeg) a2.toNatClampNeg a1.toNatClampNeg) re a1.toNatClampNeg 1).2.1, (v_X2_actOnCard (v_X1_putSpan (v_X1_putSpan sp 12 a2.toNatClampNeg) a2.toNatClampNeg a1.toNatClampNeg) re a1.toNatClampNeg 1).2.2) from rfl)
  exact vx_ret (rt_i X hr (ad, (cf g ad x (v_X2_actOnCard (v_X1_putSpan (v_X1_putSpan sp 12 a2.toNatClampNeg) a2.toNatClampNeg a1.toNatClampNeg) re a1.toNatClampNeg 1).2.1 dy la kn (v_X2_actOnCard (v_X1_putSpan (v_X1_putSpan sp 12 a2.toNatClampNeg) a2.toNatClampNeg a1.toNatClampNeg) re a1.toNatClampNeg 1).2.2)) B (PO_of B) ⟨rfl, by unfold x_X2_swap; rw [xo_none x1, xo_none x2], by rw [ev], by rw [ev]⟩ rfl (Nat.le_of_ble_eq_true rfl) (Nat.le_of_ble_eq_true rfl) dX2_swap_34)
def v_X2_plusYears (sp : Nat → TR) (re : Int32) (a1 : Int32) (a2 : Int32) (a3 : Int32) : Int32 × (Nat → TR) × Int32 := ((v_X2_actOnCard (v_X1_put sp 12 (((sp a1.toNatClampNeg).1.toInt64) + (v_X2_howMany a2 a3)) ((sp a1.toNatClampNeg).2.1.toInt64) ((sp a1.toNatClampNeg).2.2.toInt64)).2 re a1.toNatClampNeg (v_X1_put sp 12 (((sp a1.toNatClampNeg).1.toInt64) + (v_X2_howMany a2 a3)) ((sp a1.toNatClampNeg).2.1.toInt64) ((sp a1.toNatClampNeg).2.2.toInt64)).1).1, (v_X2_actOnCard (v_X1_put sp 12 (((sp a1.toNatClampNeg).1.toInt64) + (v_X2_howMany a2 a3)) ((sp a1.toNatClampNeg).2.1.toInt64) ((sp a1.toNatClampNeg).2.2.toInt64)).2 re a1.toNatClampNeg (v_X1_put sp 12 (((sp a1.toNatClampNeg).1.toInt64) + (v_X2_howMany a2 a3)) ((sp a1.toNatClampNeg).2.1.toInt64) ((sp a1.toNatClampNeg).2.2.toInt64)).1).2.1, (v_X2_actOnCard (v_X1_put sp 12 (((sp a1.toNatClampNeg).1.toInt64) + (v_X2_howMany a2 a3)) ((sp a1.toNatClampNeg).2.1.toInt64) ((sp a1.toNatClampNeg).2.2.toInt64)).2 re a1.toNatClampNeg (v_X1_put sp 12 (((sp a1.toNatClampNeg).1.toInt64) + (v_X2_howMany a2 a3)) ((sp a1.toNatClampNeg).2.1.toInt64) ((sp a1.toNatClampNeg).2.2.toInt64)).1).2.2)
def x_X2_plusYears (a1 : Int32) : Option String := xo (x_X2_cardAt a1) none
set_option maxHeartbeats 4000000 in
set_option maxRecDepth 100000 in
theorem c_X2_plusYears (l : Launch) (hfl : l.stackTraces = false) (g : GG) (N : Nat) (ad : Nat → Nat) (x : Nat → va_E) (sp dy : Nat → TR) (la kn re : Int32) (hN : 23 ≤ N) (a1 : Int32) (a2 : Int32) (a3 : Int32) : XI l yX2_plusYears cX2_plusYears 7 (some .int) (rm 2 1 6) g [.ref (ad 0), .int a1, .int a2, .int a3] N ad (cf g ad x sp dy la kn re) N (fun E => x_X2_plusYears a1 = some E) (fun r ad' f' => ad = ad' ∧ x_X2_plusYears a1 = none ∧ (v_X2_plusYears sp re a1 a2 a3).1 = r ∧ (cf g ad x (v_X2_plusYears sp re a1 a2 a3).2.1 dy la kn (v_X2_plusYears sp re a1 a2 a3).2.2) = f') := by
  intro sz
  refine mx_start (by decide) (Nat.le_of_ble_eq_true rfl) ?_
  intro p e s m args below meth c hsz X hr hex hA hK hT H locs B ls hl
  obtain ⟨hx, hb, hml, hown, hts, hlocks⟩ := id X
  have hl : lv_has ls 7 [(0, .ref (ad 0)), (1, .int a1), (2, .int a2), (3, .int a3)] := hl
  refine lv_aload_n hx hb dX2_plusYears_0 rfl (lv_at hl 0 rfl) ?_
  refine lv_iload_n hx hb dX2_plusYears_1 rfl (lv_at hl 1 rfl) ?_
  refine k_xr (k := 1) (n := 6) hex X hsz hA B (ux_V (rest := []) X (c_X2_cardAt l hfl g N ad x sp dy la kn re hN a1 H.size) mw_X2_cardAt md_X2_cardAt rfl lk_X2_37 ⟨Nat.le_of_ble_eq_true rfl, Nat.le_of_ble_eq_true rfl⟩ hA hK hT B (pl_c hN 0 (by decide)) cf_0 rfl rfl hl.1 rfl (Nat.le_of_ble_eq_true rfl) dX2_plusYears_2 ⟨Nat.le_of_ble_eq_true rfl, Nat.le_of_ble_eq_true rfl⟩) (Nat.le_of_ble_eq_true rfl) (Nat.le_of_ble_eq_true rfl) (Nat.le_of_ble_eq_true rfl) (Nat.le_of_ble_eq_true rfl) (fun E hE => by unfold x_X2_plusYears; rw [xo_some hE]) (fun r ad' f' H locs hw B => ?_)
  obtain ⟨rfl, x1, rfl, rfl⟩ := hw
  refine lv_astore (lv' := [(4, .ref (ad (4 + a1.toNatClampNeg))), (0, .ref (ad 0)), (1, .int a1), (2, .int a2), (3, .int a3)]) hx hb dX2_plusYears_5 hl (by decide) rfl (fun ls hl => ?_)
  refine lv_iload_n hx hb dX2_plusYears_7 rfl (lv_at hl 3 rfl) ?_
  refine lv_iload_n hx hb dX2_plusYears_8 rfl (lv_at hl 4 rfl) ?_
  refine k_l (k := 1) (n := 6) hA B (u_S (rest := []) X (c_X2_howMany l g N ad x sp dy la kn re hN a2 a3 H.size) mw_X2_howMany md_X2_howMany rfl lk_X2_69 ⟨Nat.le_of_ble_eq_true rfl, Nat.le_of_ble_eq_true rfl⟩ hA hK hT B hl.1 rfl (Nat.le_of_ble_eq_true rfl) dX2_plusYears_9 ⟨Nat.le_of_ble_eq_true rfl, Nat.le_of_ble_eq_true rfl⟩) (Nat.le_of_ble_eq_true rfl) (Nat.le_of_ble_eq_true rfl) (fun r ad' f' H locs hw B => ?_)
  obtain ⟨rfl, rfl, rfl⟩ := hw
  refine lv_lstore (lv' := [(5, .long (v_X2_howMany a2 a3)), (4, .ref (ad (4 + a1.toNatClampNeg))), (0, .ref (ad 0)), (1, .int a1), (2, .int a2), (3, .int a3)]) hx hb dX2_plusYears_12 hl (by decide) rfl (fun ls hl => ?_)
  refine lv_aload_n hx hb dX2_plusYears_14 rfl (lv_at hl 2 rfl) ?_
  refine lv_aload hx hb dX2_plusYears_15 (lv_at hl 1 rfl) ?_
  refine lv_aload_n hx hb dX2_plusYears_17 rfl (lv_at hl 2 rfl) ?_
  refine g_get (q := 0) (k := 6) X hK B rfl in_X2 (pl_c hN 0 (by decide)) cf_0 (by decide) lk_X2_25 rfl rfl dX2_plusYears_18 ?_
  refine lv_aload hx hb dX2_plusYears_21 (lv_at hl 1 rfl) ?_
  refine g_getN (q := (4 + a1.toNatClampNeg)) (k := 0) X hK hT B rfl in_X1 (pl_sp hN (Nat.lt_of_lt_of_le (xl_X2_cardAt x1) (by decide))) (cf_sp (Nat.lt_of_lt_of_le (xl_X2_cardAt x1) (by decide))) (by decide) lk_X2_55 rfl rfl dX2_plusYears_23 ?_
  refine lv_i2l (v := (sp a1.toNatClampNeg).1.toInt64) hx hb dX2_plusYears_26 rfl ?_
  refine lv_lload hx hb dX2_plusYears_27 (lv_at hl 0 rfl) ?_
  refine lv_ladd hx hb dX2_plusYears_29 ?_
  refine lv_aload hx hb dX2_plusYears_30 (lv_at hl 1 rfl) ?_
  refine g_getN (q := (4 + a1.toNatClampNeg)) (k := 1) X hK hT B rfl in_X1 (pl_sp hN (Nat.lt_of_lt_of_le (xl_X2_cardAt x1) (by decide))) (cf_sp (Nat.lt_of_lt_of_le (xl_X2_cardAt x1) (by decide))) (by decide) lk_X2_59 rfl rfl dX2_plusYears_32 ?_
  refine lv_i2l (v := (sp a1.toNatClampNeg).2.1.toInt64) hx hb dX2_plusYears_35 rfl ?_
  refine lv_aload hx hb dX2_plusYears_36 (lv_at hl 1 rfl) ?_
  refine g_getN (q := (4 + a1.toNatClampNeg)) (k := 2) X hK hT B rfl in_X1 (pl_sp hN (Nat.lt_of_lt_of_le (xl_X2_cardAt x1) (by decide))) (cf_sp (Nat.lt_of_lt_of_le (xl_X2_cardAt x1) (by decide))) (by decide) lk_X2_62 rfl rfl dX2_plusYears_38 ?_
  refine lv_i2l (v := (sp a1.toNatClampNeg).2.2.toInt64) hx hb dX2_plusYears_41 rfl ?_
  refine k_i (k := 1) (n := 6) hA B (u_VN (rest := [.ref (ad (4 + a1.toNatClampNeg)), .ref (ad 0)]) X (c_X1_put l g N ad x sp dy la kn re hN 12 (by decide) (((sp a1.toNatClampNeg).1.toInt64) + (v_X2_howMany a2 a3)) ((sp a1.toNatClampNeg).2.1.toInt64) ((sp a1.toNatClampNeg).2.2.toInt64) H.size) mw_X1_put md_X1_put rfl lk_X2_41 ⟨Nat.le_of_ble_eq_true rfl, Nat.le_of_ble_eq_true rfl⟩ hA hK hT B (pl_sp hN (by decide)) (cf_sp (by decide)) rfl rfl hl.1 rfl (Nat.le_of_ble_eq_true rfl) dX2_plusYears_42 ⟨Nat.le_of_ble_eq_true rfl, Nat.le_of_ble_eq_true rfl⟩) (Nat.le_of_ble_eq_true rfl) (Nat.le_of_ble_eq_true rfl) (fun r ad' f' H locs hw B => ?_)
  obtain ⟨rfl, rfl, rfl⟩ := hw
  refine k_i (k := 1) (n := 6) hA B (u_V (rest := []) X (c_X2_actOnCard l g N ad x (v_X1_put sp 12 (((sp a1.toNatClampNeg).1.toInt64) + (v_X2_howMany a2 a3)) ((sp a1.toNatClampNeg).2.1.toInt64) ((sp a1.toNatClampNeg).2.2.toInt64)).2 dy la kn re hN a1.toNatClampNeg (Nat.lt_of_lt_of_le (xl_X2_cardAt x1) (by decide)) (v_X1_put sp 12 (((sp a1.toNatClampNeg).1.toInt64) + (v_X2_howMany a2 a3)) ((sp a1.toNatClampNeg).2.1.toInt64) ((sp a1.toNatClampNeg).2.2.toInt64)).1 H.size) mw_X2_actOnCard md_X2_actOnCard rfl lk_X2_45 ⟨Nat.le_of_ble_eq_true rfl, Nat.le_of_ble_eq_true rfl⟩ hA hK hT B (pl_c hN 0 (by decide)) cf_0 rfl rfl hl.1 rfl (Nat.le_of_ble_eq_true rfl) dX2_plusYears_45 ⟨Nat.le_of_ble_eq_true rfl, Nat.le_of_ble_eq_true rfl⟩) (Nat.le_of_ble_eq_true rfl) (Nat.le_of_ble_eq_true rfl) (fun r ad' f' H locs hw B => ?_)
  obtain ⟨rfl, rfl, rfl⟩ := hw
  have ev := (show v_X2_plusYears sp re a1 a2 a3 = ((v_X2_actOnCard (v_X1_put sp 12 (((sp a1.toNatClampNeg).1.toInt64) + (v_X2_howMany a2 a3)) ((sp a1.toNatClampNeg).2.1.toInt64) ((sp a1.toNatClampNeg).2.2.toInt64)).2 re a1.toNatClampNeg (v_X1_put sp 12 (((sp a1.toNatClampNeg).1.toInt64) + (v_X2_howMany a2 a3)) ((sp a1.toNatClampNeg).2.1.toInt64) ((sp a1.toNatClampNeg).2.2.toInt64)).1).1, (v_X2_actOnCard (v_X1_put sp 12 (((sp a1.toNatClampNeg).1.toInt64) + (v_X2_howMany a2 a3)) ((sp a1.toNatClampNeg).2.1.toInt64) ((sp a1.toNatClampNeg).2.2.toInt64)).2 re a1.toNatClampNeg (v_X1_put sp 12 (((sp a1.toNatClampNeg).1.toInt64) + (v_X2_howMany a2 a3)) ((sp a1.toNatClampNeg).2.1.toInt64) ((sp a1.toNatClampNeg).2.2.toInt64)).1).2.1, (v_X2_actOnCard (v_X1_put sp 12 (((sp a1.toNatClampNeg).1.toInt64) + (v_X2_howMany a2 a3)) ((sp a1.toNatClampNeg).2.1.toInt64) ((sp a1.toNatClampNeg).2.2.toInt64)).2 re a1.toNatClampNeg (v_X1_put sp 12 (((sp a1.toNatClampNeg).1.toInt64) + (v_X2_howMany a2 a3)) ((sp a1.toNatClampNeg).2.1.toInt64) ((sp a1.toNatClampNeg).2.2.toInt64)).1).2.2) from rfl)
  exact vx_ret (rt_i X hr (ad, (cf g ad x (v_X2_actOnCard (v_X1_put sp 12 (((sp a1.toNatClampNeg).1.toInt64) + (v_X2_howMany a2 a3)) ((sp a1.toNatClampNeg).2.1.toInt64) ((sp a1.toNatClampNeg).2.2.toInt64)).2 re a1.toNatClampNeg (v_X1_put sp 12 (((sp a1.toNatClampNeg).1.toInt64) + (v_X2_howMany a2 a3)) ((sp a1.toNatClampNeg).2.1.toInt64) ((sp a1.toNatClampNeg).2.2.toInt64)).1).2.1 dy la kn (v_X2_actOnCard (v_X1_put sp 12 (((sp a1.toNatClampNeg).1.toInt64) + (v_X2_howMany a2 a3)) ((sp a1.toNatClampNeg).2.1.toInt64) ((sp a1.toNatClampNeg).2.2.toInt64)).2 re a1.toNatClampNeg (v_X1_put sp 12 (((sp a1.toNatClampNeg).1.toInt64) + (v_X2_howMany a2 a3)) ((sp a1.toNatClampNeg).2.1.toInt64) ((sp a1.toNatClampNeg).2.2.toInt64)).1).2.2)) B (PO_of B) ⟨rfl, by unfold x_X2_plusYears; rw [xo_none x1], by rw [ev], by rw [ev]⟩ rfl (Nat.le_of_ble_eq_true rfl) (Nat.le_of_ble_eq_true rfl) dX2_plusYears_48)
def v_X2_plusMonths (sp : Nat → TR) (re : Int32) (a1 : Int32) (a2 : Int32) (a3 : Int32) : Int32 × (Nat → TR) × Int32 := ((v_X2_actOnCard (v_X1_put sp 12 ((sp a1.toNatClampNeg).1.toInt64) (((sp a1.toNatClampNeg).2.1.toInt64) + (v_X2_howMany a2 a3)) ((sp a1.toNatClampNeg).2.2.toInt64)).2 re a1.toNatClampNeg (v_X1_put sp 12 ((sp a1.toNatClampNeg).1.toInt64) (((sp a1.toNatClampNeg).2.1.toInt64) + (v_X2_howMany a2 a3)) ((sp a1.toNatClampNeg).2.2.toInt64)).1).1, (v_X2_actOnCard (v_X1_put sp 12 ((sp a1.toNatClampNeg).1.toInt64) (((sp a1.toNatClampNeg).2.1.toInt64) + (v_X2_howMany a2 a3)) ((sp a1.toNatClampNeg).2.2.toInt64)).2 re a1.toNatClampNeg (v_X1_put sp 12 ((sp a1.toNatClampNeg).1.toInt64) (((sp a1.toNatClampNeg).2.1.toInt64) + (v_X2_howMany a2 a3)) ((sp a1.toNatClampNeg).2.2.toInt64)).1).2.1, (v_X2_actOnCard (v_X1_put sp 12 ((sp a1.toNatClampNeg).1.toInt64) (((sp a1.toNatClampNeg).2.1.toInt64) + (v_X2_howMany a2 a3)) ((sp a1.toNatClampNeg).2.2.toInt64)).2 re a1.toNatClampNeg (v_X1_put sp 12 ((sp a1.toNatClampNeg).1.toInt64) (((sp a1.toNatClampNeg).2.1.toInt64) + (v_X2_howMany a2 a3)) ((sp a1.toNatClampNeg).2.2.toInt64)).1).2.2)
def x_X2_plusMonths (a1 : Int32) : Option String := xo (x_X2_cardAt a1) none
set_option maxHeartbeats 4000000 in
set_option maxRecDepth 100000 in
theorem c_X2_plusMonths (l : Launch) (hfl : l.stackTraces = false) (g : GG) (N : Nat) (ad : Nat → Nat) (x : Nat → va_E) (sp dy : Nat → TR) (la kn re : Int32) (hN : 23 ≤ N) (a1 : Int32) (a2 : Int32) (a3 : Int32) : XI l yX2_plusMonths cX2_plusMonths 7 (some .int) (rm 2 1 6) g [.ref (ad 0), .int a1, .int a2, .int a3] N ad (cf g ad x sp dy la kn re) N (fun E => x_X2_plusMonths a1 = some E) (fun r ad' f' => ad = ad' ∧ x_X2_plusMonths a1 = none ∧ (v_X2_plusMonths sp re a1 a2 a3).1 = r ∧ (cf g ad x (v_X2_plusMonths sp re a1 a2 a3).2.1 dy la kn (v_X2_plusMonths sp re a1 a2 a3).2.2) = f') := by
  intro sz
  refine mx_start (by decide) (Nat.le_of_ble_eq_true rfl) ?_
  intro p e s m args below meth c hsz X hr hex hA hK hT H locs B ls hl
  obtain ⟨hx, hb, hml, hown, hts, hlocks⟩ := id X
  have hl : lv_has ls 7 [(0, .ref (ad 0)), (1, .int a1), (2, .int a2), (3, .int a3)] := hl
  refine lv_aload_n hx hb dX2_plusMonths_0 rfl (lv_at hl 0 rfl) ?_
  refine lv_iload_n hx hb dX2_plusMonths_1 rfl (lv_at hl 1 rfl) ?_
  refine k_xr (k := 1) (n := 6) hex X hsz hA B (ux_V (rest := []) X (c_X2_cardAt l hfl g N ad x sp dy la kn re hN a1 H.size) mw_X2_cardAt md_X2_cardAt rfl lk_X2_37 ⟨Nat.le_of_ble_eq_true rfl, Nat.le_of_ble_eq_true rfl⟩ hA hK hT B (pl_c hN 0 (by decide)) cf_0 rfl rfl hl.1 rfl (Nat.le_of_ble_eq_true rfl) dX2_plusMonths_2 ⟨Nat.le_of_ble_eq_true rfl, Nat.le_of_ble_eq_true rfl⟩) (Nat.le_of_ble_eq_true rfl) (Nat.le_of_ble_eq_true rfl) (Nat.le_of_ble_eq_true rfl) (Nat.le_of_ble_eq_true rfl) (fun E hE => by unfold x_X2_plusMonths; rw [xo_some hE]) (fun r ad' f' H locs hw B => ?_)
  obtain ⟨rfl, x1, rfl, rfl⟩ := hw
  refine lv_astore (lv' := [(4, .ref (ad (4 + a1.toNatClampNeg))), (0, .ref (ad 0)), (1, .int a1), (2, .int a2), (3, .int a3)]) hx hb dX2_plusMonths_5 hl (by decide) rfl (fun ls hl => ?_)
  refine lv_iload_n hx hb dX2_plusMonths_7 rfl (lv_at hl 3 rfl) ?_
  refine lv_iload_n hx hb dX2_plusMonths_8 rfl (lv_at hl 4 rfl) ?_
  refine k_l (k := 1) (n := 6) hA B (u_S (rest := []) X (c_X2_howMany l g N ad x sp dy la kn re hN a2 a3 H.size) mw_X2_howMany md_X2_howMany rfl lk_X2_69 ⟨Nat.le_of_ble_eq_true rfl, Nat.le_of_ble_eq_true rfl⟩ hA hK hT B hl.1 rfl (Nat.le_of_ble_eq_true rfl) dX2_plusMonths_9 ⟨Nat.le_of_ble_eq_true rfl, Nat.le_of_ble_eq_true rfl⟩) (Nat.le_of_ble_eq_true rfl) (Nat.le_of_ble_eq_true rfl) (fun r ad' f' H locs hw B => ?_)
  obtain ⟨rfl, rfl, rfl⟩ := hw
  refine lv_lstore (lv' := [(5, .long (v_X2_howMany a2 a3)), (4, .ref (ad (4 + a1.toNatClampNeg))), (0, .ref (ad 0)), (1, .int a1), (2, .int a2), (3, .int a3)]) hx hb dX2_plusMonths_12 hl (by decide) rfl (fun ls hl => ?_)
  refine lv_aload_n hx hb dX2_plusMonths_14 rfl (lv_at hl 2 rfl) ?_
  refine lv_aload hx hb dX2_plusMonths_15 (lv_at hl 1 rfl) ?_
  refine lv_aload_n hx hb dX2_plusMonths_17 rfl (lv_at hl 2 rfl) ?_
  refine g_get (q := 0) (k := 6) X hK B rfl in_X2 (pl_c hN 0 (by decide)) cf_0 (by decide) lk_X2_25 rfl rfl dX2_plusMonths_18 ?_
  refine lv_aload hx hb dX2_plusMonths_21 (lv_at hl 1 rfl) ?_
  refine g_getN (q := (4 + a1.toNatClampNeg)) (k := 0) X hK hT B rfl in_X1 (pl_sp hN (Nat.lt_of_lt_of_le (xl_X2_cardAt x1) (by decide))) (cf_sp (Nat.lt_of_lt_of_le (xl_X2_cardAt x1) (by decide))) (by decide) lk_X2_55 rfl rfl dX2_plusMonths_23 ?_
  refine lv_i2l (v := (sp a1.toNatClampNeg).1.toInt64) hx hb dX2_plusMonths_26 rfl ?_
  refine lv_aload hx hb dX2_plusMonths_27 (lv_at hl 1 rfl) ?_
  refine g_getN (q := (4 + a1.toNatClampNeg)) (k := 1) X hK hT B rfl in_X1 (pl_sp hN (Nat.lt_of_lt_of_le (xl_X2_cardAt x1) (by decide))) (cf_sp (Nat.lt_of_lt_of_le (xl_X2_cardAt x1) (by decide))) (by decide) lk_X2_59 rfl rfl dX2_plusMonths_29 ?_
  refine lv_i2l (v := (sp a1.toNatClampNeg).2.1.toInt64) hx hb dX2_plusMonths_32 rfl ?_
  refine lv_lload hx hb dX2_plusMonths_33 (lv_at hl 0 rfl) ?_
  refine lv_ladd hx hb dX2_plusMonths_35 ?_
  refine lv_aload hx hb dX2_plusMonths_36 (lv_at hl 1 rfl) ?_
  refine g_getN (q := (4 + a1.toNatClampNeg)) (k := 2) X hK hT B rfl in_X1 (pl_sp hN (Nat.lt_of_lt_of_le (xl_X2_cardAt x1) (by decide))) (cf_sp (Nat.lt_of_lt_of_le (xl_X2_cardAt x1) (by decide))) (by decide) lk_X2_62 rfl rfl dX2_plusMonths_38 ?_
  refine lv_i2l (v := (sp a1.toNatClampNeg).2.2.toInt64) hx hb dX2_plusMonths_41 rfl ?_
  refine k_i (k := 1) (n := 6) hA B (u_VN (rest := [.ref (ad (4 + a1.toNatClampNeg)), .ref (ad 0)]) X (c_X1_put l g N ad x sp dy la kn re hN 12 (by decide) ((sp a1.toNatClampNeg).1.toInt64) (((sp a1.toNatClampNeg).2.1.toInt64) + (v_X2_howMany a2 a3)) ((sp a1.toNatClampNeg).2.2.toInt64) H.size) mw_X1_put md_X1_put rfl lk_X2_41 ⟨Nat.le_of_ble_eq_true rfl, Nat.le_of_ble_eq_true rfl⟩ hA hK hT B (pl_sp hN (by decide)) (cf_sp (by decide)) rfl rfl hl.1 rfl (Nat.le_of_ble_eq_true rfl) dX2_plusMonths_42 ⟨Nat.le_of_ble_eq_true rfl, Nat.le_of_ble_eq_true rfl⟩) (Nat.le_of_ble_eq_true rfl) (Nat.le_of_ble_eq_true rfl) (fun r ad' f' H locs hw B => ?_)
  obtain ⟨rfl, rfl, rfl⟩ := hw
  refine k_i (k := 1) (n := 6) hA B (u_V (rest := []) X (c_X2_actOnCard l g N ad x (v_X1_put sp 12 ((sp a1.toNatClampNeg).1.toInt64) (((sp a1.toNatClampNeg).2.1.toInt64) + (v_X2_howMany a2 a3)) ((sp a1.toNatClampNeg).2.2.toInt64)).2 dy la kn re hN a1.toNatClampNeg (Nat.lt_of_lt_of_le (xl_X2_cardAt x1) (by decide)) (v_X1_put sp 12 ((sp a1.toNatClampNeg).1.toInt64) (((sp a1.toNatClampNeg).2.1.toInt64) + (v_X2_howMany a2 a3)) ((sp a1.toNatClampNeg).2.2.toInt64)).1 H.size) mw_X2_actOnCard md_X2_actOnCard rfl lk_X2_45 ⟨Nat.le_of_ble_eq_true rfl, Nat.le_of_ble_eq_true rfl⟩ hA hK hT B (pl_c hN 0 (by decide)) cf_0 rfl rfl hl.1 rfl (Nat.le_of_ble_eq_true rfl) dX2_plusMonths_45 ⟨Nat.le_of_ble_eq_true rfl, Nat.le_of_ble_eq_true rfl⟩) (Nat.le_of_ble_eq_true rfl) (Nat.le_of_ble_eq_true rfl) (fun r ad' f' H locs hw B => ?_)
  obtain ⟨rfl, rfl, rfl⟩ := hw
  have ev := (show v_X2_plusMonths sp re a1 a2 a3 = ((v_X2_actOnCard (v_X1_put sp 12 ((sp a1.toNatClampNeg).1.toInt64) (((sp a1.toNatClampNeg).2.1.toInt64) + (v_X2_howMany a2 a3)) ((sp a1.toNatClampNeg).2.2.toInt64)).2 re a1.toNatClampNeg (v_X1_put sp 12 ((sp a1.toNatClampNeg).1.toInt64) (((sp a1.toNatClampNeg).2.1.toInt64) + (v_X2_howMany a2 a3)) ((sp a1.toNatClampNeg).2.2.toInt64)).1).1, (v_X2_actOnCard (v_X1_put sp 12 ((sp a1.toNatClampNeg).1.toInt64) (((sp a1.toNatClampNeg).2.1.toInt64) + (v_X2_howMany a2 a3)) ((sp a1.toNatClampNeg).2.2.toInt64)).2 re a1.toNatClampNeg (v_X1_put sp 12 ((sp a1.toNatClampNeg).1.toInt64) (((sp a1.toNatClampNeg).2.1.toInt64) + (v_X2_howMany a2 a3)) ((sp a1.toNatClampNeg).2.2.toInt64)).1).2.1, (v_X2_actOnCard (v_X1_put sp 12 ((sp a1.toNatClampNeg).1.toInt64) (((sp a1.toNatClampNeg).2.1.toInt64) + (v_X2_howMany a2 a3)) ((sp a1.toNatClampNeg).2.2.toInt64)).2 re a1.toNatClampNeg (v_X1_put sp 12 ((sp a1.toNatClampNeg).1.toInt64) (((sp a1.toNatClampNeg).2.1.toInt64) + (v_X2_howMany a2 a3)) ((sp a1.toNatClampNeg).2.2.toInt64)).1).2.2) from rfl)
  exact vx_ret (rt_i X hr (ad, (cf g ad x (v_X2_actOnCard (v_X1_put sp 12 ((sp a1.toNatClampNeg).1.toInt64) (((sp a1.toNatClampNeg).2.1.toInt64) + (v_X2_howMany a2 a3)) ((sp a1.toNatClampNeg).2.2.toInt64)).2 re a1.toNatClampNeg (v_X1_put sp 12 ((sp a1.toNatClampNeg).1.toInt64) (((sp a1.toNatClampNeg).2.1.toInt64) + (v_X2_howMany a2 a3)) ((sp a1.toNatClampNeg).2.2.toInt64)).1).2.1 dy la kn (v_X2_actOnCard (v_X1_put sp 12 ((sp a1.toNatClampNeg).1.toInt64) (((sp a1.toNatClampNeg).2.1.toInt64) + (v_X2_howMany a2 a3)) ((sp a1.toNatClampNeg).2.2.toInt64)).2 re a1.toNatClampNeg (v_X1_put sp 12 ((sp a1.toNatClampNeg).1.toInt64) (((sp a1.toNatClampNeg).2.1.toInt64) + (v_X2_howMany a2 a3)) ((sp a1.toNatClampNeg).2.2.toInt64)).1).2.2)) B (PO_of B) ⟨rfl, by unfold x_X2_plusMonths; rw [xo_none x1], by rw [ev], by rw [ev]⟩ rfl (Nat.le_of_ble_eq_true rfl) (Nat.le_of_ble_eq_true rfl) dX2_plusMonths_48)
def v_X2_plusDays (sp : Nat → TR) (re : Int32) (a1 : Int32) (a2 : Int32) (a3 : Int32) : Int32 × (Nat → TR) × Int32 := ((v_X2_actOnCard (v_X1_put sp 12 ((sp a1.toNatClampNeg).1.toInt64) ((sp a1.toNatClampNeg).2.1.toInt64) (((sp a1.toNatClampNeg).2.2.toInt64) + (v_X2_howMany a2 a3))).2 re a1.toNatClampNeg (v_X1_put sp 12 ((sp a1.toNatClampNeg).1.toInt64) ((sp a1.toNatClampNeg).2.1.toInt64) (((sp a1.toNatClampNeg).2.2.toInt64) + (v_X2_howMany a2 a3))).1).1, (v_X2_actOnCard (v_X1_put sp 12 ((sp a1.toNatClampNeg).1.toInt64) ((sp a1.toNatClampNeg).2.1.toInt64) (((sp a1.toNatClampNeg).2.2.toInt64) + (v_X2_howMany a2 a3))).2 re a1.toNatClampNeg (v_X1_put sp 12 ((sp a1.toNatClampNeg).1.toInt64) ((sp a1.toNatClampNeg).2.1.toInt64) (((sp a1.toNatClampNeg).2.2.toInt64) + (v_X2_howMany a2 a3))).1).2.1, (v_X2_actOnCard (v_X1_put sp 12 ((sp a1.toNatClampNeg).1.toInt64) ((sp a1.toNatClampNeg).2.1.toInt64) (((sp a1.toNatClampNeg).2.2.toInt64) + (v_X2_howMany a2 a3))).2 re a1.toNatClampNeg (v_X1_put sp 12 ((sp a1.toNatClampNeg).1.toInt64) ((sp a1.toNatClampNeg).2.1.toInt64) (((sp a1.toNatClampNeg).2.2.toInt64) + (v_X2_howMany a2 a3))).1).2.2)
def x_X2_plusDays (a1 : Int32) : Option String := xo (x_X2_cardAt a1) none
set_option maxHeartbeats 4000000 in
set_option maxRecDepth 100000 in
theorem c_X2_plusDays (l : Launch) (hfl : l.stackTraces = false) (g : GG) (N : Nat) (ad : Nat → Nat) (x : Nat → va_E) (sp dy : Nat → TR) (la kn re : Int32) (hN : 23 ≤ N) (a1 : Int32) (a2 : Int32) (a3 : Int32) : XI l yX2_plusDays cX2_plusDays 7 (some .int) (rm 2 1 6) g [.ref (ad 0), .int a1, .int a2, .int a3] N ad (cf g ad x sp dy la kn re) N (fun E => x_X2_plusDays a1 = some E) (fun r ad' f' => ad = ad' ∧ x_X2_plusDays a1 = none ∧ (v_X2_plusDays sp re a1 a2 a3).1 = r ∧ (cf g ad x (v_X2_plusDays sp re a1 a2 a3).2.1 dy la kn (v_X2_plusDays sp re a1 a2 a3).2.2) = f') := by
  intro sz
  refine mx_start (by decide) (Nat.le_of_ble_eq_true rfl) ?_
  intro p e s m args below meth c hsz X hr hex hA hK hT H locs B ls hl
  obtain ⟨hx, hb, hml, hown, hts, hlocks⟩ := id X
  have hl : lv_has ls 7 [(0, .ref (ad 0)), (1, .int a1), (2, .int a2), (3, .int a3)] := hl
  refine lv_aload_n hx hb dX2_plusDays_0 rfl (lv_at hl 0 rfl) ?_
  refine lv_iload_n hx hb dX2_plusDays_1 rfl (lv_at hl 1 rfl) ?_
  refine k_xr (k := 1) (n := 6) hex X hsz hA B (ux_V (rest := []) X (c_X2_cardAt l hfl g N ad x sp dy la kn re hN a1 H.size) mw_X2_cardAt md_X2_cardAt rfl lk_X2_37 ⟨Nat.le_of_ble_eq_true rfl, Nat.le_of_ble_eq_true rfl⟩ hA hK hT B (pl_c hN 0 (by decide)) cf_0 rfl rfl hl.1 rfl (Nat.le_of_ble_eq_true rfl) dX2_plusDays_2 ⟨Nat.le_of_ble_eq_true rfl, Nat.le_of_ble_eq_true rfl⟩) (Nat.le_of_ble_eq_true rfl) (Nat.le_of_ble_eq_true rfl) (Nat.le_of_ble_eq_true rfl) (Nat.le_of_ble_eq_true rfl) (fun E hE => by unfold x_X2_plusDays; rw [xo_some hE]) (fun r ad' f' H locs hw B => ?_)
  obtain ⟨rfl, x1, rfl, rfl⟩ := hw
  refine lv_astore (lv' := [(4, .ref (ad (4 + a1.toNatClampNeg))), (0, .ref (ad 0)), (1, .int a1), (2, .int a2), (3, .int a3)]) hx hb dX2_plusDays_5 hl (by decide) rfl (fun ls hl => ?_)
  refine lv_iload_n hx hb dX2_plusDays_7 rfl (lv_at hl 3 rfl) ?_
  refine lv_iload_n hx hb dX2_plusDays_8 rfl (lv_at hl 4 rfl) ?_
  refine k_l (k := 1) (n := 6) hA B (u_S (rest := []) X (c_X2_howMany l g N ad x sp dy la kn re hN a2 a3 H.size) mw_X2_howMany md_X2_howMany rfl lk_X2_69 ⟨Nat.le_of_ble_eq_true rfl, Nat.le_of_ble_eq_true rfl⟩ hA hK hT B hl.1 rfl (Nat.le_of_ble_eq_true rfl) dX2_plusDays_9 ⟨Nat.le_of_ble_eq_true rfl, Nat.le_of_ble_eq_true rfl⟩) (Nat.le_of_ble_eq_true rfl) (Nat.le_of_ble_eq_true rfl) (fun r ad' f' H locs hw B => ?_)
  obtain ⟨rfl, rfl, rfl⟩ := hw
  refine lv_lstore (lv' := [(5, .long (v_X2_howMany a2 a3)), (4, .ref (ad (4 + a1.toNatClampNeg))), (0, .ref (ad 0)), (1, .int a1), (2, .int a2), (3, .int a3)]) hx hb dX2_plusDays_12 hl (by decide) rfl (fun ls hl => ?_)
  refine lv_aload_n hx hb dX2_plusDays_14 rfl (lv_at hl 2 rfl) ?_
  refine lv_aload hx hb dX2_plusDays_15 (lv_at hl 1 rfl) ?_
  refine lv_aload_n hx hb dX2_plusDays_17 rfl (lv_at hl 2 rfl) ?_
  refine g_get (q := 0) (k := 6) X hK B rfl in_X2 (pl_c hN 0 (by decide)) cf_0 (by decide) lk_X2_25 rfl rfl dX2_plusDays_18 ?_
  refine lv_aload hx hb dX2_plusDays_21 (lv_at hl 1 rfl) ?_
  refine g_getN (q := (4 + a1.toNatClampNeg)) (k := 0) X hK hT B rfl in_X1 (pl_sp hN (Nat.lt_of_lt_of_le (xl_X2_cardAt x1) (by decide))) (cf_sp (Nat.lt_of_lt_of_le (xl_X2_cardAt x1) (by decide))) (by decide) lk_X2_55 rfl rfl dX2_plusDays_23 ?_
  refine lv_i2l (v := (sp a1.toNatClampNeg).1.toInt64) hx hb dX2_plusDays_26 rfl ?_
  refine lv_aload hx hb dX2_plusDays_27 (lv_at hl 1 rfl) ?_
  refine g_getN (q := (4 + a1.toNatClampNeg)) (k := 1) X hK hT B rfl in_X1 (pl_sp hN (Nat.lt_of_lt_of_le (xl_X2_cardAt x1) (by decide))) (cf_sp (Nat.lt_of_lt_of_le (xl_X2_cardAt x1) (by decide))) (by decide) lk_X2_59 rfl rfl dX2_plusDays_29 ?_
  refine lv_i2l (v := (sp a1.toNatClampNeg).2.1.toInt64) hx hb dX2_plusDays_32 rfl ?_
  refine lv_aload hx hb dX2_plusDays_33 (lv_at hl 1 rfl) ?_
  refine g_getN (q := (4 + a1.toNatClampNeg)) (k := 2) X hK hT B rfl in_X1 (pl_sp hN (Nat.lt_of_lt_of_le (xl_X2_cardAt x1) (by decide))) (cf_sp (Nat.lt_of_lt_of_le (xl_X2_cardAt x1) (by decide))) (by decide) lk_X2_62 rfl rfl dX2_plusDays_35 ?_
  refine lv_i2l (v := (sp a1.toNatClampNeg).2.2.toInt64) hx hb dX2_plusDays_38 rfl ?_
  refine lv_lload hx hb dX2_plusDays_39 (lv_at hl 0 rfl) ?_
  refine lv_ladd hx hb dX2_plusDays_41 ?_
  refine k_i (k := 1) (n := 6) hA B (u_VN (rest := [.ref (ad (4 + a1.toNatClampNeg)), .ref (ad 0)]) X (c_X1_put l g N ad x sp dy la kn re hN 12 (by decide) ((sp a1.toNatClampNeg).1.toInt64) ((sp a1.toNatClampNeg).2.1.toInt64) (((sp a1.toNatClampNeg).2.2.toInt64) + (v_X2_howMany a2 a3)) H.size) mw_X1_put md_X1_put rfl lk_X2_41 ⟨Nat.le_of_ble_eq_true rfl, Nat.le_of_ble_eq_true rfl⟩ hA hK hT B (pl_sp hN (by decide)) (cf_sp (by decide)) rfl rfl hl.1 rfl (Nat.le_of_ble_eq_true rfl) dX2_plusDays_42 ⟨Nat.le_of_ble_eq_true rfl, Nat.le_of_ble_eq_true rfl⟩) (Nat.le_of_ble_eq_true rfl) (Nat.le_of_ble_eq_true rfl) (fun r ad' f' H locs hw B => ?_)
  obtain ⟨rfl, rfl, rfl⟩ := hw
  refine k_i (k := 1) (n := 6) hA B (u_V (rest := []) X (c_X2_actOnCard l g N ad x (v_X1_put sp 12 ((sp a1.toNatClampNeg).1.toInt64) ((sp a1.toNatClampNeg).2.1.toInt64) (((sp a1.toNatClampNeg).2.2.toInt64) + (v_X2_howMany a2 a3))).2 dy la kn re hN a1.toNatClampNeg (Nat.lt_of_lt_of_le (xl_X2_cardAt x1) (by decide)) (v_X1_put sp 12 ((sp a1.toNatClampNeg).1.toInt64) ((sp a1.toNatClampNeg).2.1.toInt64) (((sp a1.toNatClampNeg).2.2.toInt64) + (v_X2_howMany a2 a3))).1 H.size) mw_X2_actOnCard md_X2_actOnCard rfl lk_X2_45 ⟨Nat.le_of_ble_eq_true rfl, Nat.le_of_ble_eq_true rfl⟩ hA hK hT B (pl_c hN 0 (by decide)) cf_0 rfl rfl hl.1 rfl (Nat.le_of_ble_eq_true rfl) dX2_plusDays_45 ⟨Nat.le_of_ble_eq_true rfl, Nat.le_of_ble_eq_true rfl⟩) (Nat.le_of_ble_eq_true rfl) (Nat.le_of_ble_eq_true rfl) (fun r ad' f' H locs hw B => ?_)
  obtain ⟨rfl, rfl, rfl⟩ := hw
  have ev := (show v_X2_plusDays sp re a1 a2 a3 = ((v_X2_actOnCard (v_X1_put sp 12 ((sp a1.toNatClampNeg).1.toInt64) ((sp a1.toNatClampNeg).2.1.toInt64) (((sp a1.toNatClampNeg).2.2.toInt64) + (v_X2_howMany a2 a3))).2 re a1.toNatClampNeg (v_X1_put sp 12 ((sp a1.toNatClampNeg).1.toInt64) ((sp a1.toNatClampNeg).2.1.toInt64) (((sp a1.toNatClampNeg).2.2.toInt64) + (v_X2_howMany a2 a3))).1).1, (v_X2_actOnCard (v_X1_put sp 12 ((sp a1.toNatClampNeg).1.toInt64) ((sp a1.toNatClampNeg).2.1.toInt64) (((sp a1.toNatClampNeg).2.2.toInt64) + (v_X2_howMany a2 a3))).2 re a1.toNatClampNeg (v_X1_put sp 12 ((sp a1.toNatClampNeg).1.toInt64) ((sp a1.toNatClampNeg).2.1.toInt64) (((sp a1.toNatClampNeg).2.2.toInt64) + (v_X2_howMany a2 a3))).1).2.1, (v_X2_actOnCard (v_X1_put sp 12 ((sp a1.toNatClampNeg).1.toInt64) ((sp a1.toNatClampNeg).2.1.toInt64) (((sp a1.toNatClampNeg).2.2.toInt64) + (v_X2_howMany a2 a3))).2 re a1.toNatClampNeg (v_X1_put sp 12 ((sp a1.toNatClampNeg).1.toInt64) ((sp a1.toNatClampNeg).2.1.toInt64) (((sp a1.toNatClampNeg).2.2.toInt64) + (v_X2_howMany a2 a3))).1).2.2) from rfl)
  exact vx_ret (rt_i X hr (ad, (cf g ad x (v_X2_actOnCard (v_X1_put sp 12 ((sp a1.toNatClampNeg).1.toInt64) ((sp a1.toNatClampNeg).2.1.toInt64) (((sp a1.toNatClampNeg).2.2.toInt64) + (v_X2_howMany a2 a3))).2 re a1.toNatClampNeg (v_X1_put sp 12 ((sp a1.toNatClampNeg).1.toInt64) ((sp a1.toNatClampNeg).2.1.toInt64) (((sp a1.toNatClampNeg).2.2.toInt64) + (v_X2_howMany a2 a3))).1).2.1 dy la kn (v_X2_actOnCard (v_X1_put sp 12 ((sp a1.toNatClampNeg).1.toInt64) ((sp a1.toNatClampNeg).2.1.toInt64) (((sp a1.toNatClampNeg).2.2.toInt64) + (v_X2_howMany a2 a3))).2 re a1.toNatClampNeg (v_X1_put sp 12 ((sp a1.toNatClampNeg).1.toInt64) ((sp a1.toNatClampNeg).2.1.toInt64) (((sp a1.toNatClampNeg).2.2.toInt64) + (v_X2_howMany a2 a3))).1).2.2)) B (PO_of B) ⟨rfl, by unfold x_X2_plusDays; rw [xo_none x1], by rw [ev], by rw [ev]⟩ rfl (Nat.le_of_ble_eq_true rfl) (Nat.le_of_ble_eq_true rfl) dX2_plusDays_48)
def v_X2_minusYears (sp : Nat → TR) (re : Int32) (a1 : Int32) (a2 : Int32) (a3 : Int32) : Int32 × (Nat → TR) × Int32 := ((v_X2_actOnCard (v_X1_put sp 12 (((sp a1.toNatClampNeg).1.toInt64) - (v_X2_howMany a2 a3)) ((sp a1.toNatClampNeg).2.1.toInt64) ((sp a1.toNatClampNeg).2.2.toInt64)).2 re a1.toNatClampNeg (v_X1_put sp 12 (((sp a1.toNatClampNeg).1.toInt64) - (v_X2_howMany a2 a3)) ((sp a1.toNatClampNeg).2.1.toInt64) ((sp a1.toNatClampNeg).2.2.toInt64)).1).1, (v_X2_actOnCard (v_X1_put sp 12 (((sp a1.toNatClampNeg).1.toInt64) - (v_X2_howMany a2 a3)) ((sp a1.toNatClampNeg).2.1.toInt64) ((sp a1.toNatClampNeg).2.2.toInt64)).2 re a1.toNatClampNeg (v_X1_put sp 12 (((sp a1.toNatClampNeg).1.toInt64) - (v_X2_howMany a2 a3)) ((sp a1.toNatClampNeg).2.1.toInt64) ((sp a1.toNatClampNeg).2.2.toInt64)).1).2.1, (v_X2_actOnCard (v_X1_put sp 12 (((sp a1.toNatClampNeg).1.toInt64) - (v_X2_howMany a2 a3)) ((sp a1.toNatClampNeg).2.1.toInt64) ((sp a1.toNatClampNeg).2.2.toInt64)).2 re a1.toNatClampNeg (v_X1_put sp 12 (((sp a1.toNatClampNeg).1.toInt64) - (v_X2_howMany a2 a3)) ((sp a1.toNatClampNeg).2.1.toInt64) ((sp a1.toNatClampNeg).2.2.toInt64)).1).2.2)
def x_X2_minusYears (a1 : Int32) : Option String := xo (x_X2_cardAt a1) none
set_option maxHeartbeats 4000000 in
set_option maxRecDepth 100000 in
theorem c_X2_minusYears (l : Launch) (hfl : l.stackTraces = false) (g : GG) (N : Nat) (ad : Nat → Nat) (x : Nat → va_E) (sp dy : Nat → TR) (la kn re : Int32) (hN : 23 ≤ N) (a1 : Int32) (a2 : Int32) (a3 : Int32) : XI l yX2_minusYears cX2_minusYears 7 (some .int) (rm 2 1 6) g [.ref (ad 0), .int a1, .int a2, .int a3] N ad (cf g ad x sp dy la kn re) N (fun E => x_X2_minusYears a1 = some E) (fun r ad' f' => ad = ad' ∧ x_X2_minusYears a1 = none ∧ (v_X2_minusYears sp re a1 a2 a3).1 = r ∧ (cf g ad x (v_X2_minusYears sp re a1 a2 a3).2.1 dy la kn (v_X2_minusYears sp re a1 a2 a3).2.2) = f') := by
  intro sz
  refine mx_start (by decide) (Nat.le_of_ble_eq_true rfl) ?_
  intro p e s m args below meth c hsz X hr hex hA hK hT H locs B ls hl
  obtain ⟨hx, hb, hml, hown, hts, hlocks⟩ := id X
  have hl : lv_has ls 7 [(0, .ref (ad 0)), (1, .int a1), (2, .int a2), (3, .int a3)] := hl
  refine lv_aload_n hx hb dX2_minusYears_0 rfl (lv_at hl 0 rfl) ?_
  refine lv_iload_n hx hb dX2_minusYears_1 rfl (lv_at hl 1 rfl) ?_
  refine k_xr (k := 1) (n := 6) hex X hsz hA B (ux_V (rest := []) X (c_X2_cardAt l hfl g N ad x sp dy la kn re hN a1 H.size) mw_X2_cardAt md_X2_cardAt rfl lk_X2_37 ⟨Nat.le_of_ble_eq_true rfl, Nat.le_of_ble_eq_true rfl⟩ hA hK hT B (pl_c hN 0 (by decide)) cf_0 rfl rfl hl.1 rfl (Nat.le_of_ble_eq_true rfl) dX2_minusYears_2 ⟨Nat.le_of_ble_eq_true rfl, Nat.le_of_ble_eq_true rfl⟩) (Nat.le_of_ble_eq_true rfl) (Nat.le_of_ble_eq_true rfl) (Nat.le_of_ble_eq_true rfl) (Nat.le_of_ble_eq_true rfl) (fun E hE => by unfold x_X2_minusYears; rw [xo_some hE]) (fun r ad' f' H locs hw B => ?_)
  obtain ⟨rfl, x1, rfl, rfl⟩ := hw
  refine lv_astore (lv' := [(4, .ref (ad (4 + a1.toNatClampNeg))), (0, .ref (ad 0)), (1, .int a1), (2, .int a2), (3, .int a3)]) hx hb dX2_minusYears_5 hl (by decide) rfl (fun ls hl => ?_)
  refine lv_iload_n hx hb dX2_minusYears_7 rfl (lv_at hl 3 rfl) ?_
  refine lv_iload_n hx hb dX2_minusYears_8 rfl (lv_at hl 4 rfl) ?_
  refine k_l (k := 1) (n := 6) hA B (u_S (rest := []) X (c_X2_howMany l g N ad x sp dy la kn re hN a2 a3 H.size) mw_X2_howMany md_X2_howMany rfl lk_X2_69 ⟨Nat.le_of_ble_eq_true rfl, Nat.le_of_ble_eq_true rfl⟩ hA hK hT B hl.1 rfl (Nat.le_of_ble_eq_true rfl) dX2_minusYears_9 ⟨Nat.le_of_ble_eq_true rfl, Nat.le_of_ble_eq_true rfl⟩) (Nat.le_of_ble_eq_true rfl) (Nat.le_of_ble_eq_true rfl) (fun r ad' f' H locs hw B => ?_)
  obtain ⟨rfl, rfl, rfl⟩ := hw
  refine lv_lstore (lv' := [(5, .long (v_X2_howMany a2 a3)), (4, .ref (ad (4 + a1.toNatClampNeg))), (0, .ref (ad 0)), (1, .int a1), (2, .int a2), (3, .int a3)]) hx hb dX2_minusYears_12 hl (by decide) rfl (fun ls hl => ?_)
  refine lv_aload_n hx hb dX2_minusYears_14 rfl (lv_at hl 2 rfl) ?_
  refine lv_aload hx hb dX2_minusYears_15 (lv_at hl 1 rfl) ?_
  refine lv_aload_n hx hb dX2_minusYears_17 rfl (lv_at hl 2 rfl) ?_
  refine g_get (q := 0) (k := 6) X hK B rfl in_X2 (pl_c hN 0 (by decide)) cf_0 (by decide) lk_X2_25 rfl rfl dX2_minusYears_18 ?_
  refine lv_aload hx hb dX2_minusYears_21 (lv_at hl 1 rfl) ?_
  refine g_getN (q := (4 + a1.toNatClampNeg)) (k := 0) X hK hT B rfl in_X1 (pl_sp hN (Nat.lt_of_lt_of_le (xl_X2_cardAt x1) (by decide))) (cf_sp (Nat.lt_of_lt_of_le (xl_X2_cardAt x1) (by decide))) (by decide) lk_X2_55 rfl rfl dX2_minusYears_23 ?_
  refine lv_i2l (v := (sp a1.toNatClampNeg).1.toInt64) hx hb dX2_minusYears_26 rfl ?_
  refine lv_lload hx hb dX2_minusYears_27 (lv_at hl 0 rfl) ?_
  refine lv_lsub hx hb dX2_minusYears_29 ?_
  refine lv_aload hx hb dX2_minusYears_30 (lv_at hl 1 rfl) ?_
  refine g_getN (q := (4 + a1.toNatClampNeg)) (k := 1) X hK hT B rfl in_X1 (pl_sp hN (Nat.lt_of_lt_of_le (xl_X2_cardAt x1) (by decide))) (cf_sp (Nat.lt_of_lt_of_le (xl_X2_cardAt x1) (by decide))) (by decide) lk_X2_59 rfl rfl dX2_minusYears_32 ?_
  refine lv_i2l (v := (sp a1.toNatClampNeg).2.1.toInt64) hx hb dX2_minusYears_35 rfl ?_
  refine lv_aload hx hb dX2_minusYears_36 (lv_at hl 1 rfl) ?_
  refine g_getN (q := (4 + a1.toNatClampNeg)) (k := 2) X hK hT B rfl in_X1 (pl_sp hN (Nat.lt_of_lt_of_le (xl_X2_cardAt x1) (by decide))) (cf_sp (Nat.lt_of_lt_of_le (xl_X2_cardAt x1) (by decide))) (by decide) lk_X2_62 rfl rfl dX2_minusYears_38 ?_
  refine lv_i2l (v := (sp a1.toNatClampNeg).2.2.toInt64) hx hb dX2_minusYears_41 rfl ?_
  refine k_i (k := 1) (n := 6) hA B (u_VN (rest := [.ref (ad (4 + a1.toNatClampNeg)), .ref (ad 0)]) X (c_X1_put l g N ad x sp dy la kn re hN 12 (by decide) (((sp a1.toNatClampNeg).1.toInt64) - (v_X2_howMany a2 a3)) ((sp a1.toNatClampNeg).2.1.toInt64) ((sp a1.toNatClampNeg).2.2.toInt64) H.size) mw_X1_put md_X1_put rfl lk_X2_41 ⟨Nat.le_of_ble_eq_true rfl, Nat.le_of_ble_eq_true rfl⟩ hA hK hT B (pl_sp hN (by decide)) (cf_sp (by decide)) rfl rfl hl.1 rfl (Nat.le_of_ble_eq_true rfl) dX2_minusYears_42 ⟨Nat.le_of_ble_eq_true rfl, Nat.le_of_ble_eq_true rfl⟩) (Nat.le_of_ble_eq_true rfl) (Nat.le_of_ble_eq_true rfl) (fun r ad' f' H locs hw B => ?_)
  obtain ⟨rfl, rfl, rfl⟩ := hw
  refine k_i (k := 1) (n := 6) hA B (u_V (rest := []) X (c_X2_actOnCard l g N ad x (v_X1_put sp 12 (((sp a1.toNatClampNeg).1.toInt64) - (v_X2_howMany a2 a3)) ((sp a1.toNatClampNeg).2.1.toInt64) ((sp a1.toNatClampNeg).2.2.toInt64)).2 dy la kn re hN a1.toNatClampNeg (Nat.lt_of_lt_of_le (xl_X2_cardAt x1) (by decide)) (v_X1_put sp 12 (((sp a1.toNatClampNeg).1.toInt64) - (v_X2_howMany a2 a3)) ((sp a1.toNatClampNeg).2.1.toInt64) ((sp a1.toNatClampNeg).2.2.toInt64)).1 H.size) mw_X2_actOnCard md_X2_actOnCard rfl lk_X2_45 ⟨Nat.le_of_ble_eq_true rfl, Nat.le_of_ble_eq_true rfl⟩ hA hK hT B (pl_c hN 0 (by decide)) cf_0 rfl rfl hl.1 rfl (Nat.le_of_ble_eq_true rfl) dX2_minusYears_45 ⟨Nat.le_of_ble_eq_true rfl, Nat.le_of_ble_eq_true rfl⟩) (Nat.le_of_ble_eq_true rfl) (Nat.le_of_ble_eq_true rfl) (fun r ad' f' H locs hw B => ?_)
  obtain ⟨rfl, rfl, rfl⟩ := hw
  have ev := (show v_X2_minusYears sp re a1 a2 a3 = ((v_X2_actOnCard (v_X1_put sp 12 (((sp a1.toNatClampNeg).1.toInt64) - (v_X2_howMany a2 a3)) ((sp a1.toNatClampNeg).2.1.toInt64) ((sp a1.toNatClampNeg).2.2.toInt64)).2 re a1.toNatClampNeg (v_X1_put sp 12 (((sp a1.toNatClampNeg).1.toInt64) - (v_X2_howMany a2 a3)) ((sp a1.toNatClampNeg).2.1.toInt64) ((sp a1.toNatClampNeg).2.2.toInt64)).1).1, (v_X2_actOnCard (v_X1_put sp 12 (((sp a1.toNatClampNeg).1.toInt64) - (v_X2_howMany a2 a3)) ((sp a1.toNatClampNeg).2.1.toInt64) ((sp a1.toNatClampNeg).2.2.toInt64)).2 re a1.toNatClampNeg (v_X1_put sp 12 (((sp a1.toNatClampNeg).1.toInt64) - (v_X2_howMany a2 a3)) ((sp a1.toNatClampNeg).2.1.toInt64) ((sp a1.toNatClampNeg).2.2.toInt64)).1).2.1, (v_X2_actOnCard (v_X1_put sp 12 (((sp a1.toNatClampNeg).1.toInt64) - (v_X2_howMany a2 a3)) ((sp a1.toNatClampNeg).2.1.toInt64) ((sp a1.toNatClampNeg).2.2.toInt64)).2 re a1.toNatClampNeg (v_X1_put sp 12 (((sp a1.toNatClampNeg).1.toInt64) - (v_X2_howMany a2 a3)) ((sp a1.toNatClampNeg).2.1.toInt64) ((sp a1.toNatClampNeg).2.2.toInt64)).1).2.2) from rfl)
  exact vx_ret (rt_i X hr (ad, (cf g ad x (v_X2_actOnCard (v_X1_put sp 12 (((sp a1.toNatClampNeg).1.toInt64) - (v_X2_howMany a2 a3)) ((sp a1.toNatClampNeg).2.1.toInt64) ((sp a1.toNatClampNeg).2.2.toInt64)).2 re a1.toNatClampNeg (v_X1_put sp 12 (((sp a1.toNatClampNeg).1.toInt64) - (v_X2_howMany a2 a3)) ((sp a1.toNatClampNeg).2.1.toInt64) ((sp a1.toNatClampNeg).2.2.toInt64)).1).2.1 dy la kn (v_X2_actOnCard (v_X1_put sp 12 (((sp a1.toNatClampNeg).1.toInt64) - (v_X2_howMany a2 a3)) ((sp a1.toNatClampNeg).2.1.toInt64) ((sp a1.toNatClampNeg).2.2.toInt64)).2 re a1.toNatClampNeg (v_X1_put sp 12 (((sp a1.toNatClampNeg).1.toInt64) - (v_X2_howMany a2 a3)) ((sp a1.toNatClampNeg).2.1.toInt64) ((sp a1.toNatClampNeg).2.2.toInt64)).1).2.2)) B (PO_of B) ⟨rfl, by unfold x_X2_minusYears; rw [xo_none x1], by rw [ev], by rw [ev]⟩ rfl (Nat.le_of_ble_eq_true rfl) (Nat.le_of_ble_eq_true rfl) dX2_minusYears_48)
def v_X2_minusMonths (sp : Nat → TR) (re : Int32) (a1 : Int32) (a2 : Int32) (a3 : Int32) : Int32 × (Nat → TR) × Int32 := ((v_X2_actOnCard (v_X1_put sp 12 ((sp a1.toNatClampNeg).1.toInt64) (((sp a1.toNatClampNeg).2.1.toInt64) - (v_X2_howMany a2 a3)) ((sp a1.toNatClampNeg).2.2.toInt64)).2 re a1.toNatClampNeg (v_X1_put sp 12 ((sp a1.toNatClampNeg).1.toInt64) (((sp a1.toNatClampNeg).2.1.toInt64) - (v_X2_howMany a2 a3)) ((sp a1.toNatClampNeg).2.2.toInt64)).1).1, (v_X2_actOnCard (v_X1_put sp 12 ((sp a1.toNatClampNeg).1.toInt64) (((sp a1.toNatClampNeg).2.1.toInt64) - (v_X2_howMany a2 a3)) ((sp a1.toNatClampNeg).2.2.toInt64)).2 re a1.toNatClampNeg (v_X1_put sp 12 ((sp a1.toNatClampNeg).1.toInt64) (((sp a1.toNatClampNeg).2.1.toInt64) - (v_X2_howMany a2 a3)) ((sp a1.toNatClampNeg).2.2.toInt64)).1).2.1, (v_X2_actOnCard (v_X1_put sp 12 ((sp a1.toNatClampNeg).1.toInt64) (((sp a1.toNatClampNeg).2.1.toInt64) - (v_X2_howMany a2 a3)) ((sp a1.toNatClampNeg).2.2.toInt64)).2 re a1.toNatClampNeg (v_X1_put sp 12 ((sp a1.toNatClampNeg).1.toInt64) (((sp a1.toNatClampNeg).2.1.toInt64) - (v_X2_howMany a2 a3)) ((sp a1.toNatClampNeg).2.2.toInt64)).1).2.2)
def x_X2_minusMonths (a1 : Int32) : Option String := xo (x_X2_cardAt a1) none
set_option maxHeartbeats 4000000 in
set_option maxRecDepth 100000 in
theorem c_X2_minusMonths (l : Launch) (hfl : l.stackTraces = false) (g : GG) (N : Nat) (ad : Nat → Nat) (x : Nat → va_E) (sp dy : Nat → TR) (la kn re : Int32) (hN : 23 ≤ N) (a1 : Int32) (a2 : Int32) (a3 : Int32) : XI l yX2_minusMonths cX2_minusMonths 7 (some .int) (rm 2 1 6) g [.ref (ad 0), .int a1, .int a2, .int a3] N ad (cf g ad x sp dy la kn re) N (fun E => x_X2_minusMonths a1 = some E) (fun r ad' f' => ad = ad' ∧ x_X2_minusMonths a1 = none ∧ (v_X2_minusMonths sp re a1 a2 a3).1 = r ∧ (cf g ad x (v_X2_minusMonths sp re a1 a2 a3).2.1 dy la kn (v_X2_minusMonths sp re a1 a2 a3).2.2) = f') := by
  intro sz
  refine mx_start (by decide) (Nat.le_of_ble_eq_true rfl) ?_
  intro p e s m args below meth c hsz X hr hex hA hK hT H locs B ls hl
  obtain ⟨hx, hb, hml, hown, hts, hlocks⟩ := id X
  have hl : lv_has ls 7 [(0, .ref (ad 0)), (1, .int a1), (2, .int a2), (3, .int a3)] := hl
  refine lv_aload_n hx hb dX2_minusMonths_0 rfl (lv_at hl 0 rfl) ?_
  refine lv_iload_n hx hb dX2_minusMonths_1 rfl (lv_at hl 1 rfl) ?_
  refine k_xr (k := 1) (n := 6) hex X hsz hA B (ux_V (rest := []) X (c_X2_cardAt l hfl g N ad x sp dy la kn re hN a1 H.size) mw_X2_cardAt md_X2_cardAt rfl lk_X2_37 ⟨Nat.le_of_ble_eq_true rfl, Nat.le_of_ble_eq_true rfl⟩ hA hK hT B (pl_c hN 0 (by decide)) cf_0 rfl rfl hl.1 rfl (Nat.le_of_ble_eq_true rfl) dX2_minusMonths_2 ⟨Nat.le_of_ble_eq_true rfl, Nat.le_of_ble_eq_true rfl⟩) (Nat.le_of_ble_eq_true rfl) (Nat.le_of_ble_eq_true rfl) (Nat.le_of_ble_eq_true rfl) (Nat.le_of_ble_eq_true rfl) (fun E hE => by unfold x_X2_minusMonths; rw [xo_some hE]) (fun r ad' f' H locs hw B => ?_)
  obtain ⟨rfl, x1, rfl, rfl⟩ := hw
  refine lv_astore (lv' := [(4, .ref (ad (4 + a1.toNatClampNeg))), (0, .ref (ad 0)), (1, .int a1), (2, .int a2), (3, .int a3)]) hx hb dX2_minusMonths_5 hl (by decide) rfl (fun ls hl => ?_)
  refine lv_iload_n hx hb dX2_minusMonths_7 rfl (lv_at hl 3 rfl) ?_
  refine lv_iload_n hx hb dX2_minusMonths_8 rfl (lv_at hl 4 rfl) ?_
  refine k_l (k := 1) (n := 6) hA B (u_S (rest := []) X (c_X2_howMany l g N ad x sp dy la kn re hN a2 a3 H.size) mw_X2_howMany md_X2_howMany rfl lk_X2_69 ⟨Nat.le_of_ble_eq_true rfl, Nat.le_of_ble_eq_true rfl⟩ hA hK hT B hl.1 rfl (Nat.le_of_ble_eq_true rfl) dX2_minusMonths_9 ⟨Nat.le_of_ble_eq_true rfl, Nat.le_of_ble_eq_true rfl⟩) (Nat.le_of_ble_eq_true rfl) (Nat.le_of_ble_eq_true rfl) (fun r ad' f' H locs hw B => ?_)
  obtain ⟨rfl, rfl, rfl⟩ := hw
  refine lv_lstore (lv' := [(5, .long (v_X2_howMany a2 a3)), (4, .ref (ad (4 + a1.toNatClampNeg))), (0, .ref (ad 0)), (1, .int a1), (2, .int a2), (3, .int a3)]) hx hb dX2_minusMonths_12 hl (by decide) rfl (fun ls hl => ?_)
  refine lv_aload_n hx hb dX2_minusMonths_14 rfl (lv_at hl 2 rfl) ?_
  refine lv_aload hx hb dX2_minusMonths_15 (lv_at hl 1 rfl) ?_
  refine lv_aload_n hx hb dX2_minusMonths_17 rfl (lv_at hl 2 rfl) ?_
  refine g_get (q := 0) (k := 6) X hK B rfl in_X2 (pl_c hN 0 (by decide)) cf_0 (by decide) lk_X2_25 rfl rfl dX2_minusMonths_18 ?_
  refine lv_aload hx hb dX2_minusMonths_21 (lv_at hl 1 rfl) ?_
  refine g_getN (q := (4 + a1.toNatClampNeg)) (k := 0) X hK hT B rfl in_X1 (pl_sp hN (Nat.lt_of_lt_of_le (xl_X2_cardAt x1) (by decide))) (cf_sp (Nat.lt_of_lt_of_le (xl_X2_cardAt x1) (by decide))) (by decide) lk_X2_55 rfl rfl dX2_minusMonths_23 ?_
  refine lv_i2l (v := (sp a1.toNatClampNeg).1.toInt64) hx hb dX2_minusMonths_26 rfl ?_
  refine lv_aload hx hb dX2_minusMonths_27 (lv_at hl 1 rfl) ?_
  refine g_getN (q := (4 + a1.toNatClampNeg)) (k := 1) X hK hT B rfl in_X1 (pl_sp hN (Nat.lt_of_lt_of_le (xl_X2_cardAt x1) (by decide))) (cf_sp (Nat.lt_of_lt_of_le (xl_X2_cardAt x1) (by decide))) (by decide) lk_X2_59 rfl rfl dX2_minusMonths_29 ?_
  refine lv_i2l (v := (sp a1.toNatClampNeg).2.1.toInt64) hx hb dX2_minusMonths_32 rfl ?_
  refine lv_lload hx hb dX2_minusMonths_33 (lv_at hl 0 rfl) ?_
  refine lv_lsub hx hb dX2_minusMonths_35 ?_
  refine lv_aload hx hb dX2_minusMonths_36 (lv_at hl 1 rfl) ?_
  refine g_getN (q := (4 + a1.toNatClampNeg)) (k := 2) X hK hT B rfl in_X1 (pl_sp hN (Nat.lt_of_lt_of_le (xl_X2_cardAt x1) (by decide))) (cf_sp (Nat.lt_of_lt_of_le (xl_X2_cardAt x1) (by decide))) (by decide) lk_X2_62 rfl rfl dX2_minusMonths_38 ?_
  refine lv_i2l (v := (sp a1.toNatClampNeg).2.2.toInt64) hx hb dX2_minusMonths_41 rfl ?_
  refine k_i (k := 1) (n := 6) hA B (u_VN (rest := [.ref (ad (4 + a1.toNatClampNeg)), .ref (ad 0)]) X (c_X1_put l g N ad x sp dy la kn re hN 12 (by decide) ((sp a1.toNatClampNeg).1.toInt64) (((sp a1.toNatClampNeg).2.1.toInt64) - (v_X2_howMany a2 a3)) ((sp a1.toNatClampNeg).2.2.toInt64) H.size) mw_X1_put md_X1_put rfl lk_X2_41 ⟨Nat.le_of_ble_eq_true rfl, Nat.le_of_ble_eq_true rfl⟩ hA hK hT B (pl_sp hN (by decide)) (cf_sp (by decide)) rfl rfl hl.1 rfl (Nat.le_of_ble_eq_true rfl) dX2_minusMonths_42 ⟨Nat.le_of_ble_eq_true rfl, Nat.le_of_ble_eq_true rfl⟩) (Nat.le_of_ble_eq_true rfl) (Nat.le_of_ble_eq_true rfl) (fun r ad' f' H locs hw B => ?_)
  obtain ⟨rfl, rfl, rfl⟩ := hw
  refine k_i (k := 1) (n := 6) hA B (u_V (rest := []) X (c_X2_actOnCard l g N ad x (v_X1_put sp 12 ((sp a1.toNatClampNeg).1.toInt64) (((sp a1.toNatClampNeg).2.1.toInt64) - (v_X2_howMany a2 a3)) ((sp a1.toNatClampNeg).2.2.toInt64)).2 dy la kn re hN a1.toNatClampNeg (Nat.lt_of_lt_of_le (xl_X2_cardAt x1) (by decide)) (v_X1_put sp 12 ((sp a1.toNatClampNeg).1.toInt64) (((sp a1.toNatClampNeg).2.1.toInt64) - (v_X2_howMany a2 a3)) ((sp a1.toNatClampNeg).2.2.toInt64)).1 H.size) mw_X2_actOnCard md_X2_actOnCard rfl lk_X2_45 ⟨Nat.le_of_ble_eq_true rfl, Nat.le_of_ble_eq_true rfl⟩ hA hK hT B (pl_c hN 0 (by decide)) cf_0 rfl rfl hl.1 rfl (Nat.le_of_ble_eq_true rfl) dX2_minusMonths_45 ⟨Nat.le_of_ble_eq_true rfl, Nat.le_of_ble_eq_true rfl⟩) (Nat.le_of_ble_eq_true rfl) (Nat.le_of_ble_eq_true rfl) (fun r ad' f' H locs hw B => ?_)
  obtain ⟨rfl, rfl, rfl⟩ := hw
  have ev := (show v_X2_minusMonths sp re a1 a2 a3 = ((v_X2_actOnCard (v_X1_put sp 12 ((sp a1.toNatClampNeg).1.toInt64) (((sp a1.toNatClampNeg).2.1.toInt64) - (v_X2_howMany a2 a3)) ((sp a1.toNatClampNeg).2.2.toInt64)).2 re a1.toNatClampNeg (v_X1_put sp 12 ((sp a1.toNatClampNeg).1.toInt64) (((sp a1.toNatClampNeg).2.1.toInt64) - (v_X2_howMany a2 a3)) ((sp a1.toNatClampNeg).2.2.toInt64)).1).1, (v_X2_actOnCard (v_X1_put sp 12 ((sp a1.toNatClampNeg).1.toInt64) (((sp a1.toNatClampNeg).2.1.toInt64) - (v_X2_howMany a2 a3)) ((sp a1.toNatClampNeg).2.2.toInt64)).2 re a1.toNatClampNeg (v_X1_put sp 12 ((sp a1.toNatClampNeg).1.toInt64) (((sp a1.toNatClampNeg).2.1.toInt64) - (v_X2_howMany a2 a3)) ((sp a1.toNatClampNeg).2.2.toInt64)).1).2.1, (v_X2_actOnCard (v_X1_put sp 12 ((sp a1.toNatClampNeg).1.toInt64) (((sp a1.toNatClampNeg).2.1.toInt64) - (v_X2_howMany a2 a3)) ((sp a1.toNatClampNeg).2.2.toInt64)).2 re a1.toNatClampNeg (v_X1_put sp 12 ((sp a1.toNatClampNeg).1.toInt64) (((sp a1.toNatClampNeg).2.1.toInt64) - (v_X2_howMany a2 a3)) ((sp a1.toNatClampNeg).2.2.toInt64)).1).2.2) from rfl)
  exact vx_ret (rt_i X hr (ad, (cf g ad x (v_X2_actOnCard (v_X1_put sp 12 ((sp a1.toNatClampNeg).1.toInt64) (((sp a1.toNatClampNeg).2.1.toInt64) - (v_X2_howMany a2 a3)) ((sp a1.toNatClampNeg).2.2.toInt64)).2 re a1.toNatClampNeg (v_X1_put sp 12 ((sp a1.toNatClampNeg).1.toInt64) (((sp a1.toNatClampNeg).2.1.toInt64) - (v_X2_howMany a2 a3)) ((sp a1.toNatClampNeg).2.2.toInt64)).1).2.1 dy la kn (v_X2_actOnCard (v_X1_put sp 12 ((sp a1.toNatClampNeg).1.toInt64) (((sp a1.toNatClampNeg).2.1.toInt64) - (v_X2_howMany a2 a3)) ((sp a1.toNatClampNeg).2.2.toInt64)).2 re a1.toNatClampNeg (v_X1_put sp 12 ((sp a1.toNatClampNeg).1.toInt64) (((sp a1.toNatClampNeg).2.1.toInt64) - (v_X2_howMany a2 a3)) ((sp a1.toNatClampNeg).2.2.toInt64)).1).2.2)) B (PO_of B) ⟨rfl, by unfold x_X2_minusMonths; rw [xo_none x1], by rw [ev], by rw [ev]⟩ rfl (Nat.le_of_ble_eq_true rfl) (Nat.le_of_ble_eq_true rfl) dX2_minusMonths_48)
def v_X2_minusDays (sp : Nat → TR) (re : Int32) (a1 : Int32) (a2 : Int32) (a3 : Int32) : Int32 × (Nat → TR) × Int32 := ((v_X2_actOnCard (v_X1_put sp 12 ((sp a1.toNatClampNeg).1.toInt64) ((sp a1.toNatClampNeg).2.1.toInt64) (((sp a1.toNatClampNeg).2.2.toInt64) - (v_X2_howMany a2 a3))).2 re a1.toNatClampNeg (v_X1_put sp 12 ((sp a1.toNatClampNeg).1.toInt64) ((sp a1.toNatClampNeg).2.1.toInt64) (((sp a1.toNatClampNeg).2.2.toInt64) - (v_X2_howMany a2 a3))).1).1, (v_X2_actOnCard (v_X1_put sp 12 ((sp a1.toNatClampNeg).1.toInt64) ((sp a1.toNatClampNeg).2.1.toInt64) (((sp a1.toNatClampNeg).2.2.toInt64) - (v_X2_howMany a2 a3))).2 re a1.toNatClampNeg (v_X1_put sp 12 ((sp a1.toNatClampNeg).1.toInt64) ((sp a1.toNatClampNeg).2.1.toInt64) (((sp a1.toNatClampNeg).2.2.toInt64) - (v_X2_howMany a2 a3))).1).2.1, (v_X2_actOnCard (v_X1_put sp 12 ((sp a1.toNatClampNeg).1.toInt64) ((sp a1.toNatClampNeg).2.1.toInt64) (((sp a1.toNatClampNeg).2.2.toInt64) - (v_X2_howMany a2 a3))).2 re a1.toNatClampNeg (v_X1_put sp 12 ((sp a1.toNatClampNeg).1.toInt64) ((sp a1.toNatClampNeg).2.1.toInt64) (((sp a1.toNatClampNeg).2.2.toInt64) - (v_X2_howMany a2 a3))).1).2.2)
def x_X2_minusDays (a1 : Int32) : Option String := xo (x_X2_cardAt a1) none
set_option maxHeartbeats 4000000 in
set_option maxRecDepth 100000 in
theorem c_X2_minusDays (l : Launch) (hfl : l.stackTraces = false) (g : GG) (N : Nat) (ad : Nat → Nat) (x : Nat → va_E) (sp dy : Nat → TR) (la kn re : Int32) (hN : 23 ≤ N) (a1 : Int32) (a2 : Int32) (a3 : Int32) : XI l yX2_minusDays cX2_minusDays 7 (some .int) (rm 2 1 6) g [.ref (ad 0), .int a1, .int a2, .int a3] N ad (cf g ad x sp dy la kn re) N (fun E => x_X2_minusDays a1 = some E) (fun r ad' f' => ad = ad' ∧ x_X2_minusDays a1 = none ∧ (v_X2_minusDays sp re a1 a2 a3).1 = r ∧ (cf g ad x (v_X2_minusDays sp re a1 a2 a3).2.1 dy la kn (v_X2_minusDays sp re a1 a2 a3).2.2) = f') := by
  intro sz
  refine mx_start (by decide) (Nat.le_of_ble_eq_true rfl) ?_
  intro p e s m args below meth c hsz X hr hex hA hK hT H locs B ls hl
  obtain ⟨hx, hb, hml, hown, hts, hlocks⟩ := id X
  have hl : lv_has ls 7 [(0, .ref (ad 0)), (1, .int a1), (2, .int a2), (3, .int a3)] := hl
  refine lv_aload_n hx hb dX2_minusDays_0 rfl (lv_at hl 0 rfl) ?_
  refine lv_iload_n hx hb dX2_minusDays_1 rfl (lv_at hl 1 rfl) ?_
  refine k_xr (k := 1) (n := 6) hex X hsz hA B (ux_V (rest := []) X (c_X2_cardAt l hfl g N ad x sp dy la kn re hN a1 H.size) mw_X2_cardAt md_X2_cardAt rfl lk_X2_37 ⟨Nat.le_of_ble_eq_true rfl, Nat.le_of_ble_eq_true rfl⟩ hA hK hT B (pl_c hN 0 (by decide)) cf_0 rfl rfl hl.1 rfl (Nat.le_of_ble_eq_true rfl) dX2_minusDays_2 ⟨Nat.le_of_ble_eq_true rfl, Nat.le_of_ble_eq_true rfl⟩) (Nat.le_of_ble_eq_true rfl) (Nat.le_of_ble_eq_true rfl) (Nat.le_of_ble_eq_true rfl) (Nat.le_of_ble_eq_true rfl) (fun E hE => by unfold x_X2_minusDays; rw [xo_some hE]) (fun r ad' f' H locs hw B => ?_)
  obtain ⟨rfl, x1, rfl, rfl⟩ := hw
  refine lv_astore (lv' := [(4, .ref (ad (4 + a1.toNatClampNeg))), (0, .ref (ad 0)), (1, .int a1), (2, .int a2), (3, .int a3)]) hx hb dX2_minusDays_5 hl (by decide) rfl (fun ls hl => ?_)
  refine lv_iload_n hx hb dX2_minusDays_7 rfl (lv_at hl 3 rfl) ?_
  refine lv_iload_n hx hb dX2_minusDays_8 rfl (lv_at hl 4 rfl) ?_
  refine k_l (k := 1) (n := 6) hA B (u_S (rest := []) X (c_X2_howMany l g N ad x sp dy la kn re hN a2 a3 H.size) mw_X2_howMany md_X2_howMany rfl lk_X2_69 ⟨Nat.le_of_ble_eq_true rfl, Nat.le_of_ble_eq_true rfl⟩ hA hK hT B hl.1 rfl (Nat.le_of_ble_eq_true rfl) dX2_minusDays_9 ⟨Nat.le_of_ble_eq_true rfl, Nat.le_of_ble_eq_true rfl⟩) (Nat.le_of_ble_eq_true rfl) (Nat.le_of_ble_eq_true rfl) (fun r ad' f' H locs hw B => ?_)
  obtain ⟨rfl, rfl, rfl⟩ := hw
  refine lv_lstore (lv' := [(5, .long (v_X2_howMany a2 a3)), (4, .ref (ad (4 + a1.toNatClampNeg))), (0, .ref (ad 0)), (1, .int a1), (2, .int a2), (3, .int a3)]) hx hb dX2_minusDays_12 hl (by decide) rfl (fun ls hl => ?_)
  refine lv_aload_n hx hb dX2_minusDays_14 rfl (lv_at hl 2 rfl) ?_
  refine lv_aload hx hb dX2_minusDays_15 (lv_at hl 1 rfl) ?_
  refine lv_aload_n hx hb dX2_minusDays_17 rfl (lv_at hl 2 rfl) ?_
  refine g_get (q := 0) (k := 6) X hK B rfl in_X2 (pl_c hN 0 (by decide)) cf_0 (by decide) lk_X2_25 rfl rfl dX2_minusDays_18 ?_
  refine lv_aload hx hb dX2_minusDays_21 (lv_at hl 1 rfl) ?_
  refine g_getN (q := (4 + a1.toNatClampNeg)) (k := 0) X hK hT B rfl in_X1 (pl_sp hN (Nat.lt_of_lt_of_le (xl_X2_cardAt x1) (by decide))) (cf_sp (Nat.lt_of_lt_of_le (xl_X2_cardAt x1) (by decide))) (by decide) lk_X2_55 rfl rfl dX2_minusDays_23 ?_
  refine lv_i2l (v := (sp a1.toNatClampNeg).1.toInt64) hx hb dX2_minusDays_26 rfl ?_
  refine lv_aload hx hb dX2_minusDays_27 (lv_at hl 1 rfl) ?_
  refine g_getN (q := (4 + a1.toNatClampNeg)) (k := 1) X hK hT B rfl in_X1 (pl_sp hN (Nat.lt_of_lt_of_le (xl_X2_cardAt x1) (by decide))) (cf_sp (Nat.lt_of_lt_of_le (xl_X2_cardAt x1) (by decide))) (by decide) lk_X2_59 rfl rfl dX2_minusDays_29 ?_
  refine lv_i2l (v := (sp a1.toNatClampNeg).2.1.toInt64) hx hb dX2_minusDays_32 rfl ?_
  refine lv_aload hx hb dX2_minusDays_33 (lv_at hl 1 rfl) ?_
  refine g_getN (q := (4 + a1.toNatClampNeg)) (k := 2) X hK hT B rfl in_X1 (pl_sp hN (Nat.lt_of_lt_of_le (xl_X2_cardAt x1) (by decide))) (cf_sp (Nat.lt_of_lt_of_le (xl_X2_cardAt x1) (by decide))) (by decide) lk_X2_62 rfl rfl dX2_minusDays_35 ?_
  refine lv_i2l (v := (sp a1.toNatClampNeg).2.2.toInt64) hx hb dX2_minusDays_38 rfl ?_
  refine lv_lload hx hb dX2_minusDays_39 (lv_at hl 0 rfl) ?_
  refine lv_lsub hx hb dX2_minusDays_41 ?_
  refine k_i (k := 1) (n := 6) hA B (u_VN (rest := [.ref (ad (4 + a1.toNatClampNeg)), .ref (ad 0)]) X (c_X1_put l g N ad x sp dy la kn re hN 12 (by decide) ((sp a1.toNatClampNeg).1.toInt64) ((sp a1.toNatClampNeg).2.1.toInt64) (((sp a1.toNatClampNeg).2.2.toInt64) - (v_X2_howMany a2 a3)) H.size) mw_X1_put md_X1_put rfl lk_X2_41 ⟨Nat.le_of_ble_eq_true rfl, Nat.le_of_ble_eq_true rfl⟩ hA hK hT B (pl_sp hN (by decide)) (cf_sp (by decide)) rfl rfl hl.1 rfl (Nat.le_of_ble_eq_true rfl) dX2_minusDays_42 ⟨Nat.le_of_ble_eq_true rfl, Nat.le_of_ble_eq_true rfl⟩) (Nat.le_of_ble_eq_true rfl) (Nat.le_of_ble_eq_true rfl) (fun r ad' f' H locs hw B => ?_)
  obtain ⟨rfl, rfl, rfl⟩ := hw
  refine k_i (k := 1) (n := 6) hA B (u_V (rest := []) X (c_X2_actOnCard l g N ad x (v_X1_put sp 12 ((sp a1.toNatClampNeg).1.toInt64) ((sp a1.toNatClampNeg).2.1.toInt64) (((sp a1.toNatClampNeg).2.2.toInt64) - (v_X2_howMany a2 a3))).2 dy la kn re hN a1.toNatClampNeg (Nat.lt_of_lt_of_le (xl_X2_cardAt x1) (by decide)) (v_X1_put sp 12 ((sp a1.toNatClampNeg).1.toInt64) ((sp a1.toNatClampNeg).2.1.toInt64) (((sp a1.toNatClampNeg).2.2.toInt64) - (v_X2_howMany a2 a3))).1 H.size) mw_X2_actOnCard md_X2_actOnCard rfl lk_X2_45 ⟨Nat.le_of_ble_eq_true rfl, Nat.le_of_ble_eq_true rfl⟩ hA hK hT B (pl_c hN 0 (by decide)) cf_0 rfl rfl hl.1 rfl (Nat.le_of_ble_eq_true rfl) dX2_minusDays_45 ⟨Nat.le_of_ble_eq_true rfl, Nat.le_of_ble_eq_true rfl⟩) (Nat.le_of_ble_eq_true rfl) (Nat.le_of_ble_eq_true rfl) (fun r ad' f' H locs hw B => ?_)
  obtain ⟨rfl, rfl, rfl⟩ := hw
  have ev := (show v_X2_minusDays sp re a1 a2 a3 = ((v_X2_actOnCard (v_X1_put sp 12 ((sp a1.toNatClampNeg).1.toInt64) ((sp a1.toNatClampNeg).2.1.toInt64) (((sp a1.toNatClampNeg).2.2.toInt64) - (v_X2_howMany a2 a3))).2 re a1.toNatClampNeg (v_X1_put sp 12 ((sp a1.toNatClampNeg).1.toInt64) ((sp a1.toNatClampNeg).2.1.toInt64) (((sp a1.toNatClampNeg).2.2.toInt64) - (v_X2_howMany a2 a3))).1).1, (v_X2_actOnCard (v_X1_put sp 12 ((sp a1.toNatClampNeg).1.toInt64) ((sp a1.toNatClampNeg).2.1.toInt64) (((sp a1.toNatClampNeg).2.2.toInt64) - (v_X2_howMany a2 a3))).2 re a1.toNatClampNeg (v_X1_put sp 12 ((sp a1.toNatClampNeg).1.toInt64) ((sp a1.toNatClampNeg).2.1.toInt64) (((sp a1.toNatClampNeg).2.2.toInt64) - (v_X2_howMany a2 a3))).1).2.1, (v_X2_actOnCard (v_X1_put sp 12 ((sp a1.toNatClampNeg).1.toInt64) ((sp a1.toNatClampNeg).2.1.toInt64) (((sp a1.toNatClampNeg).2.2.toInt64) - (v_X2_howMany a2 a3))).2 re a1.toNatClampNeg (v_X1_put sp 12 ((sp a1.toNatClampNeg).1.toInt64) ((sp a1.toNatClampNeg).2.1.toInt64) (((sp a1.toNatClampNeg).2.2.toInt64) - (v_X2_howMany a2 a3))).1).2.2) from rfl)
  exact vx_ret (rt_i X hr (ad, (cf g ad x (v_X2_actOnCard (v_X1_put sp 12 ((sp a1.toNatClampNeg).1.toInt64) ((sp a1.toNatClampNeg).2.1.toInt64) (((sp a1.toNatClampNeg).2.2.toInt64) - (v_X2_howMany a2 a3))).2 re a1.toNatClampNeg (v_X1_put sp 12 ((sp a1.toNatClampNeg).1.toInt64) ((sp a1.toNatClampNeg).2.1.toInt64) (((sp a1.toNatClampNeg).2.2.toInt64) - (v_X2_howMany a2 a3))).1).2.1 dy la kn (v_X2_actOnCard (v_X1_put sp 12 ((sp a1.toNatClampNeg).1.toInt64) ((sp a1.toNatClampNeg).2.1.toInt64) (((sp a1.toNatClampNeg).2.2.toInt64) - (v_X2_howMany a2 a3))).2 re a1.toNatClampNeg (v_X1_put sp 12 ((sp a1.toNatClampNeg).1.toInt64) ((sp a1.toNatClampNeg).2.1.toInt64) (((sp a1.toNatClampNeg).2.2.toInt64) - (v_X2_howMany a2 a3))).1).2.2)) B (PO_of B) ⟨rfl, by unfold x_X2_minusDays; rw [xo_none x1], by rw [ev], by rw [ev]⟩ rfl (Nat.le_of_ble_eq_true rfl) (Nat.le_of_ble_eq_true rfl) dX2_minusDays_48)
def v_X2_plus (sp : Nat → TR) (re : Int32) (a1 : Int32) (a2 : Int32) : Int32 × (Nat → TR) × Int32 := ((v_X2_actOnCard (v_X1_putSum sp 12 a1.toNatClampNeg a2.toNatClampNeg).2 re a1.toNatClampNeg (v_X1_putSum sp 12 a1.toNatClampNeg a2.toNatClampNeg).1).1, (v_X2_actOnCard (v_X1_putSum sp 12 a1.toNatClampNeg a2.toNatClampNeg).2 re a1.toNatClampNeg (v_X1_putSum sp 12 a1.toNatClampNeg a2.toNatClampNeg).1).2.1, (v_X2_actOnCard (v_X1_putSum sp 12 a1.toNatClampNeg a2.toNatClampNeg).2 re a1.toNatClampNeg (v_X1_putSum sp 12 a1.toNatClampNeg a2.toNatClampNeg).1).2.2)
def x_X2_plus (a1 : Int32) (a2 : Int32) : Option String := xo (x_X2_cardAt a1) (xo (x_X2_cardAt a2) none)
set_option maxHeartbeats 4000000 in
set_option maxRecDepth 100000 in
theorem c_X2_plus (l : Launch) (hfl : l.stackTraces = false) (g : GG) (N : Nat) (ad : Nat → Nat) (x : Nat → va_E) (sp dy : Nat → TR) (la kn re : Int32) (hN : 23 ≤ N) (a1 : Int32) (a2 : Int32) : XI l yX2_plus cX2_plus 4 (some .int) (rm 3 2 12) g [.ref (ad 0), .int a1, .int a2] N ad (cf g ad x sp dy la kn re) N (fun E => x_X2_plus a1 a2 = some E) (fun r ad' f' => ad = ad' ∧ x_X2_plus a1 a2 = none ∧ (v_X2_plus sp re a1 a2).1 = r ∧ (cf g ad x (v_X2_plus sp re a1 a2).2.1 dy la kn (v_X2_plus sp re a1 a2).2.2) = f') := by
  intro sz
  refine mx_start (by decide) (Nat.le_of_ble_eq_true rfl) ?_
  intro p e s m args below meth c hsz X hr hex hA hK hT H locs B ls hl
  obtain ⟨hx, hb, hml, hown, hts, hlocks⟩ := id X
  have hl : lv_has ls 4 [(0, .ref (ad 0)), (1, .int a1), (2, .int a2)] := hl
  refine lv_aload_n hx hb dX2_plus_0 rfl (lv_at hl 0 rfl) ?_
  refine lv_iload_n hx hb dX2_plus_1 rfl (lv_at hl 1 rfl) ?_
  refine k_xr (k := 1) (n := 6) hex X hsz hA B (ux_V (rest := []) X (c_X2_cardAt l hfl g N ad x sp dy la kn re hN a1 H.size) mw_X2_cardAt md_X2_cardAt rfl lk_X2_37 ⟨Nat.le_of_ble_eq_true rfl, Nat.le_of_ble_eq_true rfl⟩ hA hK hT B (pl_c hN 0 (by decide)) cf_0 rfl rfl hl.1 rfl (Nat.le_of_ble_eq_true rfl) dX2_plus_2 ⟨Nat.le_of_ble_eq_true rfl, Nat.le_of_ble_eq_true rfl⟩) (Nat.le_of_ble_eq_true rfl) (Nat.le_of_ble_eq_true rfl) (Nat.le_of_ble_eq_true rfl) (Nat.le_of_ble_eq_true rfl) (fun E hE => by unfold x_X2_plus; rw [xo_some hE]) (fun r ad' f' H locs hw B => ?_)
  obtain ⟨rfl, x1, rfl, rfl⟩ := hw
  refine lv_astore_n (lv' := [(3, .ref (ad (4 + a1.toNatClampNeg))), (0, .ref (ad 0)), (1, .int a1), (2, .int a2)]) hx hb dX2_plus_5 rfl hl (by decide) rfl (fun ls hl => ?_)
  refine lv_aload_n hx hb dX2_plus_6 rfl (lv_at hl 1 rfl) ?_
  refine lv_aload_n hx hb dX2_plus_7 rfl (lv_at hl 0 rfl) ?_
  refine lv_aload_n hx hb dX2_plus_8 rfl (lv_at hl 1 rfl) ?_
  refine g_get (q := 0) (k := 6) X hK B rfl in_X2 (pl_c hN 0 (by decide)) cf_0 (by decide) lk_X2_25 rfl rfl dX2_plus_9 ?_
  refine lv_aload_n hx hb dX2_plus_12 rfl (lv_at hl 0 rfl) ?_
  refine lv_aload_n hx hb dX2_plus_13 rfl (lv_at hl 1 rfl) ?_
  refine lv_iload_n hx hb dX2_plus_14 rfl (lv_at hl 3 rfl) ?_
  refine k_xr (k := 2) (n := 12) hex X hsz hA B (ux_V (rest := [.ref (ad (4 + a1.toNatClampNeg)), .ref (ad (4 + 12)), .ref (ad (4 + a1.toNatClampNeg)), .ref (ad 0)]) X (c_X2_cardAt l hfl g N ad x sp dy la kn re hN a2 H.size) mw_X2_cardAt md_X2_cardAt rfl lk_X2_37 ⟨Nat.le_of_ble_eq_true rfl, Nat.le_of_ble_eq_true rfl⟩ hA hK hT B (pl_c hN 0 (by decide)) cf_0 rfl rfl hl.1 rfl (Nat.le_of_ble_eq_true rfl) dX2_plus_15 ⟨Nat.le_of_ble_eq_true rfl, Nat.le_of_ble_eq_true rfl⟩) (Nat.le_of_ble_eq_true rfl) (Nat.le_of_ble_eq_true rfl) (Nat.le_of_ble_eq_true rfl) (Nat.le_of_ble_eq_true rfl) (fun E hE => by unfold x_X2_plus; rw [xo_none x1, xo_some hE]) (fun r ad' f' H locs hw B => ?_)
  obtain ⟨rfl, x2, rfl, rfl⟩ := hw
  refine k_i (k := 2) (n := 12) hA B (u_VN (rest := [.ref (ad (4 + a1.toNatClampNeg)), .ref (ad 0)]) X (c_X1_putSum l g N ad x sp dy la kn re hN 12 (by decide) a1.toNatClampNeg (Nat.lt_of_lt_of_le (xl_X2_cardAt x1) (by decide)) a2.toNatClampNeg (Nat.lt_of_lt_of_le (xl_X2_cardAt x2) (by decide)) H.size) mw_X1_putSum md_X1_putSum rfl lk_X2_73 ⟨Nat.le_of_ble_eq_true rfl, Nat.le_of_ble_eq_true rfl⟩ hA hK hT B (pl_sp hN (by decide)) (cf_sp (by decide)) rfl rfl hl.1 rfl (Nat.le_of_ble_eq_true rfl) dX2_plus_18 ⟨Nat.le_of_ble_eq_true rfl, Nat.le_of_ble_eq_true rfl⟩) (Nat.le_of_ble_eq_true rfl) (Nat.le_of_ble_eq_true rfl) (fun r ad' f' H locs hw B => ?_)
  obtain ⟨rfl, rfl, rfl⟩ := hw
  refine k_i (k := 2) (n := 12) hA B (u_V (rest := []) X (c_X2_actOnCard l g N ad x (v_X1_putSum sp 12 a1.toNatClampNeg a2.toNatClampNeg).2 dy la kn re hN a1.toNatClampNeg (Nat.lt_of_lt_of_le (xl_X2_cardAt x1) (by decide)) (v_X1_putSum sp 12 a1.toNatClampNeg a2.toNatClampNeg).1 H.size) mw_X2_actOnCard md_X2_actOnCard rfl lk_X2_45 ⟨Nat.le_of_ble_eq_true rfl, Nat.le_of_ble_eq_true rfl⟩ hA hK hT B (pl_c hN 0 (by decide)) cf_0 rfl rfl hl.1 rfl (Nat.le_of_ble_eq_true rfl) dX2_plus_21 ⟨Nat.le_of_ble_eq_true rfl, Nat.le_of_ble_eq_true rfl⟩) (Nat.le_of_ble_eq_true rfl) (Nat.le_of_ble_eq_true rfl) (fun r ad' f' H locs hw B => ?_)
  obtain ⟨rfl, rfl, rfl⟩ := hw
  have ev := (show v_X2_plus sp re a1 a2 = ((v_X2_actOnCard (v_X1_putSum sp 12 a1.toNatClampNeg a2.toNatClampNeg).2 re a1.toNatClampNeg (v_X1_putSum sp 12 a1.toNatClampNeg a2.toNatClampNeg).1).1, (v_X2_actOnCard (v_X1_putSum sp 12 a1.toNatClampNeg a2.toNatClampNeg).2 re a1.toNatClampNeg (v_X1_putSum sp 12 a1.toNatClampNeg a2.toNatClampNeg).1).2.1, (v_X2_actOnCard (v_X1_putSum sp 12 a1.toNatClampNeg a2.toNatClampNeg).2 re a1.toNatClampNeg (v_X1_putSum sp 12 a1.toNatClampNeg a2.toNatClampNeg).1).2.2) from rfl)
  exact vx_ret (rt_i X hr (ad, (cf g ad x (v_X2_actOnCard (v_X1_putSum sp 12 a1.toNatClampNeg a2.toNatClampNeg).2 re a1.toNatClampNeg (v_X1_putSum sp 12 a1.toNatClampNeg a2.toNatClampNeg).1).2.1 dy la kn (v_X2_actOnCard (v_X1_putSum sp 12 a1.toNatClampNeg a2.toNatClampNeg).2 re a1.toNatClampNeg (v_X1_putSum sp 12 a1.toNatClampNeg a2.toNatClampNeg).1).2.2)) B (PO_of B) ⟨rfl, by unfold x_X2_plus; rw [xo_none x1, xo_none x2], by rw [ev], by rw [ev]⟩ rfl (Nat.le_of_ble_eq_true rfl) (Nat.le_of_ble_eq_true rfl) dX2_plus_24)
def v_X2_minus (sp : Nat → TR) (re : Int32) (a1 : Int32) (a2 : Int32) : Int32 × (Nat → TR) × Int32 := ((v_X2_actOnCard (v_X1_putDifference sp 12 a1.toNatClampNeg a2.toNatClampNeg).2 re a1.toNatClampNeg (v_X1_putDifference sp 12 a1.toNatClampNeg a2.toNatClampNeg).1).1, (v_X2_actOnCard (v_X1_putDifference sp 12 a1.toNatClampNeg a2.toNatClampNeg).2 re a1.toNatClampNeg (v_X1_putDifference sp 12 a1.toNatClampNeg a2.toNatClampNeg).1).2.1, (v_X2_actOnCard (v_X1_putDifference sp 12 a1.toNatClampNeg a2.toNatClampNeg).2 re a1.toNatClampNeg (v_X1_putDifference sp 12 a1.toNatClampNeg a2.toNatClampNeg).1).2.2)
def x_X2_minus (a1 : Int32) (a2 : Int32) : Option String := xo (x_X2_cardAt a1) (xo (x_X2_cardAt a2) none)
set_option maxHeartbeats 4000000 in
set_option maxRecDepth 100000 in
theorem c_X2_minus (l : Launch) (hfl : l.stackTraces = false) (g : GG) (N : Nat) (ad : Nat → Nat) (x : Nat → va_E) (sp dy : Nat → TR) (la kn re : Int32) (hN : 23 ≤ N) (a1 : Int32) (a2 : Int32) : XI l yX2_minus cX2_minus 4 (some .int) (rm 3 2 12) g [.ref (ad 0), .int a1, .int a2] N ad (cf g ad x sp dy la kn re) N (fun E => x_X2_minus a1 a2 = some E) (fun r ad' f' => ad = ad' ∧ x_X2_minus a1 a2 = none ∧ (v_X2_minus sp re a1 a2).1 = r ∧ (cf g ad x (v_X2_minus sp re a1 a2).2.1 dy la kn (v_X2_minus sp re a1 a2).2.2) = f') := by
  intro sz
  refine mx_start (by decide) (Nat.le_of_ble_eq_true rfl) ?_
  intro p e s m args below meth c hsz X hr hex hA hK hT H locs B ls hl
  obtain ⟨hx, hb, hml, hown, hts, hlocks⟩ := id X
  have hl : lv_has ls 4 [(0, .ref (ad 0)), (1, .int a1), (2, .int a2)] := hl
  refine lv_aload_n hx hb dX2_minus_0 rfl (lv_at hl 0 rfl) ?_
  refine lv_iload_n hx hb dX2_minus_1 rfl (lv_at hl 1 rfl) ?_
  refine k_xr (k := 1) (n := 6) hex X hsz hA B (ux_V (rest := []) X (c_X2_cardAt l hfl g N ad x sp dy la kn re hN a1 H.size) mw_X2_cardAt md_X2_cardAt rfl lk_X2_37 ⟨Nat.le_of_ble_eq_true rfl, Nat.le_of_ble_eq_true rfl⟩ hA hK hT B (pl_c hN 0 (by decide)) cf_0 rfl rfl hl.1 rfl (Nat.le_of_ble_eq_true rfl) dX2_minus_2 ⟨Nat.le_of_ble_eq_true rfl, Nat.le_of_ble_eq_true rfl⟩) (Nat.le_of_ble_eq_true rfl) (Nat.le_of_ble_eq_true rfl) (Nat.le_of_ble_eq_true rfl) (Nat.le_of_ble_eq_true rfl) (fun E hE => by unfold x_X2_minus; rw [xo_some hE]) (fun r ad' f' H locs hw B => ?_)
  obtain ⟨rfl, x1, rfl, rfl⟩ := hw
  refine lv_astore_n (lv' := [(3, .ref (ad (4 + a1.toNatClampNeg))), (0, .ref (ad 0)), (1, .int a1), (2, .int a2)]) hx hb dX2_minus_5 rfl hl (by decide) rfl (fun ls hl => ?_)
  refine lv_aload_n hx hb dX2_minus_6 rfl (lv_at hl 1 rfl) ?_
  refine lv_aload_n hx hb dX2_minus_7 rfl (lv_at hl 0 rfl) ?_
  refine lv_aload_n hx hb dX2_minus_8 rfl (lv_at hl 1 rfl) ?_
  refine g_get (q := 0) (k := 6) X hK B rfl in_X2 (pl_c hN 0 (by decide)) cf_0 (by decide) lk_X2_25 rfl rfl dX2_minus_9 ?_
  refine lv_aload_n hx hb dX2_minus_12 rfl (lv_at hl 0 rfl) ?_
  refine lv_aload_n hx hb dX2_minus_13 rfl (lv_at hl 1 rfl) ?_
  refine lv_iload_n hx hb dX2_minus_14 rfl (lv_at hl 3 rfl) ?_
  refine k_xr (k := 2) (n := 12) hex X hsz hA B (ux_V (rest := [.ref (ad (4 + a1.toNatClampNeg)), .ref (ad (4 + 12)), .ref (ad (4 + a1.toNatClampNeg)), .ref (ad 0)]) X (c_X2_cardAt l hfl g N ad x sp dy la kn re hN a2 H.size) mw_X2_cardAt md_X2_cardAt rfl lk_X2_37 ⟨Nat.le_of_ble_eq_true rfl, Nat.le_of_ble_eq_true rfl⟩ hA hK hT B (pl_c hN 0 (by decide)) cf_0 rfl rfl hl.1 rfl (Nat.le_of_ble_eq_true rfl) dX2_minus_15 ⟨Nat.le_of_ble_eq_true rfl, Nat.le_of_ble_eq_true rfl⟩) (Nat.le_of_ble_eq_true rfl) (Nat.le_of_ble_eq_true rfl) (Nat.le_of_ble_eq_true rfl) (Nat.le_of_ble_eq_true rfl) (fun E hE => by unfold x_X2_minus; rw [xo_none x1, xo_some hE]) (fun r ad' f' H locs hw B => ?_)
  obtain ⟨rfl, x2, rfl, rfl⟩ := hw
  refine k_i (k := 2) (n := 12) hA B (u_VN (rest := [.ref (ad (4 + a1.toNatClampNeg)), .ref (ad 0)]) X (c_X1_putDifference l g N ad x sp dy la kn re hN 12 (by decide) a1.toNatClampNeg (Nat.lt_of_lt_of_le (xl_X2_cardAt x1) (by decide)) a2.toNatClampNeg (Nat.lt_of_lt_of_le (xl_X2_cardAt x2) (by decide)) H.size) mw_X1_putDifference md_X1_putDifference rfl lk_X2_77 ⟨Nat.le_of_ble_eq_true rfl, Nat.le_of_ble_eq_true rfl⟩ hA hK hT B (pl_sp hN (by decide)) (cf_sp (by decide)) rfl rfl hl.1 rfl (Nat.le_of_ble_eq_true rfl) dX2_minus_18 ⟨Nat.le_of_ble_eq_true rfl, Nat.le_of_ble_eq_true rfl⟩) (Nat.le_of_ble_eq_true rfl) (Nat.le_of_ble_eq_true rfl) (fun r ad' f' H locs hw B => ?_)
  obtain ⟨rfl, rfl, rfl⟩ := hw
  refine k_i (k := 2) (n := 12) hA B (u_V (rest := []) X (c_X2_actOnCard l g N ad x (v_X1_putDifference sp 12 a1.toNatClampNeg a2.toNatClampNeg).2 dy la kn re hN a1.toNatClampNeg (Nat.lt_of_lt_of_le (xl_X2_cardAt x1) (by decide)) (v_X1_putDifference sp 12 a1.toNatClampNeg a2.toNatClampNeg).1 H.size) mw_X2_actOnCard md_X2_actOnCard rfl lk_X2_45 ⟨Nat.le_of_ble_eq_true rfl, Nat.le_of_ble_eq_true rfl⟩ hA hK hT B (pl_c hN 0 (by decide)) cf_0 rfl rfl hl.1 rfl (Nat.le_of_ble_eq_true rfl) dX2_minus_21 ⟨Nat.le_of_ble_eq_true rfl, Nat.le_of_ble_eq_true rfl⟩) (Nat.le_of_ble_eq_true rfl) (Nat.le_of_ble_eq_true rfl) (fun r ad' f' H locs hw B => ?_)
  obtain ⟨rfl, rfl, rfl⟩ := hw
  have ev := (show v_X2_minus sp re a1 a2 = ((v_X2_actOnCard (v_X1_putDifference sp 12 a1.toNatClampNeg a2.toNatClampNeg).2 re a1.toNatClampNeg (v_X1_putDifference sp 12 a1.toNatClampNeg a2.toNatClampNeg).1).1, (v_X2_actOnCard (v_X1_putDifference sp 12 a1.toNatClampNeg a2.toNatClampNeg).2 re a1.toNatClampNeg (v_X1_putDifference sp 12 a1.toNatClampNeg a2.toNatClampNeg).1).2.1, (v_X2_actOnCard (v_X1_putDifference sp 12 a1.toNatClampNeg a2.toNatClampNeg).2 re a1.toNatClampNeg (v_X1_putDifference sp 12 a1.toNatClampNeg a2.toNatClampNeg).1).2.2) from rfl)
  exact vx_ret (rt_i X hr (ad, (cf g ad x (v_X2_actOnCard (v_X1_putDifference sp 12 a1.toNatClampNeg a2.toNatClampNeg).2 re a1.toNatClampNeg (v_X1_putDifference sp 12 a1.toNatClampNeg a2.toNatClampNeg).1).2.1 dy la kn (v_X2_actOnCard (v_X1_putDifference sp 12 a1.toNatClampNeg a2.toNatClampNeg).2 re a1.toNatClampNeg (v_X1_putDifference sp 12 a1.toNatClampNeg a2.toNatClampNeg).1).2.2)) B (PO_of B) ⟨rfl, by unfold x_X2_minus; rw [xo_none x1, xo_none x2], by rw [ev], by rw [ev]⟩ rfl (Nat.le_of_ble_eq_true rfl) (Nat.le_of_ble_eq_true rfl) dX2_minus_24)
def v_X2_multipliedBy (sp : Nat → TR) (re : Int32) (a1 : Int32) (a2 : Int32) : Int32 × (Nat → TR) × Int32 := ((v_X2_actOnCard (v_X1_putTimes sp 12 a1.toNatClampNeg a2.toInt64).2 re a1.toNatClampNeg (v_X1_putTimes sp 12 a1.toNatClampNeg a2.toInt64).1).1, (v_X2_actOnCard (v_X1_putTimes sp 12 a1.toNatClampNeg a2.toInt64).2 re a1.toNatClampNeg (v_X1_putTimes sp 12 a1.toNatClampNeg a2.toInt64).1).2.1, (v_X2_actOnCard (v_X1_putTimes sp 12 a1.toNatClampNeg a2.toInt64).2 re a1.toNatClampNeg (v_X1_putTimes sp 12 a1.toNatClampNeg a2.toInt64).1).2.2)
def x_X2_multipliedBy (a1 : Int32) : Option String := xo (x_X2_cardAt a1) none
set_option maxHeartbeats 4000000 in
set_option maxRecDepth 100000 in
theorem c_X2_multipliedBy (l : Launch) (hfl : l.stackTraces = false) (g : GG) (N : Nat) (ad : Nat → Nat) (x : Nat → va_E) (sp dy : Nat → TR) (la kn re : Int32) (hN : 23 ≤ N) (a1 : Int32) (a2 : Int32) : XI l yX2_multipliedBy cX2_multipliedBy 4 (some .int) (rm 3 1 6) g [.ref (ad 0), .int a1, .int a2] N ad (cf g ad x sp dy la kn re) N (fun E => x_X2_multipliedBy a1 = some E) (fun r ad' f' => ad = ad' ∧ x_X2_multipliedBy a1 = none ∧ (v_X2_multipliedBy sp re a1 a2).1 = r ∧ (cf g ad x (v_X2_multipliedBy sp re a1 a2).2.1 dy la kn (v_X2_multipliedBy sp re a1 a2).2.2) = f') := by
  intro sz
  refine mx_start (by decide) (Nat.le_of_ble_eq_true rfl) ?_
  intro p e s m args below meth c hsz X hr hex hA hK hT H locs B ls hl
  obtain ⟨hx, hb, hml, hown, hts, hlocks⟩ := id X
  have hl : lv_has ls 4 [(0, .ref (ad 0)), (1, .int a1), (2, .int a2)] := hl
  refine lv_aload_n hx hb dX2_multipliedBy_0 rfl (lv_at hl 0 rfl) ?_
  refine lv_iload_n hx hb dX2_multipliedBy_1 rfl (lv_at hl 1 rfl) ?_
  refine k_xr (k := 1) (n := 6) hex X hsz hA B (ux_V (rest := []) X (c_X2_cardAt l hfl g N ad x sp dy la kn re hN a1 H.size) mw_X2_cardAt md_X2_cardAt rfl lk_X2_37 ⟨Nat.le_of_ble_eq_true rfl, Nat.le_of_ble_eq_true rfl⟩ hA hK hT B (pl_c hN 0 (by decide)) cf_0 rfl rfl hl.1 rfl (Nat.le_of_ble_eq_true rfl) dX2_multipliedBy_2 ⟨Nat.le_of_ble_eq_true rfl, Nat.le_of_ble_eq_true rfl⟩) (Nat.le_of_ble_eq_true rfl) (Nat.le_of_ble_eq_true rfl) (Nat.le_of_ble_eq_true rfl) (Nat.le_of_ble_eq_true rfl) (fun E hE => by unfold x_X2_multipliedBy; rw [xo_some hE]) (fun r ad' f' H locs hw B => ?_)
  obtain ⟨rfl, x1, rfl, rfl⟩ := hw
  refine lv_astore_n (lv' := [(3, .ref (ad (4 + a1.toNatClampNeg))), (0, .ref (ad 0)), (1, .int a1), (2, .int a2)]) hx hb dX2_multipliedBy_5 rfl hl (by decide) rfl (fun ls hl => ?_)
  refine lv_aload_n hx hb dX2_multipliedBy_6 rfl (lv_at hl 1 rfl) ?_
  refine lv_aload_n hx hb dX2_multipliedBy_7 rfl (lv_at hl 0 rfl) ?_
  refine lv_aload_n hx hb dX2_multipliedBy_8 rfl (lv_at hl 1 rfl) ?_
  refine g_get (q := 0) (k := 6) X hK B rfl in_X2 (pl_c hN 0 (by decide)) cf_0 (by decide) lk_X2_25 rfl rfl dX2_multipliedBy_9 ?_
  refine lv_aload_n hx hb dX2_multipliedBy_12 rfl (lv_at hl 0 rfl) ?_
  refine lv_iload_n hx hb dX2_multipliedBy_13 rfl (lv_at hl 3 rfl) ?_
  refine lv_i2l (v := a2.toInt64) hx hb dX2_multipliedBy_14 rfl ?_
  refine k_i (k := 1) (n := 6) hA B (u_VN (rest := [.ref (ad (4 + a1.toNatClampNeg)), .ref (ad 0)]) X (c_X1_putTimes l g N ad x sp dy la kn re hN 12 (by decide) a1.toNatClampNeg (Nat.lt_of_lt_of_le (xl_X2_cardAt x1) (by decide)) a2.toInt64 H.size) mw_X1_putTimes md_X1_putTimes rfl lk_X2_80 ⟨Nat.le_of_ble_eq_true rfl, Nat.le_of_ble_eq_true rfl⟩ hA hK hT B (pl_sp hN (by decide)) (cf_sp (by decide)) rfl rfl hl.1 rfl (Nat.le_of_ble_eq_true rfl) dX2_multipliedBy_15 ⟨Nat.le_of_ble_eq_true rfl, Nat.le_of_ble_eq_true rfl⟩) (Nat.le_of_ble_eq_true rfl) (Nat.le_of_ble_eq_true rfl) (fun r ad' f' H locs hw B => ?_)
  obtain ⟨rfl, rfl, rfl⟩ := hw
  refine k_i (k := 1) (n := 6) hA B (u_V (rest := []) X (c_X2_actOnCard l g N ad x (v_X1_putTimes sp 12 a1.toNatClampNeg a2.toInt64).2 dy la kn re hN a1.toNatClampNeg (Nat.lt_of_lt_of_le (xl_X2_cardAt x1) (by decide)) (v_X1_putTimes sp 12 a1.toNatClampNeg a2.toInt64).1 H.size) mw_X2_actOnCard md_X2_actOnCard rfl lk_X2_45 ⟨Nat.le_of_ble_eq_true rfl, Nat.le_of_ble_eq_true rfl⟩ hA hK hT B (pl_c hN 0 (by decide)) cf_0 rfl rfl hl.1 rfl (Nat.le_of_ble_eq_true rfl) dX2_multipliedBy_18 ⟨Nat.le_of_ble_eq_true rfl, Nat.le_of_ble_eq_true rfl⟩) (Nat.le_of_ble_eq_true rfl) (Nat.le_of_ble_eq_true rfl) (fun r ad' f' H locs hw B => ?_)
  obtain ⟨rfl, rfl, rfl⟩ := hw
  have ev := (show v_X2_multipliedBy sp re a1 a2 = ((v_X2_actOnCard (v_X1_putTimes sp 12 a1.toNatClampNeg a2.toInt64).2 re a1.toNatClampNeg (v_X1_putTimes sp 12 a1.toNatClampNeg a2.toInt64).1).1, (v_X2_actOnCard (v_X1_putTimes sp 12 a1.toNatClampNeg a2.toInt64).2 re a1.toNatClampNeg (v_X1_putTimes sp 12 a1.toNatClampNeg a2.toInt64).1).2.1, (v_X2_actOnCard (v_X1_putTimes sp 12 a1.toNatClampNeg a2.toInt64).2 re a1.toNatClampNeg (v_X1_putTimes sp 12 a1.toNatClampNeg a2.toInt64).1).2.2) from rfl)
  exact vx_ret (rt_i X hr (ad, (cf g ad x (v_X2_actOnCard (v_X1_putTimes sp 12 a1.toNatClampNeg a2.toInt64).2 re a1.toNatClampNeg (v_X1_putTimes sp 12 a1.toNatClampNeg a2.toInt64).1).2.1 dy la kn (v_X2_actOnCard (v_X1_putTimes sp 12 a1.toNatClampNeg a2.toInt64).2 re a1.toNatClampNeg (v_X1_putTimes sp 12 a1.toNatClampNeg a2.toInt64).1).2.2)) B (PO_of B) ⟨rfl, by unfold x_X2_multipliedBy; rw [xo_none x1], by rw [ev], by rw [ev]⟩ rfl (Nat.le_of_ble_eq_true rfl) (Nat.le_of_ble_eq_true rfl) dX2_multipliedBy_21)
def v_X2_negated (sp : Nat → TR) (re : Int32) (a1 : Int32) : Int32 × (Nat → TR) × Int32 := ((v_X2_actOnCard (v_X1_putOpposite sp 12 a1.toNatClampNeg).2 re a1.toNatClampNeg (v_X1_putOpposite sp 12 a1.toNatClampNeg).1).1, (v_X2_actOnCard (v_X1_putOpposite sp 12 a1.toNatClampNeg).2 re a1.toNatClampNeg (v_X1_putOpposite sp 12 a1.toNatClampNeg).1).2.1, (v_X2_actOnCard (v_X1_putOpposite sp 12 a1.toNatClampNeg).2 re a1.toNatClampNeg (v_X1_putOpposite sp 12 a1.toNatClampNeg).1).2.2)
def x_X2_negated (a1 : Int32) : Option String := xo (x_X2_cardAt a1) none
set_option maxHeartbeats 4000000 in
set_option maxRecDepth 100000 in
theorem c_X2_negated (l : Launch) (hfl : l.stackTraces = false) (g : GG) (N : Nat) (ad : Nat → Nat) (x : Nat → va_E) (sp dy : Nat → TR) (la kn re : Int32) (hN : 23 ≤ N) (a1 : Int32) : XI l yX2_negated cX2_negated 3 (some .int) (rm 4 1 6) g [.ref (ad 0), .int a1] N ad (cf g ad x sp dy la kn re) N (fun E => x_X2_negated a1 = some E) (fun r ad' f' => ad = ad' ∧ x_X2_negated a1 = none ∧ (v_X2_negated sp re a1).1 = r ∧ (cf g ad x (v_X2_negated sp re a1).2.1 dy la kn (v_X2_negated sp re a1).2.2) = f') := by
  intro sz
  refine mx_start (by decide) (Nat.le_of_ble_eq_true rfl) ?_
  intro p e s m args below meth c hsz X hr hex hA hK hT H locs B ls hl
  obtain ⟨hx, hb, hml, hown, hts, hlocks⟩ := id X
  have hl : lv_has ls 3 [(0, .ref (ad 0)), (1, .int a1)] := hl
  refine lv_aload_n hx hb dX2_negated_0 rfl (lv_at hl 0 rfl) ?_
  refine lv_iload_n hx hb dX2_negated_1 rfl (lv_at hl 1 rfl) ?_
  refine k_xr (k := 1) (n := 6) hex X hsz hA B (ux_V (rest := []) X (c_X2_cardAt l hfl g N ad x sp dy la kn re hN a1 H.size) mw_X2_cardAt md_X2_cardAt rfl lk_X2_37 ⟨Nat.le_of_ble_eq_true rfl, Nat.le_of_ble_eq_true rfl⟩ hA hK hT B (pl_c hN 0 (by decide)) cf_0 rfl rfl hl.1 rfl (Nat.le_of_ble_eq_true rfl) dX2_negated_2 ⟨Nat.le_of_ble_eq_true rfl, Nat.le_of_ble_eq_true rfl⟩) (Nat.le_of_ble_eq_true rfl) (Nat.le_of_ble_eq_true rfl) (Nat.le_of_ble_eq_true rfl) (Nat.le_of_ble_eq_true rfl) (fun E hE => by unfold x_X2_negated; rw [xo_some hE]) (fun r ad' f' H locs hw B => ?_)
  obtain ⟨rfl, x1, rfl, rfl⟩ := hw
  refine lv_astore_n (lv' := [(2, .ref (ad (4 + a1.toNatClampNeg))), (0, .ref (ad 0)), (1, .int a1)]) hx hb dX2_negated_5 rfl hl (by decide) rfl (fun ls hl => ?_)
  refine lv_aload_n hx hb dX2_negated_6 rfl (lv_at hl 1 rfl) ?_
  refine lv_aload_n hx hb dX2_negated_7 rfl (lv_at hl 0 rfl) ?_
  refine lv_aload_n hx hb dX2_negated_8 rfl (lv_at hl 1 rfl) ?_
  refine g_get (q := 0) (k := 6) X hK B rfl in_X2 (pl_c hN 0 (by decide)) cf_0 (by decide) lk_X2_25 rfl rfl dX2_negated_9 ?_
  refine lv_aload_n hx hb dX2_negated_12 rfl (lv_at hl 0 rfl) ?_
  refine k_i (k := 1) (n := 6) hA B (u_VN (rest := [.ref (ad (4 + a1.toNatClampNeg)), .ref (ad 0)]) X (c_X1_putOpposite l g N ad x sp dy la kn re hN 12 (by decide) a1.toNatClampNeg (Nat.lt_of_lt_of_le (xl_X2_cardAt x1) (by decide)) H.size) mw_X1_putOpposite md_X1_putOpposite rfl lk_X2_84 ⟨Nat.le_of_ble_eq_true rfl, Nat.le_of_ble_eq_true rfl⟩ hA hK hT B (pl_sp hN (by decide)) (cf_sp (by decide)) rfl rfl hl.1 rfl (Nat.le_of_ble_eq_true rfl) dX2_negated_13 ⟨Nat.le_of_ble_eq_true rfl, Nat.le_of_ble_eq_true rfl⟩) (Nat.le_of_ble_eq_true rfl) (Nat.le_of_ble_eq_true rfl) (fun r ad' f' H locs hw B => ?_)
  obtain ⟨rfl, rfl, rfl⟩ := hw
  refine k_i (k := 1) (n := 6) hA B (u_V (rest := []) X (c_X2_actOnCard l g N ad x (v_X1_putOpposite sp 12 a1.toNatClampNeg).2 dy la kn re hN a1.toNatClampNeg (Nat.lt_of_lt_of_le (xl_X2_cardAt x1) (by decide)) (v_X1_putOpposite sp 12 a1.toNatClampNeg).1 H.size) mw_X2_actOnCard md_X2_actOnCard rfl lk_X2_45 ⟨Nat.le_of_ble_eq_true rfl, Nat.le_of_ble_eq_true rfl⟩ hA hK hT B (pl_c hN 0 (by decide)) cf_0 rfl rfl hl.1 rfl (Nat.le_of_ble_eq_true rfl) dX2_negated_16 ⟨Nat.le_of_ble_eq_true rfl, Nat.le_of_ble_eq_true rfl⟩) (Nat.le_of_ble_eq_true rfl) (Nat.le_of_ble_eq_true rfl) (fun r ad' f' H locs hw B => ?_)
  obtain ⟨rfl, rfl, rfl⟩ := hw
  have ev := (show v_X2_negated sp re a1 = ((v_X2_actOnCard (v_X1_putOpposite sp 12 a1.toNatClampNeg).2 re a1.toNatClampNeg (v_X1_putOpposite sp 12 a1.toNatClampNeg).1).1, (v_X2_actOnCard (v_X1_putOpposite sp 12 a1.toNatClampNeg).2 re a1.toNatClampNeg (v_X1_putOpposite sp 12 a1.toNatClampNeg).1).2.1, (v_X2_actOnCard (v_X1_putOpposite sp 12 a1.toNatClampNeg).2 re a1.toNatClampNeg (v_X1_putOpposite sp 12 a1.toNatClampNeg).1).2.2) from rfl)
  exact vx_ret (rt_i X hr (ad, (cf g ad x (v_X2_actOnCard (v_X1_putOpposite sp 12 a1.toNatClampNeg).2 re a1.toNatClampNeg (v_X1_putOpposite sp 12 a1.toNatClampNeg).1).2.1 dy la kn (v_X2_actOnCard (v_X1_putOpposite sp 12 a1.toNatClampNeg).2 re a1.toNatClampNeg (v_X1_putOpposite sp 12 a1.toNatClampNeg).1).2.2)) B (PO_of B) ⟨rfl, by unfold x_X2_negated; rw [xo_none x1], by rw [ev], by rw [ev]⟩ rfl (Nat.le_of_ble_eq_true rfl) (Nat.le_of_ble_eq_true rfl) dX2_negated_19)
def v_X2_normalized (sp : Nat → TR) (re : Int32) (a1 : Int32) : Int32 × (Nat → TR) × Int32 := ((v_X2_actOnCard (v_X1_putTidy sp 12 a1.toNatClampNeg).2 re a1.toNatClampNeg (v_X1_putTidy sp 12 a1.toNatClampNeg).1).1, (v_X2_actOnCard (v_X1_putTidy sp 12 a1.toNatClampNeg).2 re a1.toNatClampNeg (v_X1_putTidy sp 12 a1.toNatClampNeg).1).2.1, (v_X2_actOnCard (v_X1_putTidy sp 12 a1.toNatClampNeg).2 re a1.toNatClampNeg (v_X1_putTidy sp 12 a1.toNatClampNeg).1).2.2)
def x_X2_normalized (a1 : Int32) : Option String := xo (x_X2_cardAt a1) none
set_option maxHeartbeats 4000000 in
set_option maxRecDepth 100000 in
theorem c_X2_normalized (l : Launch) (hfl : l.stackTraces = false) (g : GG) (N : Nat) (ad : Nat → Nat) (x : Nat → va_E) (sp dy : Nat → TR) (la kn re : Int32) (hN : 23 ≤ N) (a1 : Int32) : XI l yX2_normalized cX2_normalized 3 (some .int) (rm 3 1 6) g [.ref (ad 0), .int a1] N ad (cf g ad x sp dy la kn re) N (fun E => x_X2_normalized a1 = some E) (fun r ad' f' => ad = ad' ∧ x_X2_normalized a1 = none ∧ (v_X2_normalized sp re a1).1 = r ∧ (cf g ad x (v_X2_normalized sp re a1).2.1 dy la kn (v_X2_normalized sp re a1).2.2) = f') := by
  intro sz
  refine mx_start (by decide) (Nat.le_of_ble_eq_true rfl) ?_
  intro p e s m args below meth c hsz X hr hex hA hK hT H locs B ls hl
  obtain ⟨hx, hb, hml, hown, hts, hlocks⟩ := id X
  have hl : lv_has ls 3 [(0, .ref (ad 0)), (1, .int a1)] := hl
  refine lv_aload_n hx hb dX2_normalized_0 rfl (lv_at hl 0 rfl) ?_
  refine lv_iload_n hx hb dX2_normalized_1 rfl (lv_at hl 1 rfl) ?_
  refine k_xr (k := 1) (n := 6) hex X hsz hA B (ux_V (rest := []) X (c_X2_cardAt l hfl g N ad x sp dy la kn re hN a1 H.size) mw_X2_cardAt md_X2_cardAt rfl lk_X2_37 ⟨Nat.le_of_ble_eq_true rfl, Nat.le_of_ble_eq_true rfl⟩ hA hK hT B (pl_c hN 0 (by decide)) cf_0 rfl rfl hl.1 rfl (Nat.le_of_ble_eq_true rfl) dX2_normalized_2 ⟨Nat.le_of_ble_eq_true rfl, Nat.le_of_ble_eq_true rfl⟩) (Nat.le_of_ble_eq_true rfl) (Nat.le_of_ble_eq_true rfl) (Nat.le_of_ble_eq_true rfl) (Nat.le_of_ble_eq_true rfl) (fun E hE => by unfold x_X2_normalized; rw [xo_some hE]) (fun r ad' f' H locs hw B => ?_)
  obtain ⟨rfl, x1, rfl, rfl⟩ := hw
  refine lv_astore_n (lv' := [(2, .ref (ad (4 + a1.toNatClampNeg))), (0, .ref (ad 0)), (1, .int a1)]) hx hb dX2_normalized_5 rfl hl (by decide) rfl (fun ls hl => ?_)
  refine lv_aload_n hx hb dX2_normalized_6 rfl (lv_at hl 1 rfl) ?_
  refine lv_aload_n hx hb dX2_normalized_7 rfl (lv_at hl 0 rfl) ?_
  refine lv_aload_n hx hb dX2_normalized_8 rfl (lv_at hl 1 rfl) ?_
  refine g_get (q := 0) (k := 6) X hK B rfl in_X2 (pl_c hN 0 (by decide)) cf_0 (by decide) lk_X2_25 rfl rfl dX2_normalized_9 ?_
  refine lv_aload_n hx hb dX2_normalized_12 rfl (lv_at hl 0 rfl) ?_
  refine k_i (k := 1) (n := 6) hA B (u_VN (rest := [.ref (ad (4 + a1.toNatClampNeg)), .ref (ad 0)]) X (c_X1_putTidy l g N ad x sp dy la kn re hN 12 (by decide) a1.toNatClampNeg (Nat.lt_of_lt_of_le (xl_X2_cardAt x1) (by decide)) H.size) mw_X1_putTidy md_X1_putTidy rfl lk_X2_88 ⟨Nat.le_of_ble_eq_true rfl, Nat.le_of_ble_eq_true rfl⟩ hA hK hT B (pl_sp hN (by decide)) (cf_sp (by decide)) rfl rfl hl.1 rfl (Nat.le_of_ble_eq_true rfl) dX2_normalized_13 ⟨Nat.le_of_ble_eq_true rfl, Nat.le_of_ble_eq_true rfl⟩) (Nat.le_of_ble_eq_true rfl) (Nat.le_of_ble_eq_true rfl) (fun r ad' f' H locs hw B => ?_)
  obtain ⟨rfl, rfl, rfl⟩ := hw
  refine k_i (k := 1) (n := 6) hA B (u_V (rest := []) X (c_X2_actOnCard l g N ad x (v_X1_putTidy sp 12 a1.toNatClampNeg).2 dy la kn re hN a1.toNatClampNeg (Nat.lt_of_lt_of_le (xl_X2_cardAt x1) (by decide)) (v_X1_putTidy sp 12 a1.toNatClampNeg).1 H.size) mw_X2_actOnCard md_X2_actOnCard rfl lk_X2_45 ⟨Nat.le_of_ble_eq_true rfl, Nat.le_of_ble_eq_true rfl⟩ hA hK hT B (pl_c hN 0 (by decide)) cf_0 rfl rfl hl.1 rfl (Nat.le_of_ble_eq_true rfl) dX2_normalized_16 ⟨Nat.le_of_ble_eq_true rfl, Nat.le_of_ble_eq_true rfl⟩) (Nat.le_of_ble_eq_true rfl) (Nat.le_of_ble_eq_true rfl) (fun r ad' f' H locs hw B => ?_)
  obtain ⟨rfl, rfl, rfl⟩ := hw
  have ev := (show v_X2_normalized sp re a1 = ((v_X2_actOnCard (v_X1_putTidy sp 12 a1.toNatClampNeg).2 re a1.toNatClampNeg (v_X1_putTidy sp 12 a1.toNatClampNeg).1).1, (v_X2_actOnCard (v_X1_putTidy sp 12 a1.toNatClampNeg).2 re a1.toNatClampNeg (v_X1_putTidy sp 12 a1.toNatClampNeg).1).2.1, (v_X2_actOnCard (v_X1_putTidy sp 12 a1.toNatClampNeg).2 re a1.toNatClampNeg (v_X1_putTidy sp 12 a1.toNatClampNeg).1).2.2) from rfl)
  exact vx_ret (rt_i X hr (ad, (cf g ad x (v_X2_actOnCard (v_X1_putTidy sp 12 a1.toNatClampNeg).2 re a1.toNatClampNeg (v_X1_putTidy sp 12 a1.toNatClampNeg).1).2.1 dy la kn (v_X2_actOnCard (v_X1_putTidy sp 12 a1.toNatClampNeg).2 re a1.toNatClampNeg (v_X1_putTidy sp 12 a1.toNatClampNeg).1).2.2)) B (PO_of B) ⟨rfl, by unfold x_X2_normalized; rw [xo_none x1], by rw [ev], by rw [ev]⟩ rfl (Nat.le_of_ble_eq_true rfl) (Nat.le_of_ble_eq_true rfl) dX2_normalized_19)
def v_X2_lay (sp : Nat → TR) (la : Int32) (re : Int32) (a1 : Int32) : Int32 × (Nat → TR) × Int32 × Int32 := if la < 8 then (la + 1, (v_X1_putSpan sp (4 + la.toNatClampNeg) a1.toNatClampNeg), la + 1, re) else ((v_X2_refuse re).1, sp, la, (v_X2_refuse re).2)
def x_X2_lay (la : Int32) (a1 : Int32) : Option String := xo (x_X2_cardAt a1) (if la < 8 then none else none)
set_option maxHeartbeats 4000000 in
set_option maxRecDepth 100000 in
theorem c_X2_lay (l : Launch) (hfl : l.stackTraces = false) (g : GG) (N : Nat) (ad : Nat → Nat) (x : Nat → va_E) (sp dy : Nat → TR) (la kn re : Int32) (hN : 23 ≤ N) (hla : ¬ la < 0) (hlb : ¬ 8 < la) (a1 : Int32) : XI l yX2_lay cX2_lay 3 (some .int) (rm 2 1 6) g [.ref (ad 0), .int a1] N ad (cf g ad x sp dy la kn re) N (fun E => x_X2_lay la a1 = some E) (fun r ad' f' => ad = ad' ∧ x_X2_lay la a1 = none ∧ (v_X2_lay sp la re a1).1 = r ∧ (cf g ad x (v_X2_lay sp la re a1).2.1 dy (v_X2_lay sp la re a1).2.2.1 kn (v_X2_lay sp la re a1).2.2.2) = f') := by
  intro sz
  refine mx_start (by decide) (Nat.le_of_ble_eq_true rfl) ?_
  intro p e s m args below meth c hsz X hr hex hA hK hT H locs B ls hl
  obtain ⟨hx, hb, hml, hown, hts, hlocks⟩ := id X
  have hl : lv_has ls 3 [(0, .ref (ad 0)), (1, .int a1)] := hl
  refine lv_aload_n hx hb dX2_lay_0 rfl (lv_at hl 0 rfl) ?_
  refine lv_iload_n hx hb dX2_lay_1 rfl (lv_at hl 1 rfl) ?_
  refine k_xr (k := 1) (n := 6) hex X hsz hA B (ux_V (rest := []) X (c_X2_cardAt l hfl g N ad x sp dy la kn re hN a1 H.size) mw_X2_cardAt md_X2_cardAt rfl lk_X2_37 ⟨Nat.le_of_ble_eq_true rfl, Nat.le_of_ble_eq_true rfl⟩ hA hK hT B (pl_c hN 0 (by decide)) cf_0 rfl rfl hl.1 rfl (Nat.le_of_ble_eq_true rfl) dX2_lay_2 ⟨Nat.le_of_ble_eq_true rfl, Nat.le_of_ble_eq_true rfl⟩) (Nat.le_of_ble_eq_true rfl) (Nat.le_of_ble_eq_true rfl) (Nat.le_of_ble_eq_true rfl) (Nat.le_of_ble_eq_true rfl) (fun E hE => by unfold x_X2_lay; rw [xo_some hE]) (fun r ad' f' H locs hw B => ?_)
  obtain ⟨rfl, x1, rfl, rfl⟩ := hw
  refine lv_astore_n (lv' := [(2, .ref (ad (4 + a1.toNatClampNeg))), (0, .ref (ad 0)), (1, .int a1)]) hx hb dX2_lay_5 rfl hl (by decide) rfl (fun ls hl => ?_)
  refine lv_aload_n hx hb dX2_lay_6 rfl (lv_at hl 1 rfl) ?_
  refine g_get (q := 0) (k := 3) X hK B rfl in_X2 (pl_c hN 0 (by decide)) cf_0 (by decide) lk_X2_91 rfl rfl dX2_lay_7 ?_
  refine lv_bipush (v := 8) hx hb dX2_lay_10 (by decide) ?_
  refine lv_icmp_lt (tgt := 20) hx hb dX2_lay_12 (by decide) (fun c2 => ?_) (fun c2 => ?_)
  · refine lv_aload_n hx hb dX2_lay_20 rfl (lv_at hl 1 rfl) ?_
    refine g_get (q := 0) (k := 1) X hK B rfl in_X2 (pl_c hN 0 (by decide)) cf_0 (by decide) lk_X2_15 rfl rfl dX2_lay_21 ?_
    refine lv_aload_n hx hb dX2_lay_24 rfl (lv_at hl 1 rfl) ?_
    refine g_get (q := 0) (k := 3) X hK B rfl in_X2 (pl_c hN 0 (by decide)) cf_0 (by decide) lk_X2_91 rfl rfl dX2_lay_25 ?_
    refine g_aald (q := 2) (t0 := 3) X hK B (pl_c hN 2 (by decide)) cf_2 rfl rfl (ix_in (n := 8) hla (ix_nl c2) rfl) dX2_lay_28 ?_
    have h3 : 4 + la.toNatClampNeg < 14 := by have := (ix_lt (n := 8) hla (ix_nl c2) rfl); omega
    rw [show va_rf (some (ad (8 + la.toNatClampNeg))) = Value.ref (ad (4 + (4 + la.toNatClampNeg))) from by rw [← Nat.add_assoc]; rfl]
    refine lv_aload_n hx hb dX2_lay_29 rfl (lv_at hl 0 rfl) ?_
    refine k_v (k := 1) (n := 6) hA B (u_VN (rest := []) X (c_X1_putSpan l g N ad x sp dy la kn re hN (4 + la.toNatClampNeg) h3 a1.toNatClampNeg (Nat.lt_of_lt_of_le (xl_X2_cardAt x1) (by decide)) H.size) mw_X1_putSpan md_X1_putSpan rfl lk_X2_65 ⟨Nat.le_of_ble_eq_true rfl, Nat.le_of_ble_eq_true rfl⟩ hA hK hT B (pl_sp hN h3) (cf_sp h3) rfl rfl hl.1 rfl (Nat.le_of_ble_eq_true rfl) dX2_lay_30 ⟨Nat.le_of_ble_eq_true rfl, Nat.le_of_ble_eq_true rfl⟩) (Nat.le_of_ble_eq_true rfl) (Nat.le_of_ble_eq_true rfl) (fun ad' f' H locs hw B => ?_)
    obtain ⟨rfl, rfl⟩ := hw
    refine lv_aload_n hx hb dX2_lay_33 rfl (lv_at hl 1 rfl) ?_
    refine lv_dup hx hb dX2_lay_34 rfl ?_
    refine g_get (q := 0) (k := 3) X hK B rfl in_X2 (pl_c hN 0 (by decide)) cf_0 (by decide) lk_X2_91 rfl rfl dX2_lay_35 ?_
    refine lv_iconst (v := 1) hx hb dX2_lay_38 (by decide) ?_
    refine lv_iadd hx hb dX2_lay_39 ?_
    refine g_put (q := 0) (k := 3) X hK B rfl in_X2 tyX2_ok nmX2 (pl_c hN 0 (by decide)) cf_0 (by decide) lk_X2_91 rfl rfl rfl rfl rfl (Nat.le_of_ble_eq_true rfl) dX2_lay_40 (fun H locs B => ?_)
    have B : WB g (aw N ad sz) s.heap N ad (cf g ad x (v_X1_putSpan sp (4 + la.toNatClampNeg) a1.toNatClampNeg) dy (la + 1) kn re) H locs := by rw [← cf_up_mn]; exact B
    refine lv_aload_n hx hb dX2_lay_43 rfl (lv_at hl 1 rfl) ?_
    refine g_get (q := 0) (k := 3) X hK B rfl in_X2 (pl_c hN 0 (by decide)) cf_0 (by decide) lk_X2_91 rfl rfl dX2_lay_44 ?_
    have ev := (show v_X2_lay sp la re a1 = (la + 1, (v_X1_putSpan sp (4 + la.toNatClampNeg) a1.toNatClampNeg), la + 1, re) from by unfold v_X2_lay; rw [if_pos c2])
    exact vx_ret (rt_i X hr (ad, (cf g ad x (v_X1_putSpan sp (4 + la.toNatClampNeg) a1.toNatClampNeg) dy (la + 1) kn re)) B (PO_of B) ⟨rfl, by unfold x_X2_lay; rw [xo_none x1, if_pos c2], by rw [ev], by rw [ev]⟩ rfl (Nat.le_of_ble_eq_true rfl) (Nat.le_of_ble_eq_true rfl) dX2_lay_47)
  · refine lv_aload_n hx hb dX2_lay_15 rfl (lv_at hl 1 rfl) ?_
    refine k_i (k := 1) (n := 6) hA B (u_V (rest := []) X (c_X2_refuse l g N ad x sp dy la kn re hN H.size) mw_X2_refuse md_X2_refuse rfl lk_X2_94 ⟨Nat.le_of_ble_eq_true rfl, Nat.le_of_ble_eq_true rfl⟩ hA hK hT B (pl_c hN 0 (by decide)) cf_0 rfl rfl hl.1 rfl (Nat.le_of_ble_eq_true rfl) dX2_lay_16 ⟨Nat.le_of_ble_eq_true rfl, Nat.le_of_ble_eq_true rfl⟩) (Nat.le_of_ble_eq_true rfl) (Nat.le_of_ble_eq_true rfl) (fun r ad' f' H locs hw B => ?_)
    obtain ⟨rfl, rfl, rfl⟩ := hw
    have ev := (show v_X2_lay sp la re a1 = ((v_X2_refuse re).1, sp, la, (v_X2_refuse re).2) from by unfold v_X2_lay; rw [if_neg c2])
    exact vx_ret (rt_i X hr (ad, (cf g ad x sp dy la kn (v_X2_refuse re).2)) B (PO_of B) ⟨rfl, by unfold x_X2_lay; rw [xo_none x1, if_neg c2], by rw [ev], by rw [ev]⟩ rfl (Nat.le_of_ble_eq_true rfl) (Nat.le_of_ble_eq_true rfl) dX2_lay_19)
def v_X2_take (sp : Nat → TR) (la : Int32) (re : Int32) (a1 : Int32) : Int32 × (Nat → TR) × Int32 × Int32 := if 1 ≤ la then (la - 1, (v_X1_putSpan sp a1.toNatClampNeg (4 + ((la - 1).toNatClampNeg))), la - 1, re) else ((v_X2_refuse re).1, sp, la, (v_X2_refuse re).2)
def x_X2_take (la : Int32) (a1 : Int32) : Option String := xo (x_X2_cardAt a1) (if 1 ≤ la then none else none)
set_option maxHeartbeats 4000000 in
set_option maxRecDepth 100000 in
theorem c_X2_take (l : Launch) (hfl : l.stackTraces = false) (g : GG) (N : Nat) (ad : Nat → Nat) (x : Nat → va_E) (sp dy : Nat → TR) (la kn re : Int32) (hN : 23 ≤ N) (hla : ¬ la < 0) (hlb : ¬ 8 < la) (a1 : Int32) : XI l yX2_take cX2_take 3 (some .int) (rm 2 1 6) g [.ref (ad 0), .int a1] N ad (cf g ad x sp dy la kn re) N (fun E => x_X2_take la a1 = some E) (fun r ad' f' => ad = ad' ∧ x_X2_take la a1 = none ∧ (v_X2_take sp la re a1).1 = r ∧ (cf g ad x (v_X2_take sp la re a1).2.1 dy (v_X2_take sp la re a1).2.2.1 kn (v_X2_take sp la re a1).2.2.2) = f') := by
  intro sz
  refine mx_start (by decide) (Nat.le_of_ble_eq_true rfl) ?_
  intro p e s m args below meth c hsz X hr hex hA hK hT H locs B ls hl
  obtain ⟨hx, hb, hml, hown, hts, hlocks⟩ := id X
  have hl : lv_has ls 3 [(0, .ref (ad 0)), (1, .int a1)] := hl
  refine lv_aload_n hx hb dX2_take_0 rfl (lv_at hl 0 rfl) ?_
  refine lv_iload_n hx hb dX2_take_1 rfl (lv_at hl 1 rfl) ?_
  refine k_xr (k := 1) (n := 6) hex X hsz hA B (ux_V (rest := []) X (c_X2_cardAt l hfl g N ad x sp dy la kn re hN a1 H.size) mw_X2_cardAt md_X2_cardAt rfl lk_X2_37 ⟨Nat.le_of_ble_eq_true rfl, Nat.le_of_ble_eq_true rfl⟩ hA hK hT B (pl_c hN 0 (by decide)) cf_0 rfl rfl hl.1 rfl (Nat.le_of_ble_eq_true rfl) dX2_take_2 ⟨Nat.le_of_ble_eq_true rfl, Nat.le_of_ble_eq_true rfl⟩) (Nat.le_of_ble_eq_true rfl) (Nat.le_of_ble_eq_true rfl) (Nat.le_of_ble_eq_true rfl) (Nat.le_of_ble_eq_true rfl) (fun E hE => by unfold x_X2_take; rw [xo_some hE]) (fun r ad' f' H locs hw B => ?_)
  obtain ⟨rfl, x1, rfl, rfl⟩ := hw
  refine lv_astore_n (lv' := [(2, .ref (ad (4 + a1.toNatClampNeg))), (0, .ref (ad 0)), (1, .int a1)]) hx hb dX2_take_5 rfl hl (by decide) rfl (fun ls hl => ?_)
  refine lv_aload_n hx hb dX2_take_6 rfl (lv_at hl 1 rfl) ?_
  refine g_get (q := 0) (k := 3) X hK B rfl in_X2 (pl_c hN 0 (by decide)) cf_0 (by decide) lk_X2_91 rfl rfl dX2_take_7 ?_
  refine lv_iconst (v := 1) hx hb dX2_take_10 (by decide) ?_
  refine lv_icmp_ge (tgt := 19) hx hb dX2_take_11 (by decide) (fun c2 => ?_) (fun c2 => ?_)
  · refine lv_aload_n hx hb dX2_take_19 rfl (lv_at hl 1 rfl) ?_
    refine lv_dup hx hb dX2_take_20 rfl ?_
    refine g_get (q := 0) (k := 3) X hK B rfl in_X2 (pl_c hN 0 (by decide)) cf_0 (by decide) lk_X2_91 rfl rfl dX2_take_21 ?_
    refine lv_iconst (v := 1) hx hb dX2_take_24 (by decide) ?_
    refine lv_isub hx hb dX2_take_25 ?_
    refine g_put (q := 0) (k := 3) X hK B rfl in_X2 tyX2_ok nmX2 (pl_c hN 0 (by decide)) cf_0 (by decide) lk_X2_91 rfl rfl rfl rfl rfl (Nat.le_of_ble_eq_true rfl) dX2_take_26 (fun H locs B => ?_)
    have B : WB g (aw N ad sz) s.heap N ad (cf g ad x sp dy (la - 1) kn re) H locs := by rw [← cf_up_mn]; exact B
    refine lv_aload_n hx hb dX2_take_29 rfl (lv_at hl 0 rfl) ?_
    refine lv_aload_n hx hb dX2_take_30 rfl (lv_at hl 1 rfl) ?_
    refine g_get (q := 0) (k := 1) X hK B rfl in_X2 (pl_c hN 0 (by decide)) cf_0 (by decide) lk_X2_15 rfl rfl dX2_take_31 ?_
    refine lv_aload_n hx hb dX2_take_34 rfl (lv_at hl 1 rfl) ?_
    refine g_get (q := 0) (k := 3) X hK B rfl in_X2 (pl_c hN 0 (by decide)) cf_0 (by decide) lk_X2_91 rfl rfl dX2_take_35 ?_
    refine g_aald (q := 2) (t0 := 3) X hK B (pl_c hN 2 (by decide)) cf_2 rfl rfl (ix_in (n := 8) (dec_lt c2 hlb).1 (dec_lt c2 hlb).2 rfl) dX2_take_38 ?_
    have h3 : 4 + ((la - 1).toNatClampNeg) < 14 := by have := (ix_lt (n := 8) (dec_lt c2 hlb).1 (dec_lt c2 hlb).2 rfl); omega
    rw [show va_rf (some (ad (8 + ((la - 1).toNatClampNeg)))) = Value.ref (ad (4 + (4 + ((la - 1).toNatClampNeg)))) from by rw [← Nat.add_assoc]; rfl]
    refine k_v (k := 1) (n := 6) hA B (u_VN (rest := []) X (c_X1_putSpan l g N ad x sp dy (la - 1) kn re hN a1.toNatClampNeg (Nat.lt_of_lt_of_le (xl_X2_cardAt x1) (by decide)) (4 + ((la - 1).toNatClampNeg)) h3 H.size) mw_X1_putSpan md_X1_putSpan rfl lk_X2_65 ⟨Nat.le_of_ble_eq_true rfl, Nat.le_of_ble_eq_true rfl⟩ hA hK hT B (pl_sp hN (Nat.lt_of_lt_of_le (xl_X2_cardAt x1) (by decide))) (cf_sp (Nat.lt_of_lt_of_le (xl_X2_cardAt x1) (by decide))) rfl rfl hl.1 rfl (Nat.le_of_ble_eq_true rfl) dX2_take_39 ⟨Nat.le_of_ble_eq_true rfl, Nat.le_of_ble_eq_true rfl⟩) (Nat.le_of_ble_eq_true rfl) (Nat.le_of_ble_eq_true rfl) (fun ad' f' H locs hw B => ?_)
    obtain ⟨rfl, rfl⟩ := hw
    refine lv_aload_n hx hb dX2_take_42 rfl (lv_at hl 1 rfl) ?_
    refine g_get (q := 0) (k := 3) X hK B rfl in_X2 (pl_c hN 0 (by decide)) cf_0 (by decide) lk_X2_91 rfl rfl dX2_take_43 ?_
    have ev := (show v_X2_take sp la re a1 = (la - 1, (v_X1_putSpan sp a1.toNatClampNeg (4 + ((la - 1).toNatClampNeg))), la - 1, re) from by unfold v_X2_take; rw [if_pos c2])
    exact vx_ret (rt_i X hr (ad, (cf g ad x (v_X1_putSpan sp a1.toNatClampNeg (4 + ((la - 1).toNatClampNeg))) dy (la - 1) kn re)) B (PO_of B) ⟨rfl, by unfold x_X2_take; rw [xo_none x1, if_pos c2], by rw [ev], by rw [ev]⟩ rfl (Nat.le_of_ble_eq_true rfl) (Nat.le_of_ble_eq_true rfl) dX2_take_46)
  · refine lv_aload_n hx hb dX2_take_14 rfl (lv_at hl 1 rfl) ?_
    refine k_i (k := 1) (n := 6) hA B (u_V (rest := []) X (c_X2_refuse l g N ad x sp dy la kn re hN H.size) mw_X2_refuse md_X2_refuse rfl lk_X2_94 ⟨Nat.le_of_ble_eq_true rfl, Nat.le_of_ble_eq_true rfl⟩ hA hK hT B (pl_c hN 0 (by decide)) cf_0 rfl rfl hl.1 rfl (Nat.le_of_ble_eq_true rfl) dX2_take_15 ⟨Nat.le_of_ble_eq_true rfl, Nat.le_of_ble_eq_true rfl⟩) (Nat.le_of_ble_eq_true rfl) (Nat.le_of_ble_eq_true rfl) (fun r ad' f' H locs hw B => ?_)
    obtain ⟨rfl, rfl, rfl⟩ := hw
    have ev := (show v_X2_take sp la re a1 = ((v_X2_refuse re).1, sp, la, (v_X2_refuse re).2) from by unfold v_X2_take; rw [if_neg c2])
    exact vx_ret (rt_i X hr (ad, (cf g ad x sp dy la kn (v_X2_refuse re).2)) B (PO_of B) ⟨rfl, by unfold x_X2_take; rw [xo_none x1, if_neg c2], by rw [ev], by rw [ev]⟩ rfl (Nat.le_of_ble_eq_true rfl) (Nat.le_of_ble_eq_true rfl) dX2_take_18)
end
