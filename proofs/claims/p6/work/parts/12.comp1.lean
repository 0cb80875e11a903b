def v_X2_canBeTold (b0 : Int64) : Int32 := if (lg_cmp b0 (-2147483648)) < 0 then 0 else (if 0 < (lg_cmp b0 2147483647) then 0 else 1)
theorem b01_X2_canBeTold {b0 : Int64} : (v_X2_canBeTold b0) = 0 ∨ (v_X2_canBeTold b0) = 1 := by
  unfold v_X2_canBeTold
  by_cases q1 : (lg_cmp b0 (-2147483648)) < 0
  · rw [if_pos q1]
    exact Or.inl rfl
  · rw [if_neg q1]
    by_cases q2 : 0 < (lg_cmp b0 2147483647)
    · rw [if_pos q2]
      exact Or.inl rfl
    · rw [if_neg q2]
      exact Or.inr rfl
set_option maxHeartbeats 4000000 in
set_option maxRecDepth 100000 in
theorem c_X2_canBeTold (l : Launch) (g : GG) (N : Nat) (ad : Nat → Nat) (x : Nat → va_E) (sp dy : Nat → TR) (la kn re : Int32) (hN : 23 ≤ N) (b0 : Int64) : KI l yX2_canBeTold cX2_canBeTold 2 (some .boolean) (rm 0 0 0) g [.long b0] N ad (cf g ad x sp dy la kn re) N (fun r ad' f' => ad = ad' ∧ (v_X2_canBeTold b0) = r ∧ (cf g ad x sp dy la kn re) = f') := by
  intro sz
  refine mt_start (by decide) (Nat.le_of_ble_eq_true rfl) ?_
  intro p e s m args below meth c hsz X hr hnam hA hK hT H locs B ls hl
  obtain ⟨hx, hb, hml, hown, hts, hlocks⟩ := id X
  have hl : lv_has ls 2 [(0, .long b0)] := hl
  refine lv_lload_n hx hb dX2_canBeTold_0 rfl (lv_at hl 0 rfl) ?_
  refine lv_ldc2 hx hb hown (hts _ (List.mem_cons_of_mem _ lk_X2_260)) dX2_canBeTold_1 ?_
  refine W.lcmp hx hb dX2_canBeTold_4 ?_
  refine lv_if_lt (tgt := 20) hx hb dX2_canBeTold_5 (by decide) (fun c1 => ?_) (fun c1 => ?_)
  · refine lv_iconst (v := 0) hx hb dX2_canBeTold_20 (by decide) ?_
    have ev := (show v_X2_canBeTold b0 = 0 from by unfold v_X2_canBeTold; rw [if_pos c1])
    exact rt_i X hr (ad, (cf g ad x sp dy la kn re)) B (PO_of B) ⟨rfl, by rw [ev], rfl⟩ rfl (Nat.le_of_ble_eq_true rfl) (Nat.le_of_ble_eq_true rfl) dX2_canBeTold_21
  · refine lv_lload_n hx hb dX2_canBeTold_8 rfl (lv_at hl 0 rfl) ?_
    refine lv_ldc2 hx hb hown (hts _ (List.mem_cons_of_mem _ lk_X2_262)) dX2_canBeTold_9 ?_
    refine W.lcmp hx hb dX2_canBeTold_12 ?_
    refine lv_if_gt (tgt := 20) hx hb dX2_canBeTold_13 (by decide) (fun c2 => ?_) (fun c2 => ?_)
    · refine lv_iconst (v := 0) hx hb dX2_canBeTold_20 (by decide) ?_
      have ev := (show v_X2_canBeTold b0 = 0 from by unfold v_X2_canBeTold; rw [if_neg c1, if_pos c2])
      exact rt_i X hr (ad, (cf g ad x sp dy la kn re)) B (PO_of B) ⟨rfl, by rw [ev], rfl⟩ rfl (Nat.le_of_ble_eq_true rfl) (Nat.le_of_ble_eq_true rfl) dX2_canBeTold_21
    · refine lv_iconst (v := 1) hx hb dX2_canBeTold_16 (by decide) ?_
      refine lv_goto (tgt := 21) hx hb dX2_canBeTold_17 (by decide) ?_
      have ev := (show v_X2_canBeTold b0 = 1 from by unfold v_X2_canBeTold; rw [if_neg c1, if_neg c2])
      exact rt_i X hr (ad, (cf g ad x sp dy la kn re)) B (PO_of B) ⟨rfl, by rw [ev], rfl⟩ rfl (Nat.le_of_ble_eq_true rfl) (Nat.le_of_ble_eq_true rfl) dX2_canBeTold_21
def v_X1_put (sp : Nat → TR) (i0 : Nat) (b1 : Int64) (b2 : Int64) (b3 : Int64) : Int32 × (Nat → TR) := if (v_X2_canBeTold b1) = 0 then (0, sp) else (if (v_X2_canBeTold b2) = 0 then (0, sp) else (if (v_X2_canBeTold b3) = 0 then (0, sp) else (1, va_up sp i0 (b1.toInt32, b2.toInt32, b3.toInt32))))
theorem kp_X1_put_sp {sp : Nat → TR} {i0 : Nat} {b1 : Int64} {b2 : Int64} {b3 : Int64} {j : Nat} (h : j ≠ i0) : (v_X1_put sp i0 b1 b2 b3).2 j = sp j := by
  unfold v_X1_put
  by_cases q1 : (v_X2_canBeTold b1) = 0
  · rw [if_pos q1]
    all_goals rfl
  · rw [if_neg q1]
    by_cases q2 : (v_X2_canBeTold b2) = 0
    · rw [if_pos q2]
      all_goals rfl
    · rw [if_neg q2]
      by_cases q3 : (v_X2_canBeTold b3) = 0
      · rw [if_pos q3]
        all_goals rfl
      · rw [if_neg q3]
        exact va_up_ne _ _ h
theorem b01_X1_put {sp : Nat → TR} {i0 : Nat} {b1 : Int64} {b2 : Int64} {b3 : Int64} : (v_X1_put sp i0 b1 b2 b3).1 = 0 ∨ (v_X1_put sp i0 b1 b2 b3).1 = 1 := by
  unfold v_X1_put
  by_cases q1 : (v_X2_canBeTold b1) = 0
  · rw [if_pos q1]
    exact Or.inl rfl
  · rw [if_neg q1]
    by_cases q2 : (v_X2_canBeTold b2) = 0
    · rw [if_pos q2]
      exact Or.inl rfl
    · rw [if_neg q2]
      by_cases q3 : (v_X2_canBeTold b3) = 0
      · rw [if_pos q3]
        exact Or.inl rfl
      · rw [if_neg q3]
        exact Or.inr rfl
set_option maxHeartbeats 4000000 in
set_option maxRecDepth 100000 in
theorem c_X1_put (l : Launch) (g : GG) (N : Nat) (ad : Nat → Nat) (x : Nat → va_E) (sp dy : Nat → TR) (la kn re : Int32) (hN : 23 ≤ N) (i0 : Nat) (hi0 : i0 < 14) (b1 : Int64) (b2 : Int64) (b3 : Int64) : KI l yX1_put cX1_put 7 (some .boolean) (rm 1 0 0) g [.ref (ad (4 + i0)), .long b1, .long b2, .long b3] N ad (cf g ad x sp dy la kn re) N (fun r ad' f' => ad = ad' ∧ (v_X1_put sp i0 b1 b2 b3).1 = r ∧ (cf g ad x (v_X1_put sp i0 b1 b2 b3).2 dy la kn re) = f') := by
  intro sz
  refine mt_start (by decide) (Nat.le_of_ble_eq_true rfl) ?_
  intro p e s m args below meth c hsz X hr hnam hA hK hT H locs B ls hl
  obtain ⟨hx, hb, hml, hown, hts, hlocks⟩ := id X
  have hl : lv_has ls 7 [(0, .ref (ad (4 + i0))), (1, .long b1), (3, .long b2), (5, .long b3)] := hl
  refine lv_lload_n hx hb dX1_put_0 rfl (lv_at hl 1 rfl) ?_
  refine k_i (k := 0) (n := 0) hA B (u_SN (rest := []) X (c_X2_canBeTold l g N ad x sp dy la kn re hN b1 H.size) mw_X2_canBeTold md_X2_canBeTold rfl lk_X1_9 ⟨Nat.le_of_ble_eq_true rfl, Nat.le_of_ble_eq_true rfl⟩ hA hK hT B hl.1 rfl (Nat.le_of_ble_eq_true rfl) dX1_put_1 ⟨Nat.le_of_ble_eq_true rfl, Nat.le_of_ble_eq_true rfl⟩) (Nat.le_of_ble_eq_true rfl) (Nat.le_of_ble_eq_true rfl) (fun r ad' f' H locs hw B => ?_)
  obtain ⟨rfl, rfl, rfl⟩ := hw
  refine lv_if_eq (tgt := 22) hx hb dX1_put_4 (by decide) (fun c1 => ?_) (fun c1 => ?_)
  · refine lv_iconst (v := 0) hx hb dX1_put_22 (by decide) ?_
    have ev := (show v_X1_put sp i0 b1 b2 b3 = (0, sp) from by unfold v_X1_put; rw [if_pos c1])
    exact rt_i X hr (ad, (cf g ad x sp dy la kn re)) B (PO_of B) ⟨rfl, by rw [ev], by rw [ev]⟩ rfl (Nat.le_of_ble_eq_true rfl) (Nat.le_of_ble_eq_true rfl) dX1_put_23
  · refine lv_lload_n hx hb dX1_put_7 rfl (lv_at hl 2 rfl) ?_
    refine k_i (k := 0) (n := 0) hA B (u_SN (rest := []) X (c_X2_canBeTold l g N ad x sp dy la kn re hN b2 H.size) mw_X2_canBeTold md_X2_canBeTold rfl lk_X1_9 ⟨Nat.le_of_ble_eq_true rfl, Nat.le_of_ble_eq_true rfl⟩ hA hK hT B hl.1 rfl (Nat.le_of_ble_eq_true rfl) dX1_put_8 ⟨Nat.le_of_ble_eq_true rfl, Nat.le_of_ble_eq_true rfl⟩) (Nat.le_of_ble_eq_true rfl) (Nat.le_of_ble_eq_true rfl) (fun r ad' f' H locs hw B => ?_)
    obtain ⟨rfl, rfl, rfl⟩ := hw
    refine lv_if_eq (tgt := 22) hx hb dX1_put_11 (by decide) (fun c2 => ?_) (fun c2 => ?_)
    · refine lv_iconst (v := 0) hx hb dX1_put_22 (by decide) ?_
      have ev := (show v_X1_put sp i0 b1 b2 b3 = (0, sp) from by unfold v_X1_put; rw [if_neg c1, if_pos c2])
      exact rt_i X hr (ad, (cf g ad x sp dy la kn re)) B (PO_of B) ⟨rfl, by rw [ev], by rw [ev]⟩ rfl (Nat.le_of_ble_eq_true rfl) (Nat.le_of_ble_eq_true rfl) dX1_put_23
    · refine lv_lload hx hb dX1_put_14 (lv_at hl 3 rfl) ?_
      refine k_i (k := 0) (n := 0) hA B (u_SN (rest := []) X (c_X2_canBeTold l g N ad x sp dy la kn re hN b3 H.size) mw_X2_canBeTold md_X2_canBeTold rfl lk_X1_9 ⟨Nat.le_of_ble_eq_true rfl, Nat.le_of_ble_eq_true rfl⟩ hA hK hT B hl.1 rfl (Nat.le_of_ble_eq_true rfl) dX1_put_16 ⟨Nat.le_of_ble_eq_true rfl, Nat.le_of_ble_eq_true rfl⟩) (Nat.le_of_ble_eq_true rfl) (Nat.le_of_ble_eq_true rfl) (fun r ad' f' H locs hw B => ?_)
      obtain ⟨rfl, rfl, rfl⟩ := hw
      refine lv_if_ne (tgt := 24) hx hb dX1_put_19 (by decide) (fun c3 => ?_) (fun c3 => ?_)
      · refine lv_aload_n hx hb dX1_put_24 rfl (lv_at hl 0 rfl) ?_
        refine lv_lload_n hx hb dX1_put_25 rfl (lv_at hl 1 rfl) ?_
        refine lv_l2i (v := b1.toInt32) hx hb dX1_put_26 rfl ?_
        refine g_put (q := (4 + i0)) (k := 0) X hK B rfl in_X1 tyX1_ok nmX1 (pl_sp hN hi0) (cf_sp hi0) (by decide) lk_X1_13 rfl rfl rfl rfl rfl (Nat.le_of_ble_eq_true rfl) dX1_put_27 (fun H locs B => ?_)
        have B : WB g (aw N ad sz) s.heap N ad (cf g ad x (va_up sp i0 (b1.toInt32, (sp i0).2.1, (sp i0).2.2)) dy la kn re) H locs := by rw [← cf_up_sp hi0]; exact B
        refine lv_aload_n hx hb dX1_put_30 rfl (lv_at hl 0 rfl) ?_
        refine lv_lload_n hx hb dX1_put_31 rfl (lv_at hl 2 rfl) ?_
        refine lv_l2i (v := b2.toInt32) hx hb dX1_put_32 rfl ?_
        refine g_put (q := (4 + i0)) (k := 1) X hK B rfl in_X1 tyX1_ok nmX1 (pl_sp hN hi0) (cf_spU hi0) (by decide) lk_X1_19 rfl rfl rfl rfl rfl (Nat.le_of_ble_eq_true rfl) dX1_put_33 (fun H locs B => ?_)
        have B : WB g (aw N ad sz) s.heap N ad (cf g ad x (va_up sp i0 (b1.toInt32, b2.toInt32, (sp i0).2.2)) dy la kn re) H locs := by rw [← cf_up_spU hi0 (b1.toInt32, (sp i0).2.1, (sp i0).2.2)]; exact B
        refine lv_aload_n hx hb dX1_put_36 rfl (lv_at hl 0 rfl) ?_
        refine lv_lload hx hb dX1_put_37 (lv_at hl 3 rfl) ?_
        refine lv_l2i (v := b3.toInt32) hx hb dX1_put_39 rfl ?_
        refine g_put (q := (4 + i0)) (k := 2) X hK B rfl in_X1 tyX1_ok nmX1 (pl_sp hN hi0) (cf_spU hi0) (by decide) lk_X1_22 rfl rfl rfl rfl rfl (Nat.le_of_ble_eq_true rfl) dX1_put_40 (fun H locs B => ?_)
        have B : WB g (aw N ad sz) s.heap N ad (cf g ad x (va_up sp i0 (b1.toInt32, b2.toInt32, b3.toInt32)) dy la kn re) H locs := by rw [← cf_up_spU hi0 (b1.toInt32, b2.toInt32, (sp i0).2.2)]; exact B
        refine lv_iconst (v := 1) hx hb dX1_put_43 (by decide) ?_
        have ev := (show v_X1_put sp i0 b1 b2 b3 = (1, va_up sp i0 (b1.toInt32, b2.toInt32, b3.toInt32)) from by unfold v_X1_put; rw [if_neg c1, if_neg c2, if_neg c3])
        exact rt_i X hr (ad, (cf g ad x (va_up sp i0 (b1.toInt32, b2.toInt32, b3.toInt32)) dy la kn re)) B (PO_of B) ⟨rfl, by rw [ev], by rw [ev]⟩ rfl (Nat.le_of_ble_eq_true rfl) (Nat.le_of_ble_eq_true rfl) dX1_put_44
      · refine lv_iconst (v := 0) hx hb dX1_put_22 (by decide) ?_
        have ev := (show v_X1_put sp i0 b1 b2 b3 = (0, sp) from by unfold v_X1_put; rw [if_neg c1, if_neg c2, if_pos c3])
        exact rt_i X hr (ad, (cf g ad x sp dy la kn re)) B (PO_of B) ⟨rfl, by rw [ev], by rw [ev]⟩ rfl (Nat.le_of_ble_eq_true rfl) (Nat.le_of_ble_eq_true rfl) dX1_put_23
def v_X1_putSpan (sp : Nat → TR) (i0 : Nat) (i1 : Nat) : (Nat → TR) := va_up sp i0 ((sp i1).1, ((va_up sp i0 ((sp i1).1, (sp i0).2.1, (sp i0).2.2)) i1).2.1, ((va_up sp i0 ((sp i1).1, ((va_up sp i0 ((sp i1).1, (sp i0).2.1, (sp i0).2.2)) i1).2.1, (sp i0).2.2)) i1).2.2)
theorem kp_X1_putSpan_sp {sp : Nat → TR} {i0 : Nat} {i1 : Nat} {j : Nat} (h : j ≠ i0) : (v_X1_putSpan sp i0 i1) j = sp j := by
  unfold v_X1_putSpan
  exact va_up_ne _ _ h
set_option maxHeartbeats 4000000 in
set_option maxRecDepth 100000 in
theorem c_X1_putSpan (l : Launch) (g : GG) (N : Nat) (ad : Nat → Nat) (x : Nat → va_E) (sp dy : Nat → TR) (la kn re : Int32) (hN : 23 ≤ N) (i0 : Nat) (hi0 : i0 < 14) (i1 : Nat) (hi1 : i1 < 14) : KV l yX1_putSpan cX1_putSpan 2 (rm 0 0 0) g [.ref (ad (4 + i0)), .ref (ad (4 + i1))] N ad (cf g ad x sp dy la kn re) N (fun ad' f' => ad = ad' ∧ (cf g ad x (v_X1_putSpan sp i0 i1) dy la kn re) = f') := by
  intro sz
  refine mt_start (by decide) (Nat.le_of_ble_eq_true rfl) ?_
  intro p e s m args below meth c hsz X hr hnam hA hK hT H locs B ls hl
  obtain ⟨hx, hb, hml, hown, hts, hlocks⟩ := id X
  have hl : lv_has ls 2 [(0, .ref (ad (4 + i0))), (1, .ref (ad (4 + i1)))] := hl
  refine lv_aload_n hx hb dX1_putSpan_0 rfl (lv_at hl 0 rfl) ?_
  refine lv_aload_n hx hb dX1_putSpan_1 rfl (lv_at hl 1 rfl) ?_
  refine g_get (q := (4 + i1)) (k := 0) X hK B rfl in_X1 (pl_sp hN hi1) (cf_sp hi1) (by decide) lk_X1_13 rfl rfl dX1_putSpan_2 ?_
  refine g_put (q := (4 + i0)) (k := 0) X hK B rfl in_X1 tyX1_ok nmX1 (pl_sp hN hi0) (cf_sp hi0) (by decide) lk_X1_13 rfl rfl rfl rfl rfl (Nat.le_of_ble_eq_true rfl) dX1_putSpan_5 (fun H locs B => ?_)
  have B : WB g (aw N ad sz) s.heap N ad (cf g ad x (va_up sp i0 ((sp i1).1, (sp i0).2.1, (sp i0).2.2)) dy la kn re) H locs := by rw [← cf_up_sp hi0]; exact B
  refine lv_aload_n hx hb dX1_putSpan_8 rfl (lv_at hl 0 rfl) ?_
  refine lv_aload_n hx hb dX1_putSpan_9 rfl (lv_at hl 1 rfl) ?_
  refine g_get (q := (4 + i1)) (k := 1) X hK B rfl in_X1 (pl_sp hN hi1) (cf_sp hi1) (by decide) lk_X1_19 rfl rfl dX1_putSpan_10 ?_
  refine g_put (q := (4 + i0)) (k := 1) X hK B rfl in_X1 tyX1_ok nmX1 (pl_sp hN hi0) (cf_spU hi0) (by decide) lk_X1_19 rfl rfl rfl rfl rfl (Nat.le_of_ble_eq_true rfl) dX1_putSpan_13 (fun H locs B => ?_)
  have B : WB g (aw N ad sz) s.heap N ad (cf g ad x (va_up sp i0 ((sp i1).1, ((va_up sp i0 ((sp i1).1, (sp i0).2.1, (sp i0).2.2)) i1).2.1, (sp i0).2.2)) dy la kn re) H locs := by rw [← cf_up_spU hi0 ((sp i1).1, (sp i0).2.1, (sp i0).2.2)]; exact B
  refine lv_aload_n hx hb dX1_putSpan_16 rfl (lv_at hl 0 rfl) ?_
  refine lv_aload_n hx hb dX1_putSpan_17 rfl (lv_at hl 1 rfl) ?_
  refine g_get (q := (4 + i1)) (k := 2) X hK B rfl in_X1 (pl_sp hN hi1) (cf_sp hi1) (by decide) lk_X1_22 rfl rfl dX1_putSpan_18 ?_
  refine g_put (q := (4 + i0)) (k := 2) X hK B rfl in_X1 tyX1_ok nmX1 (pl_sp hN hi0) (cf_spU hi0) (by decide) lk_X1_22 rfl rfl rfl rfl rfl (Nat.le_of_ble_eq_true rfl) dX1_putSpan_21 (fun H locs B => ?_)
  have B : WB g (aw N ad sz) s.heap N ad (cf g ad x (va_up sp i0 ((sp i1).1, ((va_up sp i0 ((sp i1).1, (sp i0).2.1, (sp i0).2.2)) i1).2.1, ((va_up sp i0 ((sp i1).1, ((va_up sp i0 ((sp i1).1, (sp i0).2.1, (sp i0).2.2)) i1).2.1, (sp i0).2.2)) i1).2.2)) dy la kn re) H locs := by rw [← cf_up_spU hi0 ((sp i1).1, ((va_up sp i0 ((sp i1).1, (sp i0).2.1, (sp i0).2.2)) i1).2.1, (sp i0).2.2)]; exact B
  have ev := (show v_X1_putSpan sp i0 i1 = va_up sp i0 ((sp i1).1, ((va_up sp i0 ((sp i1).1, (sp i0).2.1, (sp i0).2.2)) i1).2.1, ((va_up sp i0 ((sp i1).1, ((va_up sp i0 ((sp i1).1, (sp i0).2.1, (sp i0).2.2)) i1).2.1, (sp i0).2.2)) i1).2.2) from rfl)
  exact rt_v X hr (ad, (cf g ad x (va_up sp i0 ((sp i1).1, ((va_up sp i0 ((sp i1).1, (sp i0).2.1, (sp i0).2.2)) i1).2.1, ((va_up sp i0 ((sp i1).1, ((va_up sp i0 ((sp i1).1, (sp i0).2.1, (sp i0).2.2)) i1).2.1, (sp i0).2.2)) i1).2.2)) dy la kn re)) B (PO_of B) ⟨rfl, by rw [ev]⟩ (Nat.le_of_ble_eq_true rfl) (Nat.le_of_ble_eq_true rfl) dX1_putSpan_24
def v_X1_allMonths (sp : Nat → TR) (i0 : Nat) : Int64 := (((sp i0).1.toInt64) * 12) + ((sp i0).2.1.toInt64)
set_option maxHeartbeats 4000000 in
set_option maxRecDepth 100000 in
theorem c_X1_allMonths (l : Launch) (g : GG) (N : Nat) (ad : Nat → Nat) (x : Nat → va_E) (sp dy : Nat → TR) (la kn re : Int32) (hN : 23 ≤ N) (i0 : Nat) (hi0 : i0 < 14) : KL l yX1_allMonths cX1_allMonths 1 (rm 0 0 0) g [.ref (ad (4 + i0))] N ad (cf g ad x sp dy la kn re) N (fun r ad' f' => ad = ad' ∧ (v_X1_allMonths sp i0) = r ∧ (cf g ad x sp dy la kn re) = f') := by
  intro sz
  refine mt_start (by decide) (Nat.le_of_ble_eq_true rfl) ?_
  intro p e s m args below meth c hsz X hr hnam hA hK hT H locs B ls hl
  obtain ⟨hx, hb, hml, hown, hts, hlocks⟩ := id X
  have hl : lv_has ls 1 [(0, .ref (ad (4 + i0)))] := hl
  refine lv_aload_n hx hb dX1_allMonths_0 rfl (lv_at hl 0 rfl) ?_
  refine g_get (q := (4 + i0)) (k := 0) X hK B rfl in_X1 (pl_sp hN hi0) (cf_sp hi0) (by decide) lk_X1_13 rfl rfl dX1_allMonths_1 ?_
  refine lv_i2l (v := (sp i0).1.toInt64) hx hb dX1_allMonths_4 rfl ?_
  refine lv_ldc2 hx hb hown (hts _ (List.mem_cons_of_mem _ lk_X1_39)) dX1_allMonths_5 ?_
  refine lv_lmul hx hb dX1_allMonths_8 ?_
  refine lv_aload_n hx hb dX1_allMonths_9 rfl (lv_at hl 0 rfl) ?_
  refine g_get (q := (4 + i0)) (k := 1) X hK B rfl in_X1 (pl_sp hN hi0) (cf_sp hi0) (by decide) lk_X1_19 rfl rfl dX1_allMonths_10 ?_
  refine lv_i2l (v := (sp i0).2.1.toInt64) hx hb dX1_allMonths_13 rfl ?_
  refine lv_ladd hx hb dX1_allMonths_14 ?_
  have ev := (show v_X1_allMonths sp i0 = (((sp i0).1.toInt64) * 12) + ((sp i0).2.1.toInt64) from rfl)
  exact rt_l X hr (ad, (cf g ad x sp dy la kn re)) B (PO_of B) ⟨rfl, by rw [ev], rfl⟩ (Nat.le_of_ble_eq_true rfl) (Nat.le_of_ble_eq_true rfl) dX1_allMonths_15
def v_X1_putSum (sp : Nat → TR) (i0 : Nat) (i1 : Nat) (i2 : Nat) : Int32 × (Nat → TR) := ((v_X1_put sp i0 (((sp i1).1.toInt64) + ((sp i2).1.toInt64)) (((sp i1).2.1.toInt64) + ((sp i2).2.1.toInt64)) (((sp i1).2.2.toInt64) + ((sp i2).2.2.toInt64))).1, (v_X1_put sp i0 (((sp i1).1.toInt64) + ((sp i2).1.toInt64)) (((sp i1).2.1.toInt64) + ((sp i2).2.1.toInt64)) (((sp i1).2.2.toInt64) + ((sp i2).2.2.toInt64))).2)
theorem kp_X1_putSum_sp {sp : Nat → TR} {i0 : Nat} {i1 : Nat} {i2 : Nat} {j : Nat} (h : j ≠ i0) : (v_X1_putSum sp i0 i1 i2).2 j = sp j := by
  unfold v_X1_putSum
  first | (dsimp only; exact kp_X1_put_sp h) | exact kp_X1_put_sp h
theorem b01_X1_putSum {sp : Nat → TR} {i0 : Nat} {i1 : Nat} {i2 : Nat} : (v_X1_putSum sp i0 i1 i2).1 = 0 ∨ (v_X1_putSum sp i0 i1 i2).1 = 1 := by
  unfold v_X1_putSum
  first | (dsimp only; exact b01_X1_put) | exact b01_X1_put
set_option maxHeartbeats 4000000 in
set_option maxRecDepth 100000 in
theorem c_X1_putSum (l : Launch) (g : GG) (N : Nat) (ad : Nat → Nat) (x : Nat → va_E) (sp dy : Nat → TR) (la kn re : Int32) (hN : 23 ≤ N) (i0 : Nat) (hi0 : i0 < 14) (i1 : Nat) (hi1 : i1 < 14) (i2 : Nat) (hi2 : i2 < 14) : KI l yX1_putSum cX1_putSum 3 (some .boolean) (rm 2 0 0) g [.ref (ad (4 + i0)), .ref (ad (4 + i1)), .ref (ad (4 + i2))] N ad (cf g ad x sp dy la kn re) N (fun r ad' f' => ad = ad' ∧ (v_X1_putSum sp i0 i1 i2).1 = r ∧ (cf g ad x (v_X1_putSum sp i0 i1 i2).2 dy la kn re) = f') := by
  intro sz
  refine mt_start (by decide) (Nat.le_of_ble_eq_true rfl) ?_
  intro p e s m args below meth c hsz X hr hnam hA hK hT H locs B ls hl
  obtain ⟨hx, hb, hml, hown, hts, hlocks⟩ := id X
  have hl : lv_has ls 3 [(0, .ref (ad (4 + i0))), (1, .ref (ad (4 + i1))), (2, .ref (ad (4 + i2)))] := hl
  refine lv_aload_n hx hb dX1_putSum_0 rfl (lv_at hl 0 rfl) ?_
  refine lv_aload_n hx hb dX1_putSum_1 rfl (lv_at hl 1 rfl) ?_
  refine g_get (q := (4 + i1)) (k := 0) X hK B rfl in_X1 (pl_sp hN hi1) (cf_sp hi1) (by decide) lk_X1_13 rfl rfl dX1_putSum_2 ?_
  refine lv_i2l (v := (sp i1).1.toInt64) hx hb dX1_putSum_5 rfl ?_
  refine lv_aload_n hx hb dX1_putSum_6 rfl (lv_at hl 2 rfl) ?_
  refine g_get (q := (4 + i2)) (k := 0) X hK B rfl in_X1 (pl_sp hN hi2) (cf_sp hi2) (by decide) lk_X1_13 rfl rfl dX1_putSum_7 ?_
  refine lv_i2l (v := (sp i2).1.toInt64) hx hb dX1_putSum_10 rfl ?_
  refine lv_ladd hx hb dX1_putSum_11 ?_
  refine lv_aload_n hx hb dX1_putSum_12 rfl (lv_at hl 1 rfl) ?_
  refine g_get (q := (4 + i1)) (k := 1) X hK B rfl in_X1 (pl_sp hN hi1) (cf_sp hi1) (by decide) lk_X1_19 rfl rfl dX1_putSum_13 ?_
  refine lv_i2l (v := (sp i1).2.1.toInt64) hx hb dX1_putSum_16 rfl ?_
  refine lv_aload_n hx hb dX1_putSum_17 rfl (lv_at hl 2 rfl) ?_
  refine g_get (q := (4 + i2)) (k := 1) X hK B rfl in_X1 (pl_sp hN hi2) (cf_sp hi2) (by decide) lk_X1_19 rfl rfl dX1_putSum_18 ?_
  refine lv_i2l (v := (sp i2).2.1.toInt64) hx hb dX1_putSum_21 rfl ?_
  refine lv_ladd hx hb dX1_putSum_22 ?_
  refine lv_aload_n hx hb dX1_putSum_23 rfl (lv_at hl 1 rfl) ?_
  refine g_get (q := (4 + i1)) (k := 2) X hK B rfl in_X1 (pl_sp hN hi1) (cf_sp hi1) (by decide) lk_X1_22 rfl rfl dX1_putSum_24 ?_
  refine lv_i2l (v := (sp i1).2.2.toInt64) hx hb dX1_putSum_27 rfl ?_
  refine lv_aload_n hx hb dX1_putSum_28 rfl (lv_at hl 2 rfl) ?_
  refine g_get (q := (4 + i2)) (k := 2) X hK B rfl in_X1 (pl_sp hN hi2) (cf_sp hi2) (by decide) lk_X1_22 rfl rfl dX1_putSum_29 ?_
  refine lv_i2l (v := (sp i2).2.2.toInt64) hx hb dX1_putSum_32 rfl ?_
  refine lv_ladd hx hb dX1_putSum_33 ?_
  refine k_i (k := 0) (n := 0) hA B (u_V (rest := []) X (c_X1_put l g N ad x sp dy la kn re hN i0 hi0 (((sp i1).1.toInt64) + ((sp i2).1.toInt64)) (((sp i1).2.1.toInt64) + ((sp i2).2.1.toInt64)) (((sp i1).2.2.toInt64) + ((sp i2).2.2.toInt64)) H.size) mw_X1_put md_X1_put rfl lk_X1_25 ⟨Nat.le_of_ble_eq_true rfl, Nat.le_of_ble_eq_true rfl⟩ hA hK hT B (pl_sp hN hi0) (cf_sp hi0) rfl rfl hl.1 rfl (Nat.le_of_ble_eq_true rfl) dX1_putSum_34 ⟨Nat.le_of_ble_eq_true rfl, Nat.le_of_ble_eq_true rfl⟩) (Nat.le_of_ble_eq_true rfl) (Nat.le_of_ble_eq_true rfl) (fun r ad' f' H locs hw B => ?_)
  obtain ⟨rfl, rfl, rfl⟩ := hw
  have ev := (show v_X1_putSum sp i0 i1 i2 = ((v_X1_put sp i0 (((sp i1).1.toInt64) + ((sp i2).1.toInt64)) (((sp i1).2.1.toInt64) + ((sp i2).2.1.toInt64)) (((sp i1).2.2.toInt64) + ((sp i2).2.2.toInt64))).1, (v_X1_put sp i0 (((sp i1).1.toInt64) + ((sp i2).1.toInt64)) (((sp i1).2.1.toInt64) + ((sp i2).2.1.toInt64)) (((sp i1).2.2.toInt64) + ((sp i2).2.2.toInt64))).2) from rfl)
  exact rt_i X hr (ad, (cf g ad x (v_X1_put sp i0 (((sp i1).1.toInt64) + ((sp i2).1.toInt64)) (((sp i1).2.1.toInt64) + ((sp i2).2.1.toInt64)) (((sp i1).2.2.toInt64) + ((sp i2).2.2.toInt64))).2 dy la kn re)) B (PO_of B) ⟨rfl, by rw [ev], by rw [ev]⟩ (nb_of b01_X1_put) (Nat.le_of_ble_eq_true rfl) (Nat.le_of_ble_eq_true rfl) dX1_putSum_37
def v_X1_putDifference (sp : Nat → TR) (i0 : Nat) (i1 : Nat) (i2 : Nat) : Int32 × (Nat → TR) := ((v_X1_put sp i0 (((sp i1).1.toInt64) - ((sp i2).1.toInt64)) (((sp i1).2.1.toInt64) - ((sp i2).2.1.toInt64)) (((sp i1).2.2.toInt64) - ((sp i2).2.2.toInt64))).1, (v_X1_put sp i0 (((sp i1).1.toInt64) - ((sp i2).1.toInt64)) (((sp i1).2.1.toInt64) - ((sp i2).2.1.toInt64)) (((sp i1).2.2.toInt64) - ((sp i2).2.2.toInt64))).2)
theorem kp_X1_putDifference_sp {sp : Nat → TR} {i0 : Nat} {i1 : Nat} {i2 : Nat} {j : Nat} (h : j ≠ i0) : (v_X1_putDifference sp i0 i1 i2).2 j = sp j := by
  unfold v_X1_putDifference
  first | (dsimp only; exact kp_X1_put_sp h) | exact kp_X1_put_sp h
theorem b01_X1_putDifference {sp : Nat → TR} {i0 : Nat} {i1 : Nat} {i2 : Nat} : (v_X1_putDifference sp i0 i1 i2).1 = 0 ∨ (v_X1_putDifference sp i0 i1 i2).1 = 1 := by
  unfold v_X1_putDifference
  first | (dsimp only; exact b01_X1_put) | exact b01_X1_put
set_option maxHeartbeats 4000000 in
set_option maxRecDepth 100000 in
theorem c_X1_putDifference (l : Launch) (g : GG) (N : Nat) (ad : Nat → Nat) (x : Nat → va_E) (sp dy : Nat → TR) (la kn re : Int32) (hN : 23 ≤ N) (i0 : Nat) (hi0 : i0 < 14) (i1 : Nat) (hi1 : i1 < 14) (i2 : Nat) (hi2 : i2 < 14) : KI l yX1_putDifference cX1_putDifference 3 (some .boolean) (rm 2 0 0) g [.ref (ad (4 + i0)), .ref (ad (4 + i1)), .ref (ad (4 + i2))] N ad (cf g ad x sp dy la kn re) N (fun r ad' f' => ad = ad' ∧ (v_X1_putDifference sp i0 i1 i2).1 = r ∧ (cf g ad x (v_X1_putDifference sp i0 i1 i2).2 dy la kn re) = f') := by
  intro sz
  refine mt_start (by decide) (Nat.le_of_ble_eq_true rfl) ?_
  intro p e s m args below meth c hsz X hr hnam hA hK hT H locs B ls hl
  obtain ⟨hx, hb, hml, hown, hts, hlocks⟩ := id X
  have hl : lv_has ls 3 [(0, .ref (ad (4 + i0))), (1, .ref (ad (4 + i1))), (2, .ref (ad (4 + i2)))] := hl
  refine lv_aload_n hx hb dX1_putDifference_0 rfl (lv_at hl 0 rfl) ?_
  refine lv_aload_n hx hb dX1_putDifference_1 rfl (lv_at hl 1 rfl) ?_
  refine g_get (q := (4 + i1)) (k := 0) X hK B rfl in_X1 (pl_sp hN hi1) (cf_sp hi1) (by decide) lk_X1_13 rfl rfl dX1_putDifference_2 ?_
  refine lv_i2l (v := (sp i1).1.toInt64) hx hb dX1_putDifference_5 rfl ?_
  refine lv_aload_n hx hb dX1_putDifference_6 rfl (lv_at hl 2 rfl) ?_
  refine g_get (q := (4 + i2)) (k := 0) X hK B rfl in_X1 (pl_sp hN hi2) (cf_sp hi2) (by decide) lk_X1_13 rfl rfl dX1_putDifference_7 ?_
  refine lv_i2l (v := (sp i2).1.toInt64) hx hb dX1_putDifference_10 rfl ?_
  refine lv_lsub hx hb dX1_putDifference_11 ?_
  refine lv_aload_n hx hb dX1_putDifference_12 rfl (lv_at hl 1 rfl) ?_
  refine g_get (q := (4 + i1)) (k := 1) X hK B rfl in_X1 (pl_sp hN hi1) (cf_sp hi1) (by decide) lk_X1_19 rfl rfl dX1_putDifference_13 ?_
  refine lv_i2l (v := (sp i1).2.1.toInt64) hx hb dX1_putDifference_16 rfl ?_
  refine lv_aload_n hx hb dX1_putDifference_17 rfl (lv_at hl 2 rfl) ?_
  refine g_get (q := (4 + i2)) (k := 1) X hK B rfl in_X1 (pl_sp hN hi2) (cf_sp hi2) (by decide) lk_X1_19 rfl rfl dX1_putDifference_18 ?_
  refine lv_i2l (v := (sp i2).2.1.toInt64) hx hb dX1_putDifference_21 rfl ?_
  refine lv_lsub hx hb dX1_putDifference_22 ?_
  refine lv_aload_n hx hb dX1_putDifference_23 rfl (lv_at hl 1 rfl) ?_
  refine g_get (q := (4 + i1)) (k := 2) X hK B rfl in_X1 (pl_sp hN hi1) (cf_sp hi1) (by decide) lk_X1_22 rfl rfl dX1_putDifference_24 ?_
  refine lv_i2l (v := (sp i1).2.2.toInt64) hx hb dX1_putDifference_27 rfl ?_
  refine lv_aload_n hx hb dX1_putDifference_28 rfl (lv_at hl 2 rfl) ?_
  refine g_get (q := (4 + i2)) (k := 2) X hK B rfl in_X1 (pl_sp hN hi2) (cf_sp hi2) (by decide) lk_X1_22 rfl rfl dX1_putDifference_29 ?_
  refine lv_i2l (v := (sp i2).2.2.toInt64) hx hb dX1_putDifference_32 rfl ?_
  refine lv_lsub hx hb dX1_putDifference_33 ?_
  refine k_i (k := 0) (n := 0) hA B (u_V (rest := []) X (c_X1_put l g N ad x sp dy la kn re hN i0 hi0 (((sp i1).1.toInt64) - ((sp i2).1.toInt64)) (((sp i1).2.1.toInt64) - ((sp i2).2.1.toInt64)) (((sp i1).2.2.toInt64) - ((sp i2).2.2.toInt64)) H.size) mw_X1_put md_X1_put rfl lk_X1_25 ⟨Nat.le_of_ble_eq_true rfl, Nat.le_of_ble_eq_true rfl⟩ hA hK hT B (pl_sp hN hi0) (cf_sp hi0) rfl rfl hl.1 rfl (Nat.le_of_ble_eq_true rfl) dX1_putDifference_34 ⟨Nat.le_of_ble_eq_true rfl, Nat.le_of_ble_eq_true rfl⟩) (Nat.le_of_ble_eq_true rfl) (Nat.le_of_ble_eq_true rfl) (fun r ad' f' H locs hw B => ?_)
  obtain ⟨rfl, rfl, rfl⟩ := hw
  have ev := (show v_X1_putDifference sp i0 i1 i2 = ((v_X1_put sp i0 (((sp i1).1.toInt64) - ((sp i2).1.toInt64)) (((sp i1).2.1.toInt64) - ((sp i2).2.1.toInt64)) (((sp i1).2.2.toInt64) - ((sp i2).2.2.toInt64))).1, (v_X1_put sp i0 (((sp i1).1.toInt64) - ((sp i2).1.toInt64)) (((sp i1).2.1.toInt64) - ((sp i2).2.1.toInt64)) (((sp i1).2.2.toInt64) - ((sp i2).2.2.toInt64))).2) from rfl)
  exact rt_i X hr (ad, (cf g ad x (v_X1_put sp i0 (((sp i1).1.toInt64) - ((sp i2).1.toInt64)) (((sp i1).2.1.toInt64) - ((sp i2).2.1.toInt64)) (((sp i1).2.2.toInt64) - ((sp i2).2.2.toInt64))).2 dy la kn re)) B (PO_of B) ⟨rfl, by rw [ev], by rw [ev]⟩ (nb_of b01_X1_put) (Nat.le_of_ble_eq_true rfl) (Nat.le_of_ble_eq_true rfl) dX1_putDifference_37
def v_X1_putTimes (sp : Nat → TR) (i0 : Nat) (i1 : Nat) (b2 : Int64) : Int32 × (Nat → TR) := ((v_X1_put sp i0 (b2 * ((sp i1).1.toInt64)) (b2 * ((sp i1).2.1.toInt64)) (b2 * ((sp i1).2.2.toInt64))).1, (v_X1_put sp i0 (b2 * ((sp i1).1.toInt64)) (b2 * ((sp i1).2.1.toInt64)) (b2 * ((sp i1).2.2.toInt64))).2)
theorem kp_X1_putTimes_sp {sp : Nat → TR} {i0 : Nat} {i1 : Nat} {b2 : Int64} {j : Nat} (h : j ≠ i0) : (v_X1_putTimes sp i0 i1 b2).2 j = sp j := by
  unfold v_X1_putTimes
  first | (dsimp only; exact kp_X1_put_sp h) | exact kp_X1_put_sp h
theorem b01_X1_putTimes {sp : Nat → TR} {i0 : Nat} {i1 : Nat} {b2 : Int64} : (v_X1_putTimes sp i0 i1 b2).1 = 0 ∨ (v_X1_putTimes sp i0 i1 b2).1 = 1 := by
  unfold v_X1_putTimes
  first | (dsimp only; exact b01_X1_put) | exact b01_X1_put
set_option maxHeartbeats 4000000 in
set_option maxRecDepth 100000 in
theorem c_X1_putTimes (l : Launch) (g : GG) (N : Nat) (ad : Nat → Nat) (x : Nat → va_E) (sp dy : Nat → TR) (la kn re : Int32) (hN : 23 ≤ N) (i0 : Nat) (hi0 : i0 < 14) (i1 : Nat) (hi1 : i1 < 14) (b2 : Int64) : KI l yX1_putTimes cX1_putTimes 4 (some .boolean) (rm 2 0 0) g [.ref (ad (4 + i0)), .ref (ad (4 + i1)), .long b2] N ad (cf g ad x sp dy la kn re) N (fun r ad' f' => ad = ad' ∧ (v_X1_putTimes sp i0 i1 b2).1 = r ∧ (cf g ad x (v_X1_putTimes sp i0 i1 b2).2 dy la kn re) = f') := by
  intro sz
  refine mt_start (by decide) (Nat.le_of_ble_eq_true rfl) ?_
  intro p e s m args below meth c hsz X hr hnam hA hK hT H locs B ls hl
  obtain ⟨hx, hb, hml, hown, hts, hlocks⟩ := id X
  have hl : lv_has ls 4 [(0, .ref (ad (4 + i0))), (1, .ref (ad (4 + i1))), (2, .long b2)] := hl
  refine lv_aload_n hx hb dX1_putTimes_0 rfl (lv_at hl 0 rfl) ?_
  refine lv_lload_n hx hb dX1_putTimes_1 rfl (lv_at hl 2 rfl) ?_
  refine lv_aload_n hx hb dX1_putTimes_2 rfl (lv_at hl 1 rfl) ?_
  refine g_get (q := (4 + i1)) (k := 0) X hK B rfl in_X1 (pl_sp hN hi1) (cf_sp hi1) (by decide) lk_X1_13 rfl rfl dX1_putTimes_3 ?_
  refine lv_i2l (v := (sp i1).1.toInt64) hx hb dX1_putTimes_6 rfl ?_
  refine lv_lmul hx hb dX1_putTimes_7 ?_
  refine lv_lload_n hx hb dX1_putTimes_8 rfl (lv_at hl 2 rfl) ?_
  refine lv_aload_n hx hb dX1_putTimes_9 rfl (lv_at hl 1 rfl) ?_
  refine g_get (q := (4 + i1)) (k := 1) X hK B rfl in_X1 (pl_sp hN hi1) (cf_sp hi1) (by decide) lk_X1_19 rfl rfl dX1_putTimes_10 ?_
  refine lv_i2l (v := (sp i1).2.1.toInt64) hx hb dX1_putTimes_13 rfl ?_
  refine lv_lmul hx hb dX1_putTimes_14 ?_
  refine lv_lload_n hx hb dX1_putTimes_15 rfl (lv_at hl 2 rfl) ?_
  refine lv_aload_n hx hb dX1_putTimes_16 rfl (lv_at hl 1 rfl) ?_
  refine g_get (q := (4 + i1)) (k := 2) X hK B rfl in_X1 (pl_sp hN hi1) (cf_sp hi1) (by decide) lk_X1_22 rfl rfl dX1_putTimes_17 ?_
  refine lv_i2l (v := (sp i1).2.2.toInt64) hx hb dX1_putTimes_20 rfl ?_
  refine lv_lmul hx hb dX1_putTimes_21 ?_
  refine k_i (k := 0) (n := 0) hA B (u_V (rest := []) X (c_X1_put l g N ad x sp dy la kn re hN i0 hi0 (b2 * ((sp i1).1.toInt64)) (b2 * ((sp i1).2.1.toInt64)) (b2 * ((sp i1).2.2.toInt64)) H.size) mw_X1_put md_X1_put rfl lk_X1_25 ⟨Nat.le_of_ble_eq_true rfl, Nat.le_of_ble_eq_true rfl⟩ hA hK hT B (pl_sp hN hi0) (cf_sp hi0) rfl rfl hl.1 rfl (Nat.le_of_ble_eq_true rfl) dX1_putTimes_22 ⟨Nat.le_of_ble_eq_true rfl, Nat.le_of_ble_eq_true rfl⟩) (Nat.le_of_ble_eq_true rfl) (Nat.le_of_ble_eq_true rfl) (fun r ad' f' H locs hw B => ?_)
  obtain ⟨rfl, rfl, rfl⟩ := hw
  have ev := (show v_X1_putTimes sp i0 i1 b2 = ((v_X1_put sp i0 (b2 * ((sp i1).1.toInt64)) (b2 * ((sp i1).2.1.toInt64)) (b2 * ((sp i1).2.2.toInt64))).1, (v_X1_put sp i0 (b2 * ((sp i1).1.toInt64)) (b2 * ((sp i1).2.1.toInt64)) (b2 * ((sp i1).2.2.toInt64))).2) from rfl)
  exact rt_i X hr (ad, (cf g ad x (v_X1_put sp i0 (b2 * ((sp i1).1.toInt64)) (b2 * ((sp i1).2.1.toInt64)) (b2 * ((sp i1).2.2.toInt64))).2 dy la kn re)) B (PO_of B) ⟨rfl, by rw [ev], by rw [ev]⟩ (nb_of b01_X1_put) (Nat.le_of_ble_eq_true rfl) (Nat.le_of_ble_eq_true rfl) dX1_putTimes_25
def v_X1_putOpposite (sp : Nat → TR) (i0 : Nat) (i1 : Nat) : Int32 × (Nat → TR) := ((v_X1_putTimes sp i0 i1 (-1)).1, (v_X1_putTimes sp i0 i1 (-1)).2)
theorem kp_X1_putOpposite_sp {sp : Nat → TR} {i0 : Nat} {i1 : Nat} {j : Nat} (h : j ≠ i0) : (v_X1_putOpposite sp i0 i1).2 j = sp j := by
  unfold v_X1_putOpposite
  first | (dsimp only; exact kp_X1_putTimes_sp h) | exact kp_X1_putTimes_sp h
theorem b01_X1_putOpposite {sp : Nat → TR} {i0 : Nat} {i1 : Nat} : (v_X1_putOpposite sp i0 i1).1 = 0 ∨ (v_X1_putOpposite sp i0 i1).1 = 1 := by
  unfold v_X1_putOpposite
  first | (dsimp only; exact b01_X1_putTimes) | exact b01_X1_putTimes
set_option maxHeartbeats 4000000 in
set_option maxRecDepth 100000 in
theorem c_X1_putOpposite (l : Launch) (g : GG) (N : Nat) (ad : Nat → Nat) (x : Nat → va_E) (sp dy : Nat → TR) (la kn re : Int32) (hN : 23 ≤ N) (i0 : Nat) (hi0 : i0 < 14) (i1 : Nat) (hi1 : i1 < 14) : KI l yX1_putOpposite cX1_putOpposite 2 (some .boolean) (rm 3 0 0) g [.ref (ad (4 + i0)), .ref (ad (4 + i1))] N ad (cf g ad x sp dy la kn re) N (fun r ad' f' => ad = ad' ∧ (v_X1_putOpposite sp i0 i1).1 = r ∧ (cf g ad x (v_X1_putOpposite sp i0 i1).2 dy la kn re) = f') := by
  intro sz
  refine mt_start (by decide) (Nat.le_of_ble_eq_true rfl) ?_
  intro p e s m args below meth c hsz X hr hnam hA hK hT H locs B ls hl
  obtain ⟨hx, hb, hml, hown, hts, hlocks⟩ := id X
  have hl : lv_has ls 2 [(0, .ref (ad (4 + i0))), (1, .ref (ad (4 + i1)))] := hl
  refine lv_aload_n hx hb dX1_putOpposite_0 rfl (lv_at hl 0 rfl) ?_
  refine lv_aload_n hx hb dX1_putOpposite_1 rfl (lv_at hl 1 rfl) ?_
  refine lv_ldc2 hx hb hown (hts _ (List.mem_cons_of_mem _ lk_X1_29)) dX1_putOpposite_2 ?_
  refine k_i (k := 0) (n := 0) hA B (u_V (rest := []) X (c_X1_putTimes l g N ad x sp dy la kn re hN i0 hi0 i1 hi1 (-1) H.size) mw_X1_putTimes md_X1_putTimes rfl lk_X1_31 ⟨Nat.le_of_ble_eq_true rfl, Nat.le_of_ble_eq_true rfl⟩ hA hK hT B (pl_sp hN hi0) (cf_sp hi0) rfl rfl hl.1 rfl (Nat.le_of_ble_eq_true rfl) dX1_putOpposite_5 ⟨Nat.le_of_ble_eq_true rfl, Nat.le_of_ble_eq_true rfl⟩) (Nat.le_of_ble_eq_true rfl) (Nat.le_of_ble_eq_true rfl) (fun r ad' f' H locs hw B => ?_)
  obtain ⟨rfl, rfl, rfl⟩ := hw
  have ev := (show v_X1_putOpposite sp i0 i1 = ((v_X1_putTimes sp i0 i1 (-1)).1, (v_X1_putTimes sp i0 i1 (-1)).2) from rfl)
  exact rt_i X hr (ad, (cf g ad x (v_X1_putTimes sp i0 i1 (-1)).2 dy la kn re)) B (PO_of B) ⟨rfl, by rw [ev], by rw [ev]⟩ (nb_of b01_X1_putTimes) (Nat.le_of_ble_eq_true rfl) (Nat.le_of_ble_eq_true rfl) dX1_putOpposite_8
def v_X1_putTidy (sp : Nat → TR) (i0 : Nat) (i1 : Nat) : Int32 × (Nat → TR) := ((v_X1_put sp i0 ((v_X1_allMonths sp i1) / 12) ((v_X1_allMonths sp i1) - (v_X1_allMonths sp i1) / 12 * 12) ((sp i1).2.2.toInt64)).1, (v_X1_put sp i0 ((v_X1_allMonths sp i1) / 12) ((v_X1_allMonths sp i1) - (v_X1_allMonths sp i1) / 12 * 12) ((sp i1).2.2.toInt64)).2)
theorem kp_X1_putTidy_sp {sp : Nat → TR} {i0 : Nat} {i1 : Nat} {j : Nat} (h : j ≠ i0) : (v_X1_putTidy sp i0 i1).2 j = sp j := by
  unfold v_X1_putTidy
  first | (dsimp only; exact kp_X1_put_sp h) | exact kp_X1_put_sp h
theorem b01_X1_putTidy {sp : Nat → TR} {i0 : Nat} {i1 : Nat} : (v_X1_putTidy sp i0 i1).1 = 0 ∨ (v_X1_putTidy sp i0 i1).1 = 1 := by
  unfold v_X1_putTidy
  first | (dsimp only; exact b01_X1_put) | exact b01_X1_put
set_option maxHeartbeats 4000000 in
set_option maxRecDepth 100000 in
theorem c_X1_putTidy (l : Launch) (g : GG) (N : Nat) (ad : Nat → Nat) (x : Nat → va_E) (sp dy : Nat → TR) (la kn re : Int32) (hN : 23 ≤ N) (i0 : Nat) (hi0 : i0 < 14) (i1 : Nat) (hi1 : i1 < 14) : KI l yX1_putTidy cX1_putTidy 4 (some .boolean) (rm 2 0 0) g [.ref (ad (4 + i0)), .ref (ad (4 + i1))] N ad (cf g ad x sp dy la kn re) N (fun r ad' f' => ad = ad' ∧ (v_X1_putTidy sp i0 i1).1 = r ∧ (cf g ad x (v_X1_putTidy sp i0 i1).2 dy la kn re) = f') := by
  intro sz
  refine mt_start (by decide) (Nat.le_of_ble_eq_true rfl) ?_
  intro p e s m args below meth c hsz X hr hnam hA hK hT H locs B ls hl
  obtain ⟨hx, hb, hml, hown, hts, hlocks⟩ := id X
  have hl : lv_has ls 4 [(0, .ref (ad (4 + i0))), (1, .ref (ad (4 + i1)))] := hl
  refine lv_aload_n hx hb dX1_putTidy_0 rfl (lv_at hl 1 rfl) ?_
  refine k_l (k := 0) (n := 0) hA B (u_V (rest := []) X (c_X1_allMonths l g N ad x sp dy la kn re hN i1 hi1 H.size) mw_X1_allMonths md_X1_allMonths rfl lk_X1_35 ⟨Nat.le_of_ble_eq_true rfl, Nat.le_of_ble_eq_true rfl⟩ hA hK hT B (pl_sp hN hi1) (cf_sp hi1) rfl rfl hl.1 rfl (Nat.le_of_ble_eq_true rfl) dX1_putTidy_1 ⟨Nat.le_of_ble_eq_true rfl, Nat.le_of_ble_eq_true rfl⟩) (Nat.le_of_ble_eq_true rfl) (Nat.le_of_ble_eq_true rfl) (fun r ad' f' H locs hw B => ?_)
  obtain ⟨rfl, rfl, rfl⟩ := hw
  refine lv_lstore_n (lv' := [(2, .long (v_X1_allMonths sp i1)), (0, .ref (ad (4 + i0))), (1, .ref (ad (4 + i1)))]) hx hb dX1_putTidy_4 rfl hl (by decide) rfl (fun ls hl => ?_)
  refine lv_aload_n hx hb dX1_putTidy_5 rfl (lv_at hl 1 rfl) ?_
  refine lv_lload_n hx hb dX1_putTidy_6 rfl (lv_at hl 0 rfl) ?_
  refine lv_ldc2 hx hb hown (hts _ (List.mem_cons_of_mem _ lk_X1_39)) dX1_putTidy_7 ?_
  refine lv_ldiv hx hb dX1_putTidy_10 (by decide) ?_
  refine lv_lload_n hx hb dX1_putTidy_11 rfl (lv_at hl 0 rfl) ?_
  refine lv_ldc2 hx hb hown (hts _ (List.mem_cons_of_mem _ lk_X1_39)) dX1_putTidy_12 ?_
  refine lv_lrem hx hb dX1_putTidy_15 (by decide) ?_
  refine lv_aload_n hx hb dX1_putTidy_16 rfl (lv_at hl 2 rfl) ?_
  refine g_get (q := (4 + i1)) (k := 2) X hK B rfl in_X1 (pl_sp hN hi1) (cf_sp hi1) (by decide) lk_X1_22 rfl rfl dX1_putTidy_17 ?_
  refine lv_i2l (v := (sp i1).2.2.toInt64) hx hb dX1_putTidy_20 rfl ?_
  refine k_i (k := 0) (n := 0) hA B (u_V (rest := []) X (c_X1_put l g N ad x sp dy la kn re hN i0 hi0 ((v_X1_allMonths sp i1) / 12) ((v_X1_allMonths sp i1) - (v_X1_allMonths sp i1) / 12 * 12) ((sp i1).2.2.toInt64) H.size) mw_X1_put md_X1_put rfl lk_X1_25 ⟨Nat.le_of_ble_eq_true rfl, Nat.le_of_ble_eq_true rfl⟩ hA hK hT B (pl_sp hN hi0) (cf_sp hi0) rfl rfl hl.1 rfl (Nat.le_of_ble_eq_true rfl) dX1_putTidy_21 ⟨Nat.le_of_ble_eq_true rfl, Nat.le_of_ble_eq_true rfl⟩) (Nat.le_of_ble_eq_true rfl) (Nat.le_of_ble_eq_true rfl) (fun r ad' f' H locs hw B => ?_)
  obtain ⟨rfl, rfl, rfl⟩ := hw
  have ev := (show v_X1_putTidy sp i0 i1 = ((v_X1_put sp i0 ((v_X1_allMonths sp i1) / 12) ((v_X1_allMonths sp i1) - (v_X1_allMonths sp i1) / 12 * 12) ((sp i1).2.2.toInt64)).1, (v_X1_put sp i0 ((v_X1_allMonths sp i1) / 12) ((v_X1_allMonths sp i1) - (v_X1_allMonths sp i1) / 12 * 12) ((sp i1).2.2.toInt64)).2) from rfl)
  exact rt_i X hr (ad, (cf g ad x (v_X1_put sp i0 ((v_X1_allMonths sp i1) / 12) ((v_X1_allMonths sp i1) - (v_X1_allMonths sp i1) / 12 * 12) ((sp i1).2.2.toInt64)).2 dy la kn re)) B (PO_of B) ⟨rfl, by rw [ev], by rw [ev]⟩ (nb_of b01_X1_put) (Nat.le_of_ble_eq_true rfl) (Nat.le_of_ble_eq_true rfl) dX1_putTidy_24
def v_X1_number (sp : Nat → TR) (i0 : Nat) (a1 : Int32) : Int32 := if a1 = 0 then (sp i0).1 else (if a1 = 1 then (sp i0).2.1 else (sp i0).2.2)
set_option maxHeartbeats 4000000 in
set_option maxRecDepth 100000 in
theorem c_X1_number (l : Launch) (g : GG) (N : Nat) (ad : Nat → Nat) (x : Nat → va_E) (sp dy : Nat → TR) (la kn re : Int32) (hN : 23 ≤ N) (i0 : Nat) (hi0 : i0 < 14) (a1 : Int32) : KI l yX1_number cX1_number 2 (some .int) (rm 0 0 0) g [.ref (ad (4 + i0)), .int a1] N ad (cf g ad x sp dy la kn re) N (fun r ad' f' => ad = ad' ∧ (v_X1_number sp i0 a1) = r ∧ (cf g ad x sp dy la kn re) = f') := by
  intro sz
  refine mt_start (by decide) (Nat.le_of_ble_eq_true rfl) ?_
  intro p e s m args below meth c hsz X hr hnam hA hK hT H locs B ls hl
  obtain ⟨hx, hb, hml, hown, hts, hlocks⟩ := id X
  have hl : lv_has ls 2 [(0, .ref (ad (4 + i0))), (1, .int a1)] := hl
  refine lv_iload_n hx hb dX1_number_0 rfl (lv_at hl 1 rfl) ?_
  refine lv_if_ne (tgt := 11) hx hb dX1_number_1 (by decide) (fun c1 => ?_) (fun c1 => ?_)
  · refine lv_iload_n hx hb dX1_number_11 rfl (lv_at hl 1 rfl) ?_
    refine lv_iconst (v := 1) hx hb dX1_number_12 (by decide) ?_
    refine lv_icmp_ne (tgt := 23) hx hb dX1_number_13 (by decide) (fun c2 => ?_) (fun c2 => ?_)
    · refine lv_aload_n hx hb dX1_number_23 rfl (lv_at hl 0 rfl) ?_
      refine g_get (q := (4 + i0)) (k := 2) X hK B rfl in_X1 (pl_sp hN hi0) (cf_sp hi0) (by decide) lk_X1_22 rfl rfl dX1_number_24 ?_
      have ev := (show v_X1_number sp i0 a1 = (sp i0).2.2 from by unfold v_X1_number; rw [if_neg c1, if_neg c2])
      exact rt_i X hr (ad, (cf g ad x sp dy la kn re)) B (PO_of B) ⟨rfl, by rw [ev], rfl⟩ rfl (Nat.le_of_ble_eq_true rfl) (Nat.le_of_ble_eq_true rfl) dX1_number_27
    · refine lv_aload_n hx hb dX1_number_16 rfl (lv_at hl 0 rfl) ?_
      refine g_get (q := (4 + i0)) (k := 1) X hK B rfl in_X1 (pl_sp hN hi0) (cf_sp hi0) (by decide) lk_X1_19 rfl rfl dX1_number_17 ?_
      refine lv_goto (tgt := 27) hx hb dX1_number_20 (by decide) ?_
      have ev := (show v_X1_number sp i0 a1 = (sp i0).2.1 from by unfold v_X1_number; rw [if_neg c1, if_pos c2])
      exact rt_i X hr (ad, (cf g ad x sp dy la kn re)) B (PO_of B) ⟨rfl, by rw [ev], rfl⟩ rfl (Nat.le_of_ble_eq_true rfl) (Nat.le_of_ble_eq_true rfl) dX1_number_27
  · refine lv_aload_n hx hb dX1_number_4 rfl (lv_at hl 0 rfl) ?_
    refine g_get (q := (4 + i0)) (k := 0) X hK B rfl in_X1 (pl_sp hN hi0) (cf_sp hi0) (by decide) lk_X1_13 rfl rfl dX1_number_5 ?_
    refine lv_goto (tgt := 27) hx hb dX1_number_8 (by decide) ?_
    have ev := (show v_X1_number sp i0 a1 = (sp i0).1 from by unfold v_X1_number; rw [if_pos c1])
    exact rt_i X hr (ad, (cf g ad x sp dy la kn re)) B (PO_of B) ⟨rfl, by rw [ev], rfl⟩ rfl (Nat.le_of_ble_eq_true rfl) (Nat.le_of_ble_eq_true rfl) dX1_number_27
def v_X1_isNothing (sp : Nat → TR) (i0 : Nat) : Int32 := if (sp i0).1 = 0 then (if (sp i0).2.1 = 0 then (if (sp i0).2.2 = 0 then 1 else 0) else 0) else 0
theorem b01_X1_isNothing {sp : Nat → TR} {i0 : Nat} : (v_X1_isNothing sp i0) = 0 ∨ (v_X1_isNothing sp i0) = 1 := by
  unfold v_X1_isNothing
  by_cases q1 : (sp i0).1 = 0
  · rw [if_pos q1]
    by_cases q2 : (sp i0).2.1 = 0
    · rw [if_pos q2]
      by_cases q3 : (sp i0).2.2 = 0
      · rw [if_pos q3]
        exact Or.inr rfl
      · rw [if_neg q3]
        exact Or.inl rfl
    · rw [if_neg q2]
      exact Or.inl rfl
  · rw [if_neg q1]
    exact Or.inl rfl
set_option maxHeartbeats 4000000 in
set_option maxRecDepth 100000 in
theorem c_X1_isNothing (l : Launch) (g : GG) (N : Nat) (ad : Nat → Nat) (x : Nat → va_E) (sp dy : Nat → TR) (la kn re : Int32) (hN : 23 ≤ N) (i0 : Nat) (hi0 : i0 < 14) : KI l yX1_isNothing cX1_isNothing 1 (some .boolean) (rm 0 0 0) g [.ref (ad (4 + i0))] N ad (cf g ad x sp dy la kn re) N (fun r ad' f' => ad = ad' ∧ (v_X1_isNothing sp i0) = r ∧ (cf g ad x sp dy la kn re) = f') := by
  intro sz
  refine mt_start (by decide) (Nat.le_of_ble_eq_true rfl) ?_
  intro p e s m args below meth c hsz X hr hnam hA hK hT H locs B ls hl
  obtain ⟨hx, hb, hml, hown, hts, hlocks⟩ := id X
  have hl : lv_has ls 1 [(0, .ref (ad (4 + i0)))] := hl
  refine lv_aload_n hx hb dX1_isNothing_0 rfl (lv_at hl 0 rfl) ?_
  refine g_get (q := (4 + i0)) (k := 0) X hK B rfl in_X1 (pl_sp hN hi0) (cf_sp hi0) (by decide) lk_X1_13 rfl rfl dX1_isNothing_1 ?_
  refine lv_if_ne (tgt := 25) hx hb dX1_isNothing_4 (by decide) (fun c1 => ?_) (fun c1 => ?_)
  · refine lv_iconst (v := 0) hx hb dX1_isNothing_25 (by decide) ?_
    have ev := (show v_X1_isNothing sp i0 = 0 from by unfold v_X1_isNothing; rw [if_neg c1])
    exact rt_i X hr (ad, (cf g ad x sp dy la kn re)) B (PO_of B) ⟨rfl, by rw [ev], rfl⟩ rfl (Nat.le_of_ble_eq_true rfl) (Nat.le_of_ble_eq_true rfl) dX1_isNothing_26
  · refine lv_aload_n hx hb dX1_isNothing_7 rfl (lv_at hl 0 rfl) ?_
    refine g_get (q := (4 + i0)) (k := 1) X hK B rfl in_X1 (pl_sp hN hi0) (cf_sp hi0) (by decide) lk_X1_19 rfl rfl dX1_isNothing_8 ?_
    refine lv_if_ne (tgt := 25) hx hb dX1_isNothing_11 (by decide) (fun c2 => ?_) (fun c2 => ?_)
    · refine lv_iconst (v := 0) hx hb dX1_isNothing_25 (by decide) ?_
      have ev := (show v_X1_isNothing sp i0 = 0 from by unfold v_X1_isNothing; rw [if_pos c1, if_neg c2])
      exact rt_i X hr (ad, (cf g ad x sp dy la kn re)) B (PO_of B) ⟨rfl, by rw [ev], rfl⟩ rfl (Nat.le_of_ble_eq_true rfl) (Nat.le_of_ble_eq_true rfl) dX1_isNothing_26
    · refine lv_aload_n hx hb dX1_isNothing_14 rfl (lv_at hl 0 rfl) ?_
      refine g_get (q := (4 + i0)) (k := 2) X hK B rfl in_X1 (pl_sp hN hi0) (cf_sp hi0) (by decide) lk_X1_22 rfl rfl dX1_isNothing_15 ?_
      refine lv_if_ne (tgt := 25) hx hb dX1_isNothing_18 (by decide) (fun c3 => ?_) (fun c3 => ?_)
      · refine lv_iconst (v := 0) hx hb dX1_isNothing_25 (by decide) ?_
        have ev := (show v_X1_isNothing sp i0 = 0 from by unfold v_X1_isNothing; rw [if_pos c1, if_pos c2, if_neg c3])
        exact rt_i X hr (ad, (cf g ad x sp dy la kn re)) B (PO_of B) ⟨rfl, by rw [ev], rfl⟩ rfl (Nat.le_of_ble_eq_true rfl) (Nat.le_of_ble_eq_true rfl) dX1_isNothing_26
      · refine lv_iconst (v := 1) hx hb dX1_isNothing_21 (by decide) ?_
        refine lv_goto (tgt := 26) hx hb dX1_isNothing_22 (by decide) ?_
        have ev := (show v_X1_isNothing sp i0 = 1 from by unfold v_X1_isNothing; rw [if_pos c1, if_pos c2, if_pos c3])
        exact rt_i X hr (ad, (cf g ad x sp dy la kn re)) B (PO_of B) ⟨rfl, by rw [ev], rfl⟩ rfl (Nat.le_of_ble_eq_true rfl) (Nat.le_of_ble_eq_true rfl) dX1_isNothing_26
def v_X1_isBelowZero (sp : Nat → TR) (i0 : Nat) : Int32 := if (sp i0).1 < 0 then 1 else (if (sp i0).2.1 < 0 then 1 else (if 0 ≤ (sp i0).2.2 then 0 else 1))
theorem b01_X1_isBelowZero {sp : Nat → TR} {i0 : Nat} : (v_X1_isBelowZero sp i0) = 0 ∨ (v_X1_isBelowZero sp i0) = 1 := by
  unfold v_X1_isBelowZero
  by_cases q1 : (sp i0).1 < 0
  · rw [if_pos q1]
    exact Or.inr rfl
  · rw [if_neg q1]
    by_cases q2 : (sp i0).2.1 < 0
    · rw [if_pos q2]
      exact Or.inr rfl
    · rw [if_neg q2]
      by_cases q3 : 0 ≤ (sp i0).2.2
      · rw [if_pos q3]
        exact Or.inl rfl
      · rw [if_neg q3]
        exact Or.inr rfl
set_option maxHeartbeats 4000000 in
set_option maxRecDepth 100000 in
theorem c_X1_isBelowZero (l : Launch) (g : GG) (N : Nat) (ad : Nat → Nat) (x : Nat → va_E) (sp dy : Nat → TR) (la kn re : Int32) (hN : 23 ≤ N) (i0 : Nat) (hi0 : i0 < 14) : KI l yX1_isBelowZero cX1_isBelowZero 1 (some .boolean) (rm 0 0 0) g [.ref (ad (4 + i0))] N ad (cf g ad x sp dy la kn re) N (fun r ad' f' => ad = ad' ∧ (v_X1_isBelowZero sp i0) = r ∧ (cf g ad x sp dy la kn re) = f') := by
  intro sz
  refine mt_start (by decide) (Nat.le_of_ble_eq_true rfl) ?_
  intro p e s m args below meth c hsz X hr hnam hA hK hT H locs B ls hl
  obtain ⟨hx, hb, hml, hown, hts, hlocks⟩ := id X
  have hl : lv_has ls 1 [(0, .ref (ad (4 + i0)))] := hl
  refine lv_aload_n hx hb dX1_isBelowZero_0 rfl (lv_at hl 0 rfl) ?_
  refine g_get (q := (4 + i0)) (k := 0) X hK B rfl in_X1 (pl_sp hN hi0) (cf_sp hi0) (by decide) lk_X1_13 rfl rfl dX1_isBelowZero_1 ?_
  refine lv_if_lt (tgt := 21) hx hb dX1_isBelowZero_4 (by decide) (fun c1 => ?_) (fun c1 => ?_)
  · refine lv_iconst (v := 1) hx hb dX1_isBelowZero_21 (by decide) ?_
    refine lv_goto (tgt := 26) hx hb dX1_isBelowZero_22 (by decide) ?_
    have ev := (show v_X1_isBelowZero sp i0 = 1 from by unfold v_X1_isBelowZero; rw [if_pos c1])
    exact rt_i X hr (ad, (cf g ad x sp dy la kn re)) B (PO_of B) ⟨rfl, by rw [ev], rfl⟩ rfl (Nat.le_of_ble_eq_true rfl) (Nat.le_of_ble_eq_true rfl) dX1_isBelowZero_26
  · refine lv_aload_n hx hb dX1_isBelowZero_7 rfl (lv_at hl 0 rfl) ?_
    refine g_get (q := (4 + i0)) (k := 1) X hK B rfl in_X1 (pl_sp hN hi0) (cf_sp hi0) (by decide) lk_X1_19 rfl rfl dX1_isBelowZero_8 ?_
    refine lv_if_lt (tgt := 21) hx hb dX1_isBelowZero_11 (by decide) (fun c2 => ?_) (fun c2 => ?_)
    · refine lv_iconst (v := 1) hx hb dX1_isBelowZero_21 (by decide) ?_
      refine lv_goto (tgt := 26) hx hb dX1_isBelowZero_22 (by decide) ?_
      have ev := (show v_X1_isBelowZero sp i0 = 1 from by unfold v_X1_isBelowZero; rw [if_neg c1, if_pos c2])
      exact rt_i X hr (ad, (cf g ad x sp dy la kn re)) B (PO_of B) ⟨rfl, by rw [ev], rfl⟩ rfl (Nat.le_of_ble_eq_true rfl) (Nat.le_of_ble_eq_true rfl) dX1_isBelowZero_26
    · refine lv_aload_n hx hb dX1_isBelowZero_14 rfl (lv_at hl 0 rfl) ?_
      refine g_get (q := (4 + i0)) (k := 2) X hK B rfl in_X1 (pl_sp hN hi0) (cf_sp hi0) (by decide) lk_X1_22 rfl rfl dX1_isBelowZero_15 ?_
      refine lv_if_ge (tgt := 25) hx hb dX1_isBelowZero_18 (by decide) (fun c3 => ?_) (fun c3 => ?_)
      · refine lv_iconst (v := 0) hx hb dX1_isBelowZero_25 (by decide) ?_
        have ev := (show v_X1_isBelowZero sp i0 = 0 from by unfold v_X1_isBelowZero; rw [if_neg c1, if_neg c2, if_pos c3])
        exact rt_i X hr (ad, (cf g ad x sp dy la kn re)) B (PO_of B) ⟨rfl, by rw [ev], rfl⟩ rfl (Nat.le_of_ble_eq_true rfl) (Nat.le_of_ble_eq_true rfl) dX1_isBelowZero_26
      · refine lv_iconst (v := 1) hx hb dX1_isBelowZero_21 (by decide) ?_
        refine lv_goto (tgt := 26) hx hb dX1_isBelowZero_22 (by decide) ?_
        have ev := (show v_X1_isBelowZero sp i0 = 1 from by unfold v_X1_isBelowZero; rw [if_neg c1, if_neg c2, if_neg c3])
        exact rt_i X hr (ad, (cf g ad x sp dy la kn re)) B (PO_of B) ⟨rfl, by rw [ev], rfl⟩ rfl (Nat.le_of_ble_eq_true rfl) (Nat.le_of_ble_eq_true rfl) dX1_isBelowZero_26
def v_X1_isSameAs (sp : Nat → TR) (i0 : Nat) (i1 : Nat) : Int32 := if (sp i0).1 = (sp i1).1 then (if (sp i0).2.1 = (sp i1).2.1 then (if (sp i0).2.2 = (sp i1).2.2 then 1 else 0) else 0) else 0
theorem b01_X1_isSameAs {sp : Nat → TR} {i0 : Nat} {i1 : Nat} : (v_X1_isSameAs sp i0 i1) = 0 ∨ (v_X1_isSameAs sp i0 i1) = 1 := by
  unfold v_X1_isSameAs
  by_cases q1 : (sp i0).1 = (sp i1).1
  · rw [if_pos q1]
    by_cases q2 : (sp i0).2.1 = (sp i1).2.1
    · rw [if_pos q2]
      by_cases q3 : (sp i0).2.2 = (sp i1).2.2
      · rw [if_pos q3]
        exact Or.inr rfl
      · rw [if_neg q3]
        exact Or.inl rfl
    · rw [if_neg q2]
      exact Or.inl rfl
  · rw [if_neg q1]
    exact Or.inl rfl
set_option maxHeartbeats 4000000 in
set_option maxRecDepth 100000 in
theorem c_X1_isSameAs (l : Launch) (g : GG) (N : Nat) (ad : Nat → Nat) (x : Nat → va_E) (sp dy : Nat → TR) (la kn re : Int32) (hN : 23 ≤ N) (i0 : Nat) (hi0 : i0 < 14) (i1 : Nat) (hi1 : i1 < 14) : KI l yX1_isSameAs cX1_isSameAs 2 (some .boolean) (rm 0 0 0) g [.ref (ad (4 + i0)), .ref (ad (4 + i1))] N ad (cf g ad x sp dy la kn re) N (fun r ad' f' => ad = ad' ∧ (v_X1_isSameAs sp i0 i1) = r ∧ (cf g ad x sp dy la kn re) = f') := by
  intro sz
  refine mt_start (by decide) (Nat.le_of_ble_eq_true rfl) ?_
  intro p e s m args below meth c hsz X hr hnam hA hK hT H locs B ls hl
  obtain ⟨hx, hb, hml, hown, hts, hlocks⟩ := id X
  have hl : lv_has ls 2 [(0, .ref (ad (4 + i0))), (1, .ref (ad (4 + i1)))] := hl
  refine lv_aload_n hx hb dX1_isSameAs_0 rfl (lv_at hl 0 rfl) ?_
  refine g_get (q := (4 + i0)) (k := 0) X hK B rfl in_X1 (pl_sp hN hi0) (cf_sp hi0) (by decide) lk_X1_13 rfl rfl dX1_isSameAs_1 ?_
  refine lv_aload_n hx hb dX1_isSameAs_4 rfl (lv_at hl 1 rfl) ?_
  refine g_get (q := (4 + i1)) (k := 0) X hK B rfl in_X1 (pl_sp hN hi1) (cf_sp hi1) (by decide) lk_X1_13 rfl rfl dX1_isSameAs_5 ?_
  refine lv_icmp_ne (tgt := 37) hx hb dX1_isSameAs_8 (by decide) (fun c1 => ?_) (fun c1 => ?_)
  · refine lv_iconst (v := 0) hx hb dX1_isSameAs_37 (by decide) ?_
    have ev := (show v_X1_isSameAs sp i0 i1 = 0 from by unfold v_X1_isSameAs; rw [if_neg c1])
    exact rt_i X hr (ad, (cf g ad x sp dy la kn re)) B (PO_of B) ⟨rfl, by rw [ev], rfl⟩ rfl (Nat.le_of_ble_eq_true rfl) (Nat.le_of_ble_eq_true rfl) dX1_isSameAs_38
  · refine lv_aload_n hx hb dX1_isSameAs_11 rfl (lv_at hl 0 rfl) ?_
    refine g_get (q := (4 + i0)) (k := 1) X hK B rfl in_X1 (pl_sp hN hi0) (cf_sp hi0) (by decide) lk_X1_19 rfl rfl dX1_isSameAs_12 ?_
    refine lv_aload_n hx hb dX1_isSameAs_15 rfl (lv_at hl 1 rfl) ?_
    refine g_get (q := (4 + i1)) (k := 1) X hK B rfl in_X1 (pl_sp hN hi1) (cf_sp hi1) (by decide) lk_X1_19 rfl rfl dX1_isSameAs_16 ?_
    refine lv_icmp_ne (tgt := 37) hx hb dX1_isSameAs_19 (by decide) (fun c2 => ?_) (fun c2 => ?_)
    · refine lv_iconst (v := 0) hx hb dX1_isSameAs_37 (by decide) ?_
      have ev := (show v_X1_isSameAs sp i0 i1 = 0 from by unfold v_X1_isSameAs; rw [if_pos c1, if_neg c2])
      exact rt_i X hr (ad, (cf g ad x sp dy la kn re)) B (PO_of B) ⟨rfl, by rw [ev], rfl⟩ rfl (Nat.le_of_ble_eq_true rfl) (Nat.le_of_ble_eq_true rfl) dX1_isSameAs_38
    · refine lv_aload_n hx hb dX1_isSameAs_22 rfl (lv_at hl 0 rfl) ?_
      refine g_get (q := (4 + i0)) (k := 2) X hK B rfl in_X1 (pl_sp hN hi0) (cf_sp hi0) (by decide) lk_X1_22 rfl rfl dX1_isSameAs_23 ?_
      refine lv_aload_n hx hb dX1_isSameAs_26 rfl (lv_at hl 1 rfl) ?_
      refine g_get (q := (4 + i1)) (k := 2) X hK B rfl in_X1 (pl_sp hN hi1) (cf_sp hi1) (by decide) lk_X1_22 rfl rfl dX1_isSameAs_27 ?_
      refine lv_icmp_ne (tgt := 37) hx hb dX1_isSameAs_30 (by decide) (fun c3 => ?_) (fun c3 => ?_)
      · refine lv_iconst (v := 0) hx hb dX1_isSameAs_37 (by decide) ?_
        have ev := (show v_X1_isSameAs sp i0 i1 = 0 from by unfold v_X1_isSameAs; rw [if_pos c1, if_pos c2, if_neg c3])
        exact rt_i X hr (ad, (cf g ad x sp dy la kn re)) B (PO_of B) ⟨rfl, by rw [ev], rfl⟩ rfl (Nat.le_of_ble_eq_true rfl) (Nat.le_of_ble_eq_true rfl) dX1_isSameAs_38
      · refine lv_iconst (v := 1) hx hb dX1_isSameAs_33 (by decide) ?_
        refine lv_goto (tgt := 38) hx hb dX1_isSameAs_34 (by decide) ?_
        have ev := (show v_X1_isSameAs sp i0 i1 = 1 from by unfold v_X1_isSameAs; rw [if_pos c1, if_pos c2, if_pos c3])
        exact rt_i X hr (ad, (cf g ad x sp dy la kn re)) B (PO_of B) ⟨rfl, by rw [ev], rfl⟩ rfl (Nat.le_of_ble_eq_true rfl) (Nat.le_of_ble_eq_true rfl) dX1_isSameAs_38
def v_X1_isAlikeTo (sp : Nat → TR) (i0 : Nat) (i1 : Nat) : Int32 := if (lg_cmp (v_X1_allMonths sp i0) (v_X1_allMonths sp i1)) = 0 then (if (sp i0).2.2 = (sp i1).2.2 then 1 else 0) else 0
theorem b01_X1_isAlikeTo {sp : Nat → TR} {i0 : Nat} {i1 : Nat} : (v_X1_isAlikeTo sp i0 i1) = 0 ∨ (v_X1_isAlikeTo sp i0 i1) = 1 := by
  unfold v_X1_isAlikeTo
  by_cases q1 : (lg_cmp (v_X1_allMonths sp i0) (v_X1_allMonths sp i1)) = 0
  · rw [if_pos q1]
    by_cases q2 : (sp i0).2.2 = (sp i1).2.2
    · rw [if_pos q2]
      exact Or.inr rfl
    · rw [if_neg q2]
      exact Or.inl rfl
  · rw [if_neg q1]
    exact Or.inl rfl
set_option maxHeartbeats 4000000 in
set_option maxRecDepth 100000 in
theorem c_X1_isAlikeTo (l : Launch) (g : GG) (N : Nat) (ad : Nat → Nat) (x : Nat → va_E) (sp dy : Nat → TR) (la kn re : Int32) (hN : 23 ≤ N) (i0 : Nat) (hi0 : i0 < 14) (i1 : Nat) (hi1 : i1 < 14) : KI l yX1_isAlikeTo cX1_isAlikeTo 2 (some .boolean) (rm 1 0 0) g [.ref (ad (4 + i0)), .ref (ad (4 + i1))] N ad (cf g ad x sp dy la kn re) N (fun r ad' f' => ad = ad' ∧ (v_X1_isAlikeTo sp i0 i1) = r ∧ (cf g ad x sp dy la kn re) = f') := by
  intro sz
  refine mt_start (by decide) (Nat.le_of_ble_eq_true rfl) ?_
  intro p e s m args below meth c hsz X hr hnam hA hK hT H locs B ls hl
  obtain ⟨hx, hb, hml, hown, hts, hlocks⟩ := id X
  have hl : lv_has ls 2 [(0, .ref (ad (4 + i0))), (1, .ref (ad (4 + i1)))] := hl
  refine lv_aload_n hx hb dX1_isAlikeTo_0 rfl (lv_at hl 0 rfl) ?_
  refine k_l (k := 0) (n := 0) hA B (u_V (rest := []) X (c_X1_allMonths l g N ad x sp dy la kn re hN i0 hi0 H.size) mw_X1_allMonths md_X1_allMonths rfl lk_X1_35 ⟨Nat.le_of_ble_eq_true rfl, Nat.le_of_ble_eq_true rfl⟩ hA hK hT B (pl_sp hN hi0) (cf_sp hi0) rfl rfl hl.1 rfl (Nat.le_of_ble_eq_true rfl) dX1_isAlikeTo_1 ⟨Nat.le_of_ble_eq_true rfl, Nat.le_of_ble_eq_true rfl⟩) (Nat.le_of_ble_eq_true rfl) (Nat.le_of_ble_eq_true rfl) (fun r ad' f' H locs hw B => ?_)
  obtain ⟨rfl, rfl, rfl⟩ := hw
  refine lv_aload_n hx hb dX1_isAlikeTo_4 rfl (lv_at hl 1 rfl) ?_
  refine k_l (k := 0) (n := 0) hA B (u_V (rest := [.long (v_X1_allMonths sp i0)]) X (c_X1_allMonths l g N ad x sp dy la kn re hN i1 hi1 H.size) mw_X1_allMonths md_X1_allMonths rfl lk_X1_35 ⟨Nat.le_of_ble_eq_true rfl, Nat.le_of_ble_eq_true rfl⟩ hA hK hT B (pl_sp hN hi1) (cf_sp hi1) rfl rfl hl.1 rfl (Nat.le_of_ble_eq_true rfl) dX1_isAlikeTo_5 ⟨Nat.le_of_ble_eq_true rfl, Nat.le_of_ble_eq_true rfl⟩) (Nat.le_of_ble_eq_true rfl) (Nat.le_of_ble_eq_true rfl) (fun r ad' f' H locs hw B => ?_)
  obtain ⟨rfl, rfl, rfl⟩ := hw
  refine W.lcmp hx hb dX1_isAlikeTo_8 ?_
  refine lv_if_ne (tgt := 27) hx hb dX1_isAlikeTo_9 (by decide) (fun c1 => ?_) (fun c1 => ?_)
  · refine lv_iconst (v := 0) hx hb dX1_isAlikeTo_27 (by decide) ?_
    have ev := (show v_X1_isAlikeTo sp i0 i1 = 0 from by unfold v_X1_isAlikeTo; rw [if_neg c1])
    exact rt_i X hr (ad, (cf g ad x sp dy la kn re)) B (PO_of B) ⟨rfl, by rw [ev], rfl⟩ rfl (Nat.le_of_ble_eq_true rfl) (Nat.le_of_ble_eq_true rfl) dX1_isAlikeTo_28
  · refine lv_aload_n hx hb dX1_isAlikeTo_12 rfl (lv_at hl 0 rfl) ?_
    refine g_get (q := (4 + i0)) (k := 2) X hK B rfl in_X1 (pl_sp hN hi0) (cf_sp hi0) (by decide) lk_X1_22 rfl rfl dX1_isAlikeTo_13 ?_
    refine lv_aload_n hx hb dX1_isAlikeTo_16 rfl (lv_at hl 1 rfl) ?_
    refine g_get (q := (4 + i1)) (k := 2) X hK B rfl in_X1 (pl_sp hN hi1) (cf_sp hi1) (by decide) lk_X1_22 rfl rfl dX1_isAlikeTo_17 ?_
    refine lv_icmp_ne (tgt := 27) hx hb dX1_isAlikeTo_20 (by decide) (fun c2 => ?_) (fun c2 => ?_)
    · refine lv_iconst (v := 0) hx hb dX1_isAlikeTo_27 (by decide) ?_
      have ev := (show v_X1_isAlikeTo sp i0 i1 = 0 from by unfold v_X1_isAlikeTo; rw [if_pos c1, if_neg c2])
      exact rt_i X hr (ad, (cf g ad x sp dy la kn re)) B (PO_of B) ⟨rfl, by rw [ev], rfl⟩ rfl (Nat.le_of_ble_eq_true rfl) (Nat.le_of_ble_eq_true rfl) dX1_isAlikeTo_28
    · refine lv_iconst (v := 1) hx hb dX1_isAlikeTo_23 (by decide) ?_
      refine lv_goto (tgt := 28) hx hb dX1_isAlikeTo_24 (by decide) ?_
      have ev := (show v_X1_isAlikeTo sp i0 i1 = 1 from by unfold v_X1_isAlikeTo; rw [if_pos c1, if_pos c2])
      exact rt_i X hr (ad, (cf g ad x sp dy la kn re)) B (PO_of B) ⟨rfl, by rw [ev], rfl⟩ rfl (Nat.le_of_ble_eq_true rfl) (Nat.le_of_ble_eq_true rfl) dX1_isAlikeTo_28
def v_X0_put (dy : Nat → TR) (j0 : Nat) (a1 : Int32) (a2 : Int32) (a3 : Int32) : (Nat → TR) := va_up dy j0 (a1, a2, a3)
theorem kp_X0_put_dy {dy : Nat → TR} {j0 : Nat} {a1 : Int32} {a2 : Int32} {a3 : Int32} {j : Nat} (h : j ≠ j0) : (v_X0_put dy j0 a1 a2 a3) j = dy j := by
  unfold v_X0_put
  exact va_up_ne _ _ h
set_option maxHeartbeats 4000000 in
set_option maxRecDepth 100000 in
theorem c_X0_put (l : Launch) (g : GG) (N : Nat) (ad : Nat → Nat) (x : Nat → va_E) (sp dy : Nat → TR) (la kn re : Int32) (hN : 23 ≤ N) (j0 : Nat) (hj0 : j0 < 5) (a1 : Int32) (a2 : Int32) (a3 : Int32) : KV l yX0_put cX0_put 4 (rm 0 0 0) g [.ref (ad (18 + j0)), .int a1, .int a2, .int a3] N ad (cf g ad x sp dy la kn re) N (fun ad' f' => ad = ad' ∧ (cf g ad x sp (v_X0_put dy j0 a1 a2 a3) la kn re) = f') := by
  intro sz
  refine mt_start (by decide) (Nat.le_of_ble_eq_true rfl) ?_
  intro p e s m args below meth c hsz X hr hnam hA hK hT H locs B ls hl
  obtain ⟨hx, hb, hml, hown, hts, hlocks⟩ := id X
  have hl : lv_has ls 4 [(0, .ref (ad (18 + j0))), (1, .int a1), (2, .int a2), (3, .int a3)] := hl
  refine lv_aload_n hx hb dX0_put_0 rfl (lv_at hl 0 rfl) ?_
  refine lv_iload_n hx hb dX0_put_1 rfl (lv_at hl 1 rfl) ?_
  refine g_put (q := (18 + j0)) (k := 0) X hK B rfl in_X0 tyX0_ok nmX0 (pl_dy hN hj0) (cf_dy hj0) (by decide) lk_X0_9 rfl rfl rfl rfl rfl (Nat.le_of_ble_eq_true rfl) dX0_put_2 (fun H locs B => ?_)
  have B : WB g (aw N ad sz) s.heap N ad (cf g ad x sp (va_up dy j0 (a1, (dy j0).2.1, (dy j0).2.2)) la kn re) H locs := by rw [← cf_up_dy hj0]; exact B
  refine lv_aload_n hx hb dX0_put_5 rfl (lv_at hl 0 rfl) ?_
  refine lv_iload_n hx hb dX0_put_6 rfl (lv_at hl 2 rfl) ?_
  refine g_put (q := (18 + j0)) (k := 1) X hK B rfl in_X0 tyX0_ok nmX0 (pl_dy hN hj0) (cf_dyU hj0) (by decide) lk_X0_15 rfl rfl rfl rfl rfl (Nat.le_of_ble_eq_true rfl) dX0_put_7 (fun H locs B => ?_)
  have B : WB g (aw N ad sz) s.heap N ad (cf g ad x sp (va_up dy j0 (a1, a2, (dy j0).2.2)) la kn re) H locs := by rw [← cf_up_dyU hj0 (a1, (dy j0).2.1, (dy j0).2.2)]; exact B
  refine lv_aload_n hx hb dX0_put_10 rfl (lv_at hl 0 rfl) ?_
  refine lv_iload_n hx hb dX0_put_11 rfl (lv_at hl 3 rfl) ?_
  refine g_put (q := (18 + j0)) (k := 2) X hK B rfl in_X0 tyX0_ok nmX0 (pl_dy hN hj0) (cf_dyU hj0) (by decide) lk_X0_18 rfl rfl rfl rfl rfl (Nat.le_of_ble_eq_true rfl) dX0_put_12 (fun H locs B => ?_)
  have B : WB g (aw N ad sz) s.heap N ad (cf g ad x sp (va_up dy j0 (a1, a2, a3)) la kn re) H locs := by rw [← cf_up_dyU hj0 (a1, a2, (dy j0).2.2)]; exact B
  have ev := (show v_X0_put dy j0 a1 a2 a3 = va_up dy j0 (a1, a2, a3) from rfl)
  exact rt_v X hr (ad, (cf g ad x sp (va_up dy j0 (a1, a2, a3)) la kn re)) B (PO_of B) ⟨rfl, by rw [ev]⟩ (Nat.le_of_ble_eq_true rfl) (Nat.le_of_ble_eq_true rfl) dX0_put_15
def v_X0_putDay (dy : Nat → TR) (j0 : Nat) (j1 : Nat) : (Nat → TR) := (v_X0_put dy j0 (dy j1).1 (dy j1).2.1 (dy j1).2.2)
theorem kp_X0_putDay_dy {dy : Nat → TR} {j0 : Nat} {j1 : Nat} {j : Nat} (h : j ≠ j0) : (v_X0_putDay dy j0 j1) j = dy j := by
  unfold v_X0_putDay
  first | (dsimp only; exact kp_X0_put_dy h) | exact kp_X0_put_dy h
set_option maxHeartbeats 4000000 in
set_option maxRecDepth 100000 in
theorem c_X0_putDay (l : Launch) (g : GG) (N : Nat) (ad : Nat → Nat) (x : Nat → va_E) (sp dy : Nat → TR) (la kn re : Int32) (hN : 23 ≤ N) (j0 : Nat) (hj0 : j0 < 5) (j1 : Nat) (hj1 : j1 < 5) : KV l yX0_putDay cX0_putDay 2 (rm 1 0 0) g [.ref (ad (18 + j0)), .ref (ad (18 + j1))] N ad (cf g ad x sp dy la kn re) N (fun ad' f' => ad = ad' ∧ (cf g ad x sp (v_X0_putDay dy j0 j1) la kn re) = f') := by
  intro sz
  refine mt_start (by decide) (Nat.le_of_ble_eq_true rfl) ?_
  intro p e s m args below meth c hsz X hr hnam hA hK hT H locs B ls hl
  obtain ⟨hx, hb, hml, hown, hts, hlocks⟩ := id X
  have hl : lv_has ls 2 [(0, .ref (ad (18 + j0))), (1, .ref (ad (18 + j1)))] := hl
  refine lv_aload_n hx hb dX0_putDay_0 rfl (lv_at hl 0 rfl) ?_
  refine lv_aload_n hx hb dX0_putDay_1 rfl (lv_at hl 1 rfl) ?_
  refine g_get (q := (18 + j1)) (k := 0) X hK B rfl in_X0 (pl_dy hN hj1) (cf_dy hj1) (by decide) lk_X0_9 rfl rfl dX0_putDay_2 ?_
  refine lv_aload_n hx hb dX0_putDay_5 rfl (lv_at hl 1 rfl) ?_
  refine g_get (q := (18 + j1)) (k := 1) X hK B rfl in_X0 (pl_dy hN hj1) (cf_dy hj1) (by decide) lk_X0_15 rfl rfl dX0_putDay_6 ?_
  refine lv_aload_n hx hb dX0_putDay_9 rfl (lv_at hl 1 rfl) ?_
  refine g_get (q := (18 + j1)) (k := 2) X hK B rfl in_X0 (pl_dy hN hj1) (cf_dy hj1) (by decide) lk_X0_18 rfl rfl dX0_putDay_10 ?_
  refine k_v (k := 0) (n := 0) hA B (u_V (rest := []) X (c_X0_put l g N ad x sp dy la kn re hN j0 hj0 (dy j1).1 (dy j1).2.1 (dy j1).2.2 H.size) mw_X0_put md_X0_put rfl lk_X0_21 ⟨Nat.le_of_ble_eq_true rfl, Nat.le_of_ble_eq_true rfl⟩ hA hK hT B (pl_dy hN hj0) (cf_dy hj0) rfl rfl hl.1 rfl (Nat.le_of_ble_eq_true rfl) dX0_putDay_13 ⟨Nat.le_of_ble_eq_true rfl, Nat.le_of_ble_eq_true rfl⟩) (Nat.le_of_ble_eq_true rfl) (Nat.le_of_ble_eq_true rfl) (fun ad' f' H locs hw B => ?_)
  obtain ⟨rfl, rfl⟩ := hw
  have ev := (show v_X0_putDay dy j0 j1 = (v_X0_put dy j0 (dy j1).1 (dy j1).2.1 (dy j1).2.2) from rfl)
  exact rt_v X hr (ad, (cf g ad x sp (v_X0_put dy j0 (dy j1).1 (dy j1).2.1 (dy j1).2.2) la kn re)) B (PO_of B) ⟨rfl, by rw [ev]⟩ (Nat.le_of_ble_eq_true rfl) (Nat.le_of_ble_eq_true rfl) dX0_putDay_16
def v_X0_monthPlace (dy : Nat → TR) (j0 : Nat) : Int32 := (((dy j0).1 * 12) + (dy j0).2.1) - 1
set_option maxHeartbeats 4000000 in
set_option maxRecDepth 100000 in
theorem c_X0_monthPlace (l : Launch) (g : GG) (N : Nat) (ad : Nat → Nat) (x : Nat → va_E) (sp dy : Nat → TR) (la kn re : Int32) (hN : 23 ≤ N) (j0 : Nat) (hj0 : j0 < 5) : KI l yX0_monthPlace cX0_monthPlace 1 (some .int) (rm 0 0 0) g [.ref (ad (18 + j0))] N ad (cf g ad x sp dy la kn re) N (fun r ad' f' => ad = ad' ∧ (v_X0_monthPlace dy j0) = r ∧ (cf g ad x sp dy la kn re) = f') := by
  intro sz
  refine mt_start (by decide) (Nat.le_of_ble_eq_true rfl) ?_
  intro p e s m args below meth c hsz X hr hnam hA hK hT H locs B ls hl
  obtain ⟨hx, hb, hml, hown, hts, hlocks⟩ := id X
  have hl : lv_has ls 1 [(0, .ref (ad (18 + j0)))] := hl
  refine lv_aload_n hx hb dX0_monthPlace_0 rfl (lv_at hl 0 rfl) ?_
  refine g_get (q := (18 + j0)) (k := 0) X hK B rfl in_X0 (pl_dy hN hj0) (cf_dy hj0) (by decide) lk_X0_9 rfl rfl dX0_monthPlace_1 ?_
  refine lv_bipush (v := 12) hx hb dX0_monthPlace_4 (by decide) ?_
  refine lv_imul hx hb dX0_monthPlace_6 ?_
  refine lv_aload_n hx hb dX0_monthPlace_7 rfl (lv_at hl 0 rfl) ?_
  refine g_get (q := (18 + j0)) (k := 1) X hK B rfl in_X0 (pl_dy hN hj0) (cf_dy hj0) (by decide) lk_X0_15 rfl rfl dX0_monthPlace_8 ?_
  refine lv_iadd hx hb dX0_monthPlace_11 ?_
  refine lv_iconst (v := 1) hx hb dX0_monthPlace_12 (by decide) ?_
  refine lv_isub hx hb dX0_monthPlace_13 ?_
  have ev := (show v_X0_monthPlace dy j0 = (((dy j0).1 * 12) + (dy j0).2.1) - 1 from rfl)
  exact rt_i X hr (ad, (cf g ad x sp dy la kn re)) B (PO_of B) ⟨rfl, by rw [ev], rfl⟩ rfl (Nat.le_of_ble_eq_true rfl) (Nat.le_of_ble_eq_true rfl) dX0_monthPlace_14
def v_X2_howMany (a0 : Int32) (a1 : Int32) : Int64 := if a1 = 0 then a0.toInt64 else (a0.toInt64 * 4000000000)
set_option maxHeartbeats 4000000 in
set_option maxRecDepth 100000 in
theorem c_X2_howMany (l : Launch) (g : GG) (N : Nat) (ad : Nat → Nat) (x : Nat → va_E) (sp dy : Nat → TR) (la kn re : Int32) (hN : 23 ≤ N) (a0 : Int32) (a1 : Int32) : KL l yX2_howMany cX2_howMany 2 (rm 0 0 0) g [.int a0, .int a1] N ad (cf g ad x sp dy la kn re) N (fun r ad' f' => ad = ad' ∧ (v_X2_howMany a0 a1) = r ∧ (cf g ad x sp dy la kn re) = f') := by
  intro sz
  refine mt_start (by decide) (Nat.le_of_ble_eq_true rfl) ?_
  intro p e s m args below meth c hsz X hr hnam hA hK hT H locs B ls hl
  obtain ⟨hx, hb, hml, hown, hts, hlocks⟩ := id X
  have hl : lv_has ls 2 [(0, .int a0), (1, .int a1)] := hl
  refine lv_iload_n hx hb dX2_howMany_0 rfl (lv_at hl 1 rfl) ?_
  refine lv_if_eq (tgt := 13) hx hb dX2_howMany_1 (by decide) (fun c1 => ?_) (fun c1 => ?_)
  · refine lv_iload_n hx hb dX2_howMany_13 rfl (lv_at hl 0 rfl) ?_
    refine lv_i2l (v := a0.toInt64) hx hb dX2_howMany_14 rfl ?_
    have ev := (show v_X2_howMany a0 a1 = a0.toInt64 from by unfold v_X2_howMany; rw [if_pos c1])
    exact rt_l X hr (ad, (cf g ad x sp dy la kn re)) B (PO_of B) ⟨rfl, by rw [ev], rfl⟩ (Nat.le_of_ble_eq_true rfl) (Nat.le_of_ble_eq_true rfl) dX2_howMany_15
  · refine lv_iload_n hx hb dX2_howMany_4 rfl (lv_at hl 0 rfl) ?_
    refine lv_i2l (v := a0.toInt64) hx hb dX2_howMany_5 rfl ?_
    refine lv_ldc2 hx hb hown (hts _ (List.mem_cons_of_mem _ lk_X2_258)) dX2_howMany_6 ?_
    refine lv_lmul hx hb dX2_howMany_9 ?_
    refine lv_goto (tgt := 15) hx hb dX2_howMany_10 (by decide) ?_
    have ev := (show v_X2_howMany a0 a1 = a0.toInt64 * 4000000000 from by unfold v_X2_howMany; rw [if_neg c1])
    exact rt_l X hr (ad, (cf g ad x sp dy la kn re)) B (PO_of B) ⟨rfl, by rw [ev], rfl⟩ (Nat.le_of_ble_eq_true rfl) (Nat.le_of_ble_eq_true rfl) dX2_howMany_15
def v_X2_daysOfMonth (a0 : Int32) (a1 : Int32) : Int32 := if a1 = 2 then (if (a0 - a0 / 4 * 4) = 0 then (if (a0 - a0 / 100 * 100) = 0 then (if (a0 - a0 / 400 * 400) = 0 then 29 else 28) else 29) else 28) else (if a1 = 4 then 30 else (if a1 = 6 then 30 else (if a1 = 9 then 30 else (if a1 = 11 then 30 else 31))))
set_option maxHeartbeats 4000000 in
set_option maxRecDepth 100000 in
theorem c_X2_daysOfMonth (l : Launch) (g : GG) (N : Nat) (ad : Nat → Nat) (x : Nat → va_E) (sp dy : Nat → TR) (la kn re : Int32) (hN : 23 ≤ N) (a0 : Int32) (a1 : Int32) : KI l yX2_daysOfMonth cX2_daysOfMonth 3 (some .int) (rm 0 0 0) g [.int a0, .int a1] N ad (cf g ad x sp dy la kn re) N (fun r ad' f' => ad = ad' ∧ (v_X2_daysOfMonth a0 a1) = r ∧ (cf g ad x sp dy la kn re) = f') := by
  intro sz
  refine mt_start (by decide) (Nat.le_of_ble_eq_true rfl) ?_
  intro p e s m args below meth c hsz X hr hnam hA hK hT H locs B ls hl
  obtain ⟨hx, hb, hml, hown, hts, hlocks⟩ := id X
  have hl : lv_has ls 3 [(0, .int a0), (1, .int a1)] := hl
  refine lv_iload_n hx hb dX2_daysOfMonth_0 rfl (lv_at hl 1 rfl) ?_
  refine lv_iconst (v := 2) hx hb dX2_daysOfMonth_1 (by decide) ?_
  refine lv_icmp_ne (tgt := 44) hx hb dX2_daysOfMonth_2 (by decide) (fun c1 => ?_) (fun c1 => ?_)
  · refine lv_iload_n hx hb dX2_daysOfMonth_44 rfl (lv_at hl 1 rfl) ?_
    refine lv_iconst (v := 4) hx hb dX2_daysOfMonth_45 (by decide) ?_
    refine lv_icmp_eq (tgt := 67) hx hb dX2_daysOfMonth_46 (by decide) (fun c2 => ?_) (fun c2 => ?_)
    · refine lv_bipush (v := 30) hx hb dX2_daysOfMonth_67 (by decide) ?_
      refine lv_goto (tgt := 74) hx hb dX2_daysOfMonth_69 (by decide) ?_
      have ev := (show v_X2_daysOfMonth a0 a1 = 30 from by unfold v_X2_daysOfMonth; rw [if_neg c1, if_pos c2])
      exact rt_i X hr (ad, (cf g ad x sp dy la kn re)) B (PO_of B) ⟨rfl, by rw [ev], rfl⟩ rfl (Nat.le_of_ble_eq_true rfl) (Nat.le_of_ble_eq_true rfl) dX2_daysOfMonth_74
    · refine lv_iload_n hx hb dX2_daysOfMonth_49 rfl (lv_at hl 1 rfl) ?_
      refine lv_bipush (v := 6) hx hb dX2_daysOfMonth_50 (by decide) ?_
      refine lv_icmp_eq (tgt := 67) hx hb dX2_daysOfMonth_52 (by decide) (fun c3 => ?_) (fun c3 => ?_)
      · refine lv_bipush (v := 30) hx hb dX2_daysOfMonth_67 (by decide) ?_
        refine lv_goto (tgt := 74) hx hb dX2_daysOfMonth_69 (by decide) ?_
        have ev := (show v_X2_daysOfMonth a0 a1 = 30 from by unfold v_X2_daysOfMonth; rw [if_neg c1, if_neg c2, if_pos c3])
        exact rt_i X hr (ad, (cf g ad x sp dy la kn re)) B (PO_of B) ⟨rfl, by rw [ev], rfl⟩ rfl (Nat.le_of_ble_eq_true rfl) (Nat.le_of_ble_eq_true rfl) dX2_daysOfMonth_74
      · refine lv_iload_n hx hb dX2_daysOfMonth_55 rfl (lv_at hl 1 rfl) ?_
        refine lv_bipush (v := 9) hx hb dX2_daysOfMonth_56 (by decide) ?_
        refine lv_icmp_eq (tgt := 67) hx hb dX2_daysOfMonth_58 (by decide) (fun c4 => ?_) (fun c4 => ?_)
        · refine lv_bipush (v := 30) hx hb dX2_daysOfMonth_67 (by decide) ?_
          refine lv_goto (tgt := 74) hx hb dX2_daysOfMonth_69 (by decide) ?_
          have ev := (show v_X2_daysOfMonth a0 a1 = 30 from by unfold v_X2_daysOfMonth; rw [if_neg c1, if_neg c2, if_neg c3, if_pos c4])
          exact rt_i X hr (ad, (cf g ad x sp dy la kn re)) B (PO_of B) ⟨rfl, by rw [ev], rfl⟩ rfl (Nat.le_of_ble_eq_true rfl) (Nat.le_of_ble_eq_true rfl) dX2_daysOfMonth_74
        · refine lv_iload_n hx hb dX2_daysOfMonth_61 rfl (lv_at hl 1 rfl) ?_
          refine lv_bipush (v := 11) hx hb dX2_daysOfMonth_62 (by decide) ?_
          refine lv_icmp_ne (tgt := 72) hx hb dX2_daysOfMonth_64 (by decide) (fun c5 => ?_) (fun c5 => ?_)
          · refine lv_bipush (v := 31) hx hb dX2_daysOfMonth_72 (by decide) ?_
            have ev := (show v_X2_daysOfMonth a0 a1 = 31 from by unfold v_X2_daysOfMonth; rw [if_neg c1, if_neg c2, if_neg c3, if_neg c4, if_neg c5])
            exact rt_i X hr (ad, (cf g ad x sp dy la kn re)) B (PO_of B) ⟨rfl, by rw [ev], rfl⟩ rfl (Nat.le_of_ble_eq_true rfl) (Nat.le_of_ble_eq_true rfl) dX2_daysOfMonth_74
          · refine lv_bipush (v := 30) hx hb dX2_daysOfMonth_67 (by decide) ?_
            refine lv_goto (tgt := 74) hx hb dX2_daysOfMonth_69 (by decide) ?_
            have ev := (show v_X2_daysOfMonth a0 a1 = 30 from by unfold v_X2_daysOfMonth; rw [if_neg c1, if_neg c2, if_neg c3, if_neg c4, if_pos c5])
            exact rt_i X hr (ad, (cf g ad x sp dy la kn re)) B (PO_of B) ⟨rfl, by rw [ev], rfl⟩ rfl (Nat.le_of_ble_eq_true rfl) (Nat.le_of_ble_eq_true rfl) dX2_daysOfMonth_74
  · refine lv_iload_n hx hb dX2_daysOfMonth_5 rfl (lv_at hl 0 rfl) ?_
    refine lv_iconst (v := 4) hx hb dX2_daysOfMonth_6 (by decide) ?_
    refine lv_irem hx hb dX2_daysOfMonth_7 (by decide) ?_
    refine lv_if_ne (tgt := 30) hx hb dX2_daysOfMonth_8 (by decide) (fun c6 => ?_) (fun c6 => ?_)
    · refine lv_iconst (v := 0) hx hb dX2_daysOfMonth_30 (by decide) ?_
      refine lv_istore_n (lv' := [(2, .int 0), (0, .int a0), (1, .int a1)]) hx hb dX2_daysOfMonth_31 rfl hl (by decide) rfl (fun ls hl => ?_)
      refine lv_iload_n hx hb dX2_daysOfMonth_32 rfl (lv_at hl 0 rfl) ?_
      refine lv_if_eq (tgt := 41) hx hb dX2_daysOfMonth_33 (by decide) (fun _ => ?_) (fun z => absurd z (by decide))
      refine lv_bipush (v := 28) hx hb dX2_daysOfMonth_41 (by decide) ?_
      have ev := (show v_X2_daysOfMonth a0 a1 = 28 from by unfold v_X2_daysOfMonth; rw [if_pos c1, if_neg c6])
      exact rt_i X hr (ad, (cf g ad x sp dy la kn re)) B (PO_of B) ⟨rfl, by rw [ev], rfl⟩ rfl (Nat.le_of_ble_eq_true rfl) (Nat.le_of_ble_eq_true rfl) dX2_daysOfMonth_43
    · refine lv_iload_n hx hb dX2_daysOfMonth_11 rfl (lv_at hl 0 rfl) ?_
      refine lv_bipush (v := 100) hx hb dX2_daysOfMonth_12 (by decide) ?_
      refine lv_irem hx hb dX2_daysOfMonth_14 (by decide) ?_
      refine lv_if_ne (tgt := 26) hx hb dX2_daysOfMonth_15 (by decide) (fun c7 => ?_) (fun c7 => ?_)
      · refine lv_iconst (v := 1) hx hb dX2_daysOfMonth_26 (by decide) ?_
        refine lv_goto (tgt := 31) hx hb dX2_daysOfMonth_27 (by decide) ?_
        refine lv_istore_n (lv' := [(2, .int 1), (0, .int a0), (1, .int a1)]) hx hb dX2_daysOfMonth_31 rfl hl (by decide) rfl (fun ls hl => ?_)
        refine lv_iload_n hx hb dX2_daysOfMonth_32 rfl (lv_at hl 0 rfl) ?_
        refine lv_if_eq (tgt := 41) hx hb dX2_daysOfMonth_33 (by decide) (fun z => absurd z (by decide)) (fun _ => ?_)
        refine lv_bipush (v := 29) hx hb dX2_daysOfMonth_36 (by decide) ?_
        refine lv_goto (tgt := 43) hx hb dX2_daysOfMonth_38 (by decide) ?_
        have ev := (show v_X2_daysOfMonth a0 a1 = 29 from by unfold v_X2_daysOfMonth; rw [if_pos c1, if_pos c6, if_neg c7])
        exact rt_i X hr (ad, (cf g ad x sp dy la kn re)) B (PO_of B) ⟨rfl, by rw [ev], rfl⟩ rfl (Nat.le_of_ble_eq_true rfl) (Nat.le_of_ble_eq_true rfl) dX2_daysOfMonth_43
      · refine lv_iload_n hx hb dX2_daysOfMonth_18 rfl (lv_at hl 0 rfl) ?_
        refine lv_sipush (v := 400) hx hb dX2_daysOfMonth_19 (by decide) ?_
        refine lv_irem hx hb dX2_daysOfMonth_22 (by decide) ?_
        refine lv_if_ne (tgt := 30) hx hb dX2_daysOfMonth_23 (by decide) (fun c8 => ?_) (fun c8 => ?_)
        · refine lv_iconst (v := 0) hx hb dX2_daysOfMonth_30 (by decide) ?_
          refine lv_istore_n (lv' := [(2, .int 0), (0, .int a0), (1, .int a1)]) hx hb dX2_daysOfMonth_31 rfl hl (by decide) rfl (fun ls hl => ?_)
          refine lv_iload_n hx hb dX2_daysOfMonth_32 rfl (lv_at hl 0 rfl) ?_
          refine lv_if_eq (tgt := 41) hx hb dX2_daysOfMonth_33 (by decide) (fun _ => ?_) (fun z => absurd z (by decide))
          refine lv_bipush (v := 28) hx hb dX2_daysOfMonth_41 (by decide) ?_
          have ev := (show v_X2_daysOfMonth a0 a1 = 28 from by unfold v_X2_daysOfMonth; rw [if_pos c1, if_pos c6, if_pos c7, if_neg c8])
          exact rt_i X hr (ad, (cf g ad x sp dy la kn re)) B (PO_of B) ⟨rfl, by rw [ev], rfl⟩ rfl (Nat.le_of_ble_eq_true rfl) (Nat.le_of_ble_eq_true rfl) dX2_daysOfMonth_43
        · refine lv_iconst (v := 1) hx hb dX2_daysOfMonth_26 (by decide) ?_
          refine lv_goto (tgt := 31) hx hb dX2_daysOfMonth_27 (by decide) ?_
          refine lv_istore_n (lv' := [(2, .int 1), (0, .int a0), (1, .int a1)]) hx hb dX2_daysOfMonth_31 rfl hl (by decide) rfl (fun ls hl => ?_)
          refine lv_iload_n hx hb dX2_daysOfMonth_32 rfl (lv_at hl 0 rfl) ?_
          refine lv_if_eq (tgt := 41) hx hb dX2_daysOfMonth_33 (by decide) (fun z => absurd z (by decide)) (fun _ => ?_)
          refine lv_bipush (v := 29) hx hb dX2_daysOfMonth_36 (by decide) ?_
          refine lv_goto (tgt := 43) hx hb dX2_daysOfMonth_38 (by decide) ?_
          have ev := (show v_X2_daysOfMonth a0 a1 = 29 from by unfold v_X2_daysOfMonth; rw [if_pos c1, if_pos c6, if_pos c7, if_pos c8])
          exact rt_i X hr (ad, (cf g ad x sp dy la kn re)) B (PO_of B) ⟨rfl, by rw [ev], rfl⟩ rfl (Nat.le_of_ble_eq_true rfl) (Nat.le_of_ble_eq_true rfl) dX2_daysOfMonth_43
def v_X2_daysToYear (a0 : Int32) : Int32 := ((((a0 - 1600) * 365) + (((a0 - 1600) + 3) / 4)) - (((a0 - 1600) + 99) / 100)) + (((a0 - 1600) + 399) / 400)
set_option maxHeartbeats 4000000 in
set_option maxRecDepth 100000 in
theorem c_X2_daysToYear (l : Launch) (g : GG) (N : Nat) (ad : Nat → Nat) (x : Nat → va_E) (sp dy : Nat → TR) (la kn re : Int32) (hN : 23 ≤ N) (a0 : Int32) : KI l yX2_daysToYear cX2_daysToYear 2 (some .int) (rm 0 0 0) g [.int a0] N ad (cf g ad x sp dy la kn re) N (fun r ad' f' => ad = ad' ∧ (v_X2_daysToYear a0) = r ∧ (cf g ad x sp dy la kn re) = f') := by
  intro sz
  refine mt_start (by decide) (Nat.le_of_ble_eq_true rfl) ?_
  intro p e s m args below meth c hsz X hr hnam hA hK hT H locs B ls hl
  obtain ⟨hx, hb, hml, hown, hts, hlocks⟩ := id X
  have hl : lv_has ls 2 [(0, .int a0)] := hl
  refine lv_iload_n hx hb dX2_daysToYear_0 rfl (lv_at hl 0 rfl) ?_
  refine lv_sipush (v := 1600) hx hb dX2_daysToYear_1 (by decide) ?_
  refine lv_isub hx hb dX2_daysToYear_4 ?_
  refine lv_istore_n (lv' := [(1, .int (a0 - 1600)), (0, .int a0)]) hx hb dX2_daysToYear_5 rfl hl (by decide) rfl (fun ls hl => ?_)
  refine lv_iload_n hx hb dX2_daysToYear_6 rfl (lv_at hl 0 rfl) ?_
  refine lv_sipush (v := 365) hx hb dX2_daysToYear_7 (by decide) ?_
  refine lv_imul hx hb dX2_daysToYear_10 ?_
  refine lv_iload_n hx hb dX2_daysToYear_11 rfl (lv_at hl 0 rfl) ?_
  refine lv_iconst (v := 3) hx hb dX2_daysToYear_12 (by decide) ?_
  refine lv_iadd hx hb dX2_daysToYear_13 ?_
  refine lv_iconst (v := 4) hx hb dX2_daysToYear_14 (by decide) ?_
  refine lv_idiv hx hb dX2_daysToYear_15 (by decide) ?_
  refine lv_iadd hx hb dX2_daysToYear_16 ?_
  refine lv_iload_n hx hb dX2_daysToYear_17 rfl (lv_at hl 0 rfl) ?_
  refine lv_bipush (v := 99) hx hb dX2_daysToYear_18 (by decide) ?_
  refine lv_iadd hx hb dX2_daysToYear_20 ?_
  refine lv_bipush (v := 100) hx hb dX2_daysToYear_21 (by decide) ?_
  refine lv_idiv hx hb dX2_daysToYear_23 (by decide) ?_
  refine lv_isub hx hb dX2_daysToYear_24 ?_
  refine lv_iload_n hx hb dX2_daysToYear_25 rfl (lv_at hl 0 rfl) ?_
  refine lv_sipush (v := 399) hx hb dX2_daysToYear_26 (by decide) ?_
  refine lv_iadd hx hb dX2_daysToYear_29 ?_
  refine lv_sipush (v := 400) hx hb dX2_daysToYear_30 (by decide) ?_
  refine lv_idiv hx hb dX2_daysToYear_33 (by decide) ?_
  refine lv_iadd hx hb dX2_daysToYear_34 ?_
  have ev := (show v_X2_daysToYear a0 = ((((a0 - 1600) * 365) + (((a0 - 1600) + 3) / 4)) - (((a0 - 1600) + 99) / 100)) + (((a0 - 1600) + 399) / 400) from rfl)
  exact rt_i X hr (ad, (cf g ad x sp dy la kn re)) B (PO_of B) ⟨rfl, by rw [ev], rfl⟩ rfl (Nat.le_of_ble_eq_true rfl) (Nat.le_of_ble_eq_true rfl) dX2_daysToYear_35
def v_X2_dayKept (a0 : Int32) (a1 : Int32) (a2 : Int32) : Int32 := if (v_X2_daysOfMonth a0 a1) < a2 then (v_X2_daysOfMonth a0 a1) else a2
set_option maxHeartbeats 4000000 in
set_option maxRecDepth 100000 in
theorem c_X2_dayKept (l : Launch) (g : GG) (N : Nat) (ad : Nat → Nat) (x : Nat → va_E) (sp dy : Nat → TR) (la kn re : Int32) (hN : 23 ≤ N) (a0 : Int32) (a1 : Int32) (a2 : Int32) : KI l yX2_dayKept cX2_dayKept 3 (some .int) (rm 1 0 0) g [.int a0, .int a1, .int a2] N ad (cf g ad x sp dy la kn re) N (fun r ad' f' => ad = ad' ∧ (v_X2_dayKept a0 a1 a2) = r ∧ (cf g ad x sp dy la kn re) = f') := by
  intro sz
  refine mt_start (by decide) (Nat.le_of_ble_eq_true rfl) ?_
  intro p e s m args below meth c hsz X hr hnam hA hK hT H locs B ls hl
  obtain ⟨hx, hb, hml, hown, hts, hlocks⟩ := id X
  have hl : lv_has ls 3 [(0, .int a0), (1, .int a1), (2, .int a2)] := hl
  refine lv_iload_n hx hb dX2_dayKept_0 rfl (lv_at hl 2 rfl) ?_
  refine lv_iload_n hx hb dX2_dayKept_1 rfl (lv_at hl 0 rfl) ?_
  refine lv_iload_n hx hb dX2_dayKept_2 rfl (lv_at hl 1 rfl) ?_
  refine k_i (k := 0) (n := 0) hA B (u_S (rest := [.int a2]) X (c_X2_daysOfMonth l g N ad x sp dy la kn re hN a0 a1 H.size) mw_X2_daysOfMonth md_X2_daysOfMonth rfl lk_X2_282 ⟨Nat.le_of_ble_eq_true rfl, Nat.le_of_ble_eq_true rfl⟩ hA hK hT B hl.1 rfl (Nat.le_of_ble_eq_true rfl) dX2_dayKept_3 ⟨Nat.le_of_ble_eq_true rfl, Nat.le_of_ble_eq_true rfl⟩) (Nat.le_of_ble_eq_true rfl) (Nat.le_of_ble_eq_true rfl) (fun r ad' f' H locs hw B => ?_)
  obtain ⟨rfl, rfl, rfl⟩ := hw
  refine va_mmin hx hb (by rw [hml]; exact hl.1.symm) hown (hts _ (List.mem_cons_of_mem _ lk_X2_290)) (hts _ (List.mem_cons_of_mem _ mw_min.2.1)) (hts _ (List.mem_cons_of_mem _ mw_min.2.2)) (hts _ (List.mem_cons_of_mem _ mw_min.1)) (by decide) (by simp) (Nat.zero_le _) (Nat.zero_le _) dX2_dayKept_6 ?_
  have ev := (show v_X2_dayKept a0 a1 a2 = if (v_X2_daysOfMonth a0 a1) < a2 then (v_X2_daysOfMonth a0 a1) else a2 from rfl)
  exact rt_i X hr (ad, (cf g ad x sp dy la kn re)) B (PO_of B) ⟨rfl, by rw [ev], rfl⟩ rfl (Nat.le_of_ble_eq_true rfl) (Nat.le_of_ble_eq_true rfl) dX2_dayKept_9
