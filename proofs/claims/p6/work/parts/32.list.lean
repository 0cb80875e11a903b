theorem mw_max : Cond.code Lib.Math.max.name Lib.Math.max.code 2 (some .int) ∈ tb_all ∧ Cond.static Lib.Math.max.name ∈ tb_all ∧ Cond.initialized "java/lang/Math" ∈ tb_all := ⟨tb_in (lw_at 167 (by decide +kernel)) rfl, tb_in (lw_at 166 (by decide +kernel)) rfl, ii_J9⟩
set_option maxHeartbeats 4000000 in
theorem c_K_check3 (l : Launch) (g : GG) (N : Nat) (ad : Nat → Nat) (f : Nat → va_E) (i n : Int32) (h1 : ¬ i < 0) (h2 : i < n) : KI l yJ3_checkIndex_8e157 cJ3_checkIndex_8e157 3 (some .int) (rm 0 0 0) g [.int i, .int n, .null] N ad f N (fun r ad' f' => ad = ad' ∧ i = r ∧ f = f') := by
  intro sz
  refine mt_start (by decide) (Nat.le_of_ble_eq_true rfl) ?_
  intro p e0 s m args below meth c hsz X hr hnam hA hK hT H locs B ls hl
  obtain ⟨hx, hb, hml, hown, hts, hlocks⟩ := id X
  have hl : lv_has ls 3 [(0, .int i), (1, .int n), (2, .null)] := hl
  refine lv_iload_n hx hb dJ3_checkIndex_8e157_0 rfl (lv_at hl 0 rfl) ?_
  refine lv_if_lt (tgt := 9) hx hb dJ3_checkIndex_8e157_1 (by decide) (fun z => absurd z h1) (fun _ => ?_)
  refine lv_iload_n hx hb dJ3_checkIndex_8e157_4 rfl (lv_at hl 0 rfl) ?_
  refine lv_iload_n hx hb dJ3_checkIndex_8e157_5 rfl (lv_at hl 1 rfl) ?_
  refine lv_icmp_lt (tgt := 16) hx hb dJ3_checkIndex_8e157_6 (by decide) (fun _ => ?_) (fun z => absurd h2 z)
  refine lv_iload_n hx hb dJ3_checkIndex_8e157_16 rfl (lv_at hl 0 rfl) ?_
  exact rt_i X hr (ad, f) B (PO_of B) ⟨rfl, rfl, rfl⟩ rfl (Nat.le_of_ble_eq_true rfl) (Nat.le_of_ble_eq_true rfl) dJ3_checkIndex_8e157_17
set_option maxHeartbeats 4000000 in
theorem c_K_check2 (l : Launch) (g : GG) (N : Nat) (ad : Nat → Nat) (f : Nat → va_E) (i n : Int32) (h1 : ¬ i < 0) (h2 : i < n) : KI l yJ15_checkIndex_7cf53 cJ15_checkIndex_7cf53 2 (some .int) (rm 1 0 0) g [.int i, .int n] N ad f N (fun r ad' f' => ad = ad' ∧ i = r ∧ f = f') := by
  intro sz
  refine mt_start (by decide) (Nat.le_of_ble_eq_true rfl) ?_
  intro p e0 s m args below meth c hsz X hr hnam hA hK hT H locs B ls hl
  obtain ⟨hx, hb, hml, hown, hts, hlocks⟩ := id X
  have hl : lv_has ls 2 [(0, .int i), (1, .int n)] := hl
  refine lv_iload_n hx hb dJ15_checkIndex_7cf53_0 rfl (lv_at hl 0 rfl) ?_
  refine lv_iload_n hx hb dJ15_checkIndex_7cf53_1 rfl (lv_at hl 1 rfl) ?_
  refine lv_null hx hb dJ15_checkIndex_7cf53_2 ?_
  refine k_i (k := 0) (n := 0) hA B (u_S (rest := []) X (c_K_check3 l g N ad f i n h1 h2 H.size) mw_J3_checkIndex_8e157 md_J3_checkIndex_8e157 rfl lk_J15_105 ⟨Nat.le_of_ble_eq_true rfl, Nat.le_of_ble_eq_true rfl⟩ hA hK hT B hl.1 rfl (Nat.le_of_ble_eq_true rfl) dJ15_checkIndex_7cf53_3 ⟨Nat.le_of_ble_eq_true rfl, Nat.le_of_ble_eq_true rfl⟩) (Nat.le_of_ble_eq_true rfl) (Nat.le_of_ble_eq_true rfl) (fun r ad' f' H locs hw B => ?_)
  obtain ⟨rfl, rfl, rfl⟩ := hw
  exact rt_i X hr (ad, f) B (PO_of B) ⟨rfl, rfl, rfl⟩ rfl (Nat.le_of_ble_eq_true rfl) (Nat.le_of_ble_eq_true rfl) dJ15_checkIndex_7cf53_6
set_option maxHeartbeats 4000000 in
theorem c_L_size (l : Launch) (g : GG) (N : Nat) (ad : Nat → Nat) (f : Nat → va_E) (q b : Nat) (hq : q < N) (hbq : ad q = b) (mc z : Int32) (e : Nat) (hf : f q = .inr (2, [.int mc, .ref e, .int z])) : KI l yJx4a65c_size_8abf5 cJx4a65c_size_8abf5 1 (some .int) (rm 0 0 0) g [.ref b] N ad f N (fun r ad' f' => ad = ad' ∧ z = r ∧ f = f') := by
  intro sz
  refine mt_start (by decide) (Nat.le_of_ble_eq_true rfl) ?_
  intro p e0 s m args below meth c hsz X hr hnam hA hK hT H locs B ls hl
  obtain ⟨hx, hb, hml, hown, hts, hlocks⟩ := id X
  have hl : lv_has ls 1 [(0, .ref b)] := hl
  refine lv_aload_n hx hb dJx4a65c_size_8abf5_0 rfl (lv_at hl 0 rfl) ?_
  refine b_get (q := q) (k := 2) hbq X hK B rfl in_Jx4a65c hq hf (by decide) lk_Jx4a65c_48 rfl rfl dJx4a65c_size_8abf5_1 ?_
  exact rt_i X hr (ad, f) B (PO_of B) ⟨rfl, rfl, rfl⟩ rfl (Nat.le_of_ble_eq_true rfl) (Nat.le_of_ble_eq_true rfl) dJx4a65c_size_8abf5_4
set_option maxHeartbeats 4000000 in
theorem c_L_isEmpty (l : Launch) (g : GG) (N : Nat) (ad : Nat → Nat) (f : Nat → va_E) (q b : Nat) (hq : q < N) (hbq : ad q = b) (mc z : Int32) (e : Nat) (hf : f q = .inr (2, [.int mc, .ref e, .int z])) : KI l yJx4a65c_isEmpty_aae02 cJx4a65c_isEmpty_aae02 1 (some .boolean) (rm 0 0 0) g [.ref b] N ad f N (fun r ad' f' => ad = ad' ∧ (if z = 0 then 1 else 0) = r ∧ f = f') := by
  intro sz
  refine mt_start (by decide) (Nat.le_of_ble_eq_true rfl) ?_
  intro p e0 s m args below meth c hsz X hr hnam hA hK hT H locs B ls hl
  obtain ⟨hx, hb, hml, hown, hts, hlocks⟩ := id X
  have hl : lv_has ls 1 [(0, .ref b)] := hl
  refine lv_aload_n hx hb dJx4a65c_isEmpty_aae02_0 rfl (lv_at hl 0 rfl) ?_
  refine b_get (q := q) (k := 2) hbq X hK B rfl in_Jx4a65c hq hf (by decide) lk_Jx4a65c_48 rfl rfl dJx4a65c_isEmpty_aae02_1 ?_
  refine lv_if_ne (tgt := 11) hx hb dJx4a65c_isEmpty_aae02_4 (by decide) (fun c1 => ?_) (fun c1 => ?_)
  · refine lv_iconst (v := 0) hx hb dJx4a65c_isEmpty_aae02_11 (by decide) ?_
    exact rt_i X hr (ad, f) B (PO_of B) ⟨rfl, if_neg c1, rfl⟩ rfl (Nat.le_of_ble_eq_true rfl) (Nat.le_of_ble_eq_true rfl) dJx4a65c_isEmpty_aae02_12
  · refine lv_iconst (v := 1) hx hb dJx4a65c_isEmpty_aae02_7 (by decide) ?_
    refine lv_goto (tgt := 12) hx hb dJx4a65c_isEmpty_aae02_8 (by decide) ?_
    exact rt_i X hr (ad, f) B (PO_of B) ⟨rfl, if_pos c1, rfl⟩ rfl (Nat.le_of_ble_eq_true rfl) (Nat.le_of_ble_eq_true rfl) dJx4a65c_isEmpty_aae02_12
set_option maxHeartbeats 4000000 in
theorem c_L_elementData (l : Launch) (g : GG) (N : Nat) (ad : Nat → Nat) (f : Nat → va_E) (q b : Nat) (hq : q < N) (hbq : ad q = b) (mc z : Int32) (e : Nat) (hf : f q = .inr (2, [.int mc, .ref e, .int z])) (qe n : Nat) (h : Nat → Option Nat) (hqe : qe < N) (hbe : ad qe = e) (hfe : f qe = c_ar (g.2.1 5) n h) (hne : q ≠ qe) (i : Int32) (v : Nat) (hi : vp_in i n) (hv : h i.toNatClampNeg = some v) : KR l yJx4a65c_elementData_915e3 cJx4a65c_elementData_915e3 2 (.object "java/lang/Object") (rm 0 0 0) g [.ref b, .int i] N ad f N (fun r ad' f' => ad = ad' ∧ some v = r ∧ f = f') := by
  intro sz
  refine mt_start (by decide) (Nat.le_of_ble_eq_true rfl) ?_
  intro p e0 s m args below meth c hsz X hr hnam hA hK hT H locs B ls hl
  obtain ⟨hx, hb, hml, hown, hts, hlocks⟩ := id X
  have hl : lv_has ls 2 [(0, .ref b), (1, .int i)] := hl
  refine lv_aload_n hx hb dJx4a65c_elementData_915e3_0 rfl (lv_at hl 0 rfl) ?_
  refine b_get (q := q) (k := 1) hbq X hK B rfl in_Jx4a65c hq hf (by decide) lk_Jx4a65c_9 rfl rfl dJx4a65c_elementData_915e3_1 ?_
  refine lv_iload_n hx hb dJx4a65c_elementData_915e3_4 rfl (lv_at hl 1 rfl) ?_
  refine b_aald (q := qe) (t0 := 5) (v := v) hbe X hK B hqe hfe rfl rfl hi hv dJx4a65c_elementData_915e3_5 ?_
  exact rt_r (r := some v) rfl X hr (Or.inl ⟨_, rfl⟩) (ad, f) B (PO_of B) ⟨rfl, rfl, rfl⟩ (Nat.le_of_ble_eq_true rfl) (Nat.le_of_ble_eq_true rfl) dJx4a65c_elementData_915e3_6
set_option maxHeartbeats 4000000 in
theorem c_L_get (l : Launch) (g : GG) (N : Nat) (ad : Nat → Nat) (f : Nat → va_E) (q b : Nat) (hq : q < N) (hbq : ad q = b) (mc z : Int32) (e : Nat) (hf : f q = .inr (2, [.int mc, .ref e, .int z])) (qe n : Nat) (h : Nat → Option Nat) (hqe : qe < N) (hbe : ad qe = e) (hfe : f qe = c_ar (g.2.1 5) n h) (hne : q ≠ qe) (i : Int32) (v : Nat) (hi : vp_in i n) (hv : h i.toNatClampNeg = some v) (h1 : ¬ i < 0) (h2 : i < z) : KR l yJx4a65c_get_915e3 cJx4a65c_get_915e3 2 (.object "java/lang/Object") (rm 2 0 0) g [.ref b, .int i] N ad f N (fun r ad' f' => ad = ad' ∧ some v = r ∧ f = f') := by
  intro sz
  refine mt_start (by decide) (Nat.le_of_ble_eq_true rfl) ?_
  intro p e0 s m args below meth c hsz X hr hnam hA hK hT H locs B ls hl
  obtain ⟨hx, hb, hml, hown, hts, hlocks⟩ := id X
  have hl : lv_has ls 2 [(0, .ref b), (1, .int i)] := hl
  refine lv_iload_n hx hb dJx4a65c_get_915e3_0 rfl (lv_at hl 1 rfl) ?_
  refine lv_aload_n hx hb dJx4a65c_get_915e3_1 rfl (lv_at hl 0 rfl) ?_
  refine b_get (q := q) (k := 2) hbq X hK B rfl in_Jx4a65c hq hf (by decide) lk_Jx4a65c_48 rfl rfl dJx4a65c_get_915e3_2 ?_
  refine k_i (k := 0) (n := 0) hA B (u_S (rest := []) X (c_K_check2 l g N ad f i z h1 h2 H.size) mw_J15_checkIndex_7cf53 md_J15_checkIndex_7cf53 rfl lk_Jx4a65c_118 ⟨Nat.le_of_ble_eq_true rfl, Nat.le_of_ble_eq_true rfl⟩ hA hK hT B hl.1 rfl (Nat.le_of_ble_eq_true rfl) dJx4a65c_get_915e3_5 ⟨Nat.le_of_ble_eq_true rfl, Nat.le_of_ble_eq_true rfl⟩) (Nat.le_of_ble_eq_true rfl) (Nat.le_of_ble_eq_true rfl) (fun r ad' f' H locs hw B => ?_)
  obtain ⟨rfl, rfl, rfl⟩ := hw
  refine lv_pop hx hb dJx4a65c_get_915e3_8 rfl ?_
  refine lv_aload_n hx hb dJx4a65c_get_915e3_9 rfl (lv_at hl 0 rfl) ?_
  refine lv_iload_n hx hb dJx4a65c_get_915e3_10 rfl (lv_at hl 1 rfl) ?_
  refine k_r (k := 0) (n := 0) hA B (b_V (q := q) (rest := []) hbq X (c_L_elementData l g N ad f q b hq hbq mc z e hf qe n h hqe hbe hfe hne i v hi hv H.size) mw_Jx4a65c_elementData_915e3 md_Jx4a65c_elementData_915e3 rfl lk_Jx4a65c_123 ⟨Nat.le_of_ble_eq_true rfl, Nat.le_of_ble_eq_true rfl⟩ hA hK hT B hq hf rfl rfl hl.1 rfl (Nat.le_of_ble_eq_true rfl) dJx4a65c_get_915e3_11 ⟨Nat.le_of_ble_eq_true rfl, Nat.le_of_ble_eq_true rfl⟩) (Nat.le_of_ble_eq_true rfl) (Nat.le_of_ble_eq_true rfl) (fun r ad' f' H locs hw B => ?_)
  obtain ⟨rfl, rfl, rfl⟩ := hw
  exact rt_r (r := some v) rfl X hr (Or.inl ⟨_, rfl⟩) (ad, f) B (PO_of B) ⟨rfl, rfl, rfl⟩ (Nat.le_of_ble_eq_true rfl) (Nat.le_of_ble_eq_true rfl) dJx4a65c_get_915e3_14
set_option maxHeartbeats 4000000 in
theorem c_L_fastRemove (l : Launch) (g : GG) (N : Nat) (ad : Nat → Nat) (f : Nat → va_E) (q b : Nat) (hq : q < N) (hbq : ad q = b) (mc z : Int32) (e : Nat) (hf : f q = .inr (2, [.int mc, .ref e, .int z])) (qe n : Nat) (h : Nat → Option Nat) (hqe : qe < N) (hbe : ad qe = e) (hfe : f qe = c_ar (g.2.1 5) n h) (hne : q ≠ qe) (i : Int32) (hz : z - 1 ≤ i) (hi1 : vp_in (z - 1) n) : KV l yJx4a65c_fastRemove_b59b0 cJx4a65c_fastRemove_b59b0 4 (rm 0 0 0) g [.ref b, .ref e, .int i] N ad f N (fun ad' f' => ad = ad' ∧ va_up (va_up f q (.inr (2, [.int (mc + 1), .ref e, .int (z - 1)]))) qe (c_ar (g.2.1 5) n (va_up h (z - 1).toNatClampNeg none)) = f') := by
  intro sz
  refine mt_start (by decide) (Nat.le_of_ble_eq_true rfl) ?_
  intro p e0 s m args below meth c hsz X hr hnam hA hK hT H locs B ls hl
  obtain ⟨hx, hb, hml, hown, hts, hlocks⟩ := id X
  have hl : lv_has ls 4 [(0, .ref b), (1, .ref e), (2, .int i)] := hl
  refine lv_aload_n hx hb dJx4a65c_fastRemove_b59b0_0 rfl (lv_at hl 0 rfl) ?_
  refine lv_dup hx hb dJx4a65c_fastRemove_b59b0_1 rfl ?_
  refine b_getS (q := q) (k := 0) hbq X hK B rfl in_Jx4a65c hq hf (by decide) lk_Jx4a65c_63 sf_mod rfl dJx4a65c_fastRemove_b59b0_2 ?_
  refine lv_iconst (v := 1) hx hb dJx4a65c_fastRemove_b59b0_5 (by decide) ?_
  refine lv_iadd hx hb dJx4a65c_fastRemove_b59b0_6 ?_
  refine b_putS (q := q) (k := 0) hbq X hK B rfl in_Jx4a65c tyJx4a65c_ok nmJx4a65c hq hf (by decide) lk_Jx4a65c_63 sf_mod rfl rfl rfl rfl (Nat.le_of_ble_eq_true rfl) dJx4a65c_fastRemove_b59b0_7 (fun H locs B => ?_)
  have B : WB g (aw N ad sz) s.heap N ad (va_up f q (.inr (2, [.int (mc + 1), .ref e, .int z]))) H locs := B
  refine lv_aload_n hx hb dJx4a65c_fastRemove_b59b0_10 rfl (lv_at hl 0 rfl) ?_
  refine b_get (q := q) (k := 2) hbq X hK B rfl in_Jx4a65c hq (va_up_self _ _ _) (by decide) lk_Jx4a65c_48 rfl rfl dJx4a65c_fastRemove_b59b0_11 ?_
  refine lv_iconst (v := 1) hx hb dJx4a65c_fastRemove_b59b0_14 (by decide) ?_
  refine lv_isub hx hb dJx4a65c_fastRemove_b59b0_15 ?_
  refine lv_dup hx hb dJx4a65c_fastRemove_b59b0_16 rfl ?_
  refine lv_istore_n (lv' := [(3, .int (z - 1)), (0, .ref b), (1, .ref e), (2, .int i)]) hx hb dJx4a65c_fastRemove_b59b0_17 rfl hl (by decide) rfl (fun ls hl => ?_)
  refine lv_iload_n hx hb dJx4a65c_fastRemove_b59b0_18 rfl (lv_at hl 3 rfl) ?_
  refine lv_icmp_le (tgt := 34) hx hb dJx4a65c_fastRemove_b59b0_19 (by decide) (fun _ => ?_) (fun z => absurd hz z)
  refine lv_aload_n hx hb dJx4a65c_fastRemove_b59b0_34 rfl (lv_at hl 2 rfl) ?_
  refine lv_aload_n hx hb dJx4a65c_fastRemove_b59b0_35 rfl (lv_at hl 1 rfl) ?_
  refine lv_iload_n hx hb dJx4a65c_fastRemove_b59b0_36 rfl (lv_at hl 0 rfl) ?_
  refine lv_dup_x1 hx hb dJx4a65c_fastRemove_b59b0_37 rfl rfl ?_
  refine b_put (q := q) (k := 2) hbq X hK B rfl in_Jx4a65c tyJx4a65c_ok nmJx4a65c hq (va_up_self _ _ _) (by decide) lk_Jx4a65c_48 rfl rfl rfl rfl rfl (Nat.le_of_ble_eq_true rfl) dJx4a65c_fastRemove_b59b0_38 (fun H locs B => ?_)
  rw [bx_uu] at B
  have B : WB g (aw N ad sz) s.heap N ad (va_up f q (.inr (2, [.int (mc + 1), .ref e, .int (z - 1)]))) H locs := B
  refine lv_null hx hb dJx4a65c_fastRemove_b59b0_41 ?_
  refine b_aastN (q := qe) hbe X hK B hqe ((va_up_ne _ _ (fun z => hne z.symm)).trans hfe) hi1 dJx4a65c_fastRemove_b59b0_42 (fun H locs B => ?_)
  have B : WB g (aw N ad sz) s.heap N ad (va_up (va_up f q (.inr (2, [.int (mc + 1), .ref e, .int (z - 1)]))) qe (c_ar (g.2.1 5) n (va_up h (z - 1).toNatClampNeg none))) H locs := B
  exact rt_v X hr (ad, va_up (va_up f q (.inr (2, [.int (mc + 1), .ref e, .int (z - 1)]))) qe (c_ar (g.2.1 5) n (va_up h (z - 1).toNatClampNeg none))) B (PO_of B) ⟨rfl, rfl⟩ (Nat.le_of_ble_eq_true rfl) (Nat.le_of_ble_eq_true rfl) dJx4a65c_fastRemove_b59b0_43
set_option maxHeartbeats 4000000 in
theorem c_L_remove (l : Launch) (g : GG) (N : Nat) (ad : Nat → Nat) (f : Nat → va_E) (q b : Nat) (hq : q < N) (hbq : ad q = b) (mc z : Int32) (e : Nat) (hf : f q = .inr (2, [.int mc, .ref e, .int z])) (qe n : Nat) (h : Nat → Option Nat) (hqe : qe < N) (hbe : ad qe = e) (hfe : f qe = c_ar (g.2.1 5) n h) (hne : q ≠ qe) (i : Int32) (v : Nat) (hi : vp_in i n) (hv : h i.toNatClampNeg = some v) (h1 : ¬ i < 0) (h2 : i < z) (hz : z - 1 ≤ i) (hi1 : vp_in (z - 1) n) : KR l yJx4a65c_remove_915e3 cJx4a65c_remove_915e3 4 (.object "java/lang/Object") (rm 2 0 0) g [.ref b, .int i] N ad f N (fun r ad' f' => ad = ad' ∧ some v = r ∧ va_up (va_up f q (.inr (2, [.int (mc + 1), .ref e, .int (z - 1)]))) qe (c_ar (g.2.1 5) n (va_up h (z - 1).toNatClampNeg none)) = f') := by
  intro sz
  refine mt_start (by decide) (Nat.le_of_ble_eq_true rfl) ?_
  intro p e0 s m args below meth c hsz X hr hnam hA hK hT H locs B ls hl
  obtain ⟨hx, hb, hml, hown, hts, hlocks⟩ := id X
  have hl : lv_has ls 4 [(0, .ref b), (1, .int i)] := hl
  refine lv_iload_n hx hb dJx4a65c_remove_915e3_0 rfl (lv_at hl 1 rfl) ?_
  refine lv_aload_n hx hb dJx4a65c_remove_915e3_1 rfl (lv_at hl 0 rfl) ?_
  refine b_get (q := q) (k := 2) hbq X hK B rfl in_Jx4a65c hq hf (by decide) lk_Jx4a65c_48 rfl rfl dJx4a65c_remove_915e3_2 ?_
  refine k_i (k := 0) (n := 0) hA B (u_S (rest := []) X (c_K_check2 l g N ad f i z h1 h2 H.size) mw_J15_checkIndex_7cf53 md_J15_checkIndex_7cf53 rfl lk_Jx4a65c_118 ⟨Nat.le_of_ble_eq_true rfl, Nat.le_of_ble_eq_true rfl⟩ hA hK hT B hl.1 rfl (Nat.le_of_ble_eq_true rfl) dJx4a65c_remove_915e3_5 ⟨Nat.le_of_ble_eq_true rfl, Nat.le_of_ble_eq_true rfl⟩) (Nat.le_of_ble_eq_true rfl) (Nat.le_of_ble_eq_true rfl) (fun r ad' f' H locs hw B => ?_)
  obtain ⟨rfl, rfl, rfl⟩ := hw
  refine lv_pop hx hb dJx4a65c_remove_915e3_8 rfl ?_
  refine lv_aload_n hx hb dJx4a65c_remove_915e3_9 rfl (lv_at hl 0 rfl) ?_
  refine b_get (q := q) (k := 1) hbq X hK B rfl in_Jx4a65c hq hf (by decide) lk_Jx4a65c_9 rfl rfl dJx4a65c_remove_915e3_10 ?_
  refine lv_astore_n (lv' := [(2, .ref e), (0, .ref b), (1, .int i)]) hx hb dJx4a65c_remove_915e3_13 rfl hl (by decide) rfl (fun ls hl => ?_)
  refine lv_aload_n hx hb dJx4a65c_remove_915e3_14 rfl (lv_at hl 0 rfl) ?_
  refine lv_iload_n hx hb dJx4a65c_remove_915e3_15 rfl (lv_at hl 2 rfl) ?_
  refine b_aald (q := qe) (t0 := 5) (v := v) hbe X hK B hqe hfe rfl rfl hi hv dJx4a65c_remove_915e3_16 ?_
  refine lv_astore_n (lv' := [(3, .ref v), (2, .ref e), (0, .ref b), (1, .int i)]) hx hb dJx4a65c_remove_915e3_17 rfl hl (by decide) rfl (fun ls hl => ?_)
  refine lv_aload_n hx hb dJx4a65c_remove_915e3_18 rfl (lv_at hl 2 rfl) ?_
  refine lv_aload_n hx hb dJx4a65c_remove_915e3_19 rfl (lv_at hl 1 rfl) ?_
  refine lv_iload_n hx hb dJx4a65c_remove_915e3_20 rfl (lv_at hl 3 rfl) ?_
  refine k_v (k := 0) (n := 0) hA B (b_V (q := q) (rest := []) hbq X (c_L_fastRemove l g N ad f q b hq hbq mc z e hf qe n h hqe hbe hfe hne i hz hi1 H.size) mw_Jx4a65c_fastRemove_b59b0 md_Jx4a65c_fastRemove_b59b0 rfl lk_Jx4a65c_144 ⟨Nat.le_of_ble_eq_true rfl, Nat.le_of_ble_eq_true rfl⟩ hA hK hT B hq hf rfl rfl hl.1 rfl (Nat.le_of_ble_eq_true rfl) dJx4a65c_remove_915e3_21 ⟨Nat.le_of_ble_eq_true rfl, Nat.le_of_ble_eq_true rfl⟩) (Nat.le_of_ble_eq_true rfl) (Nat.le_of_ble_eq_true rfl) (fun ad' f' H locs hw B => ?_)
  obtain ⟨rfl, rfl⟩ := hw
  refine lv_aload_n hx hb dJx4a65c_remove_915e3_24 rfl (lv_at hl 0 rfl) ?_
  exact rt_r (r := some v) rfl X hr (Or.inl ⟨_, rfl⟩) (ad, va_up (va_up f q (.inr (2, [.int (mc + 1), .ref e, .int (z - 1)]))) qe (c_ar (g.2.1 5) n (va_up h (z - 1).toNatClampNeg none))) B (PO_of B) ⟨rfl, rfl, rfl⟩ (Nat.le_of_ble_eq_true rfl) (Nat.le_of_ble_eq_true rfl) dJx4a65c_remove_915e3_25
set_option maxHeartbeats 4000000 in
theorem c_L_grow1 (l : Launch) (g : GG) (N : Nat) (ad : Nat → Nat) (f : Nat → va_E) (q b : Nat) (hq : q < N) (hbq : ad q = b) (mc : Int32) (hf : f q = .inr (2, [.int mc, .ref (g.2.2 3), .int 0])) (i : Int32) (ha : ¬ 10 < i) : KR l yJx4a65c_grow_92f84 cJx4a65c_grow_92f84 4 (.array (.object "java/lang/Object")) (rm 1 1 10) g [.ref b, .int i] N ad f (N + 1) (fun r ad' f' => ∃ a : Nat, some a = r ∧ va_up ad N a = ad' ∧ va_up (va_up f N (c_ar (g.2.1 5) 10 (fun _ => none))) q (.inr (2, [.int mc, .ref a, .int 0])) = f') := by
  intro sz
  refine mt_start (by decide) (Nat.le_of_ble_eq_true rfl) ?_
  intro p e0 s m args below meth c hsz X hr hnam hA hK hT H locs B ls hl
  obtain ⟨hx, hb, hml, hown, hts, hlocks⟩ := id X
  have hl : lv_has ls 4 [(0, .ref b), (1, .int i)] := hl
  refine lv_aload_n hx hb dJx4a65c_grow_92f84_0 rfl (lv_at hl 0 rfl) ?_
  refine b_get (q := q) (k := 1) hbq X hK B rfl in_Jx4a65c hq hf (by decide) lk_Jx4a65c_9 rfl rfl dJx4a65c_grow_92f84_1 ?_
  refine va_tlen hx hb hT.2.1.2.2.2.2.2 B.2.2 (v := 0) rfl dJx4a65c_grow_92f84_4 ?_
  refine lv_istore_n (lv' := [(2, .int 0), (0, .ref b), (1, .int i)]) hx hb dJx4a65c_grow_92f84_5 rfl hl (by decide) rfl (fun ls hl => ?_)
  refine lv_iload_n hx hb dJx4a65c_grow_92f84_6 rfl (lv_at hl 0 rfl) ?_
  refine lv_if_gt (tgt := 20) hx hb dJx4a65c_grow_92f84_7 (by decide) (fun z => absurd z (by decide)) (fun _ => ?_)
  refine lv_aload_n hx hb dJx4a65c_grow_92f84_10 rfl (lv_at hl 1 rfl) ?_
  refine b_get (q := q) (k := 1) hbq X hK B rfl in_Jx4a65c hq hf (by decide) lk_Jx4a65c_9 rfl rfl dJx4a65c_grow_92f84_11 ?_
  refine va_gets hx hb hT.2.1.2.2.2.2.1 B.2.2 hown (hts _ (List.mem_cons_of_mem _ lk_Jx4a65c_39)) (fun _ h => h) dJx4a65c_grow_92f84_14 ?_
  refine lv_acmp_eq (rx := some _) (ry := some _) (tgt := 45) hx hb dJx4a65c_grow_92f84_17 (by decide) (fun _ => ?_) (fun z => absurd rfl z)
  refine lv_aload_n hx hb dJx4a65c_grow_92f84_45 rfl (lv_at hl 1 rfl) ?_
  refine lv_bipush (v := 10) hx hb dJx4a65c_grow_92f84_46 (by decide) ?_
  refine lv_iload_n hx hb dJx4a65c_grow_92f84_48 rfl (lv_at hl 2 rfl) ?_
  refine va_mmax (R := (rm 1 1 10)) (cells := 0) (slots := 0) (rest := [.ref b]) hx hb (by rw [hml]; exact hl.1.symm) hown (hts _ (List.mem_cons_of_mem _ lk_Jx4a65c_79)) (hts _ (List.mem_cons_of_mem _ mw_max.2.1)) (hts _ (List.mem_cons_of_mem _ mw_max.2.2)) (hts _ (List.mem_cons_of_mem _ mw_max.1)) (Nat.le_of_ble_eq_true rfl) (Nat.le_of_ble_eq_true rfl) (Nat.le_of_ble_eq_true rfl) (Nat.le_of_ble_eq_true rfl) dJx4a65c_grow_92f84_49 ?_
  rw [if_neg ha]
  refine b_anew (k := 10) (cz := 1) (sz := 10) X hA hK hT B lk_Jx4a65c_7 (by decide) (by decide) (by decide) (Nat.le_of_ble_eq_true rfl) (Nat.le_of_ble_eq_true rfl) (Nat.le_of_ble_eq_true rfl) (Nat.le_of_ble_eq_true rfl) dJx4a65c_grow_92f84_52 (fun z1 H B => ?_)
  refine lv_dup_x1 hx hb dJx4a65c_grow_92f84_55 rfl rfl ?_
  refine b_put (q := q) (k := 1) ((up_lt hq).trans hbq) X hK B rfl in_Jx4a65c tyJx4a65c_ok nmJx4a65c (Nat.lt_succ_of_lt hq) ((up_lt hq).trans hf) (by decide) lk_Jx4a65c_9 rfl rfl rfl rfl rfl (Nat.le_of_ble_eq_true rfl) dJx4a65c_grow_92f84_56 (fun H locs B => ?_)
  have B : WB g (aw N ad sz) s.heap (N + 1) (va_up ad N z1) (va_up (va_up f N (c_ar (g.2.1 5) 10 (fun _ => none))) q (.inr (2, [.int mc, .ref z1, .int 0]))) H locs := B
  exact rt_r (r := some z1) rfl X hr (Or.inr ⟨_, rfl⟩) (va_up ad N z1, va_up (va_up f N (c_ar (g.2.1 5) 10 (fun _ => none))) q (.inr (2, [.int mc, .ref z1, .int 0]))) B (PO_of B) ⟨_, rfl, rfl, rfl⟩ (Nat.le_of_ble_eq_true rfl) (Nat.le_of_ble_eq_true rfl) dJx4a65c_grow_92f84_59
set_option maxHeartbeats 4000000 in
theorem c_L_grow0 (l : Launch) (g : GG) (N : Nat) (ad : Nat → Nat) (f : Nat → va_E) (q b : Nat) (hq : q < N) (hbq : ad q = b) (mc : Int32) (hf : f q = .inr (2, [.int mc, .ref (g.2.2 3), .int 0])) : KR l yJx4a65c_grow_d5877 cJx4a65c_grow_d5877 1 (.array (.object "java/lang/Object")) (rm 2 1 10) g [.ref b] N ad f (N + 1) (fun r ad' f' => ∃ a : Nat, some a = r ∧ va_up ad N a = ad' ∧ va_up (va_up f N (c_ar (g.2.1 5) 10 (fun _ => none))) q (.inr (2, [.int mc, .ref a, .int 0])) = f') := by
  intro sz
  refine mt_start (by decide) (Nat.le_of_ble_eq_true rfl) ?_
  intro p e0 s m args below meth c hsz X hr hnam hA hK hT H locs B ls hl
  obtain ⟨hx, hb, hml, hown, hts, hlocks⟩ := id X
  have hl : lv_has ls 1 [(0, .ref b)] := hl
  refine lv_aload_n hx hb dJx4a65c_grow_d5877_0 rfl (lv_at hl 0 rfl) ?_
  refine lv_aload_n hx hb dJx4a65c_grow_d5877_1 rfl (lv_at hl 0 rfl) ?_
  refine b_get (q := q) (k := 2) hbq X hK B rfl in_Jx4a65c hq hf (by decide) lk_Jx4a65c_48 rfl rfl dJx4a65c_grow_d5877_2 ?_
  refine lv_iconst (v := 1) hx hb dJx4a65c_grow_d5877_5 (by decide) ?_
  refine lv_iadd hx hb dJx4a65c_grow_d5877_6 ?_
  refine k_r (k := 1) (n := 10) hA B (b_V (q := q) (rest := []) hbq X (c_L_grow1 l g N ad f q b hq hbq mc hf (0 + 1) (by decide) H.size) mw_Jx4a65c_grow_92f84 md_Jx4a65c_grow_92f84 rfl lk_Jx4a65c_69 ⟨Nat.le_of_ble_eq_true rfl, Nat.le_of_ble_eq_true rfl⟩ hA hK hT B hq hf rfl rfl hl.1 rfl (Nat.le_of_ble_eq_true rfl) dJx4a65c_grow_d5877_7 ⟨Nat.le_of_ble_eq_true rfl, Nat.le_of_ble_eq_true rfl⟩) (Nat.le_of_ble_eq_true rfl) (Nat.le_of_ble_eq_true rfl) (fun r ad' f' H locs hw B => ?_)
  obtain ⟨z1, rfl, rfl, rfl⟩ := hw
  exact rt_r (r := some z1) rfl X hr (Or.inr ⟨_, rfl⟩) (va_up ad N z1, va_up (va_up f N (c_ar (g.2.1 5) 10 (fun _ => none))) q (.inr (2, [.int mc, .ref z1, .int 0]))) B (PO_of B) ⟨_, rfl, rfl, rfl⟩ (Nat.le_of_ble_eq_true rfl) (Nat.le_of_ble_eq_true rfl) dJx4a65c_grow_d5877_10
set_option maxHeartbeats 4000000 in
theorem c_L_add3Z (l : Launch) (g : GG) (N : Nat) (ad : Nat → Nat) (f : Nat → va_E) (q b : Nat) (hq : q < N) (hbq : ad q = b) (mc : Int32) (hf : f q = .inr (2, [.int mc, .ref (g.2.2 3), .int 0])) (qv bv : Nat) (t : TR) (hqv : qv < N) (hbv : ad qv = bv) (hfv : f qv = c_row g t) (hnv : q ≠ qv) : KV l yJx4a65c_add_72be8 cJx4a65c_add_72be8 4 (rm 3 1 10) g [.ref b, .ref bv, .ref (g.2.2 3), .int 0] N ad f (N + 1) (fun ad' f' => ∃ a : Nat, va_up ad N a = ad' ∧ va_up (va_up (va_up (va_up f N (c_ar (g.2.1 5) 10 (fun _ => none))) q (.inr (2, [.int mc, .ref a, .int 0]))) N (c_ar (g.2.1 5) 10 (va_up (fun _ => none) (0 : Int32).toNatClampNeg (some bv)))) q (.inr (2, [.int mc, .ref a, .int (0 + 1)])) = f') := by
  intro sz
  refine mt_start (by decide) (Nat.le_of_ble_eq_true rfl) ?_
  intro p e0 s m args below meth c hsz X hr hnam hA hK hT H locs B ls hl
  obtain ⟨hx, hb, hml, hown, hts, hlocks⟩ := id X
  have hl : lv_has ls 4 [(0, .ref b), (1, .ref bv), (2, .ref (g.2.2 3)), (3, .int 0)] := hl
  refine lv_iload_n hx hb dJx4a65c_add_72be8_0 rfl (lv_at hl 3 rfl) ?_
  refine lv_aload_n hx hb dJx4a65c_add_72be8_1 rfl (lv_at hl 2 rfl) ?_
  refine va_tlen hx hb hT.2.1.2.2.2.2.2 B.2.2 (v := 0) rfl dJx4a65c_add_72be8_2 ?_
  refine lv_icmp_ne (tgt := 11) hx hb dJx4a65c_add_72be8_3 (by decide) (fun z => absurd z (by decide)) (fun _ => ?_)
  refine lv_aload_n hx hb dJx4a65c_add_72be8_6 rfl (lv_at hl 0 rfl) ?_
  refine k_r (k := 1) (n := 10) hA B (b_V (q := q) (rest := []) hbq X (c_L_grow0 l g N ad f q b hq hbq mc hf H.size) mw_Jx4a65c_grow_d5877 md_Jx4a65c_grow_d5877 rfl lk_Jx4a65c_129 ⟨Nat.le_of_ble_eq_true rfl, Nat.le_of_ble_eq_true rfl⟩ hA hK hT B hq hf rfl rfl hl.1 rfl (Nat.le_of_ble_eq_true rfl) dJx4a65c_add_72be8_7 ⟨Nat.le_of_ble_eq_true rfl, Nat.le_of_ble_eq_true rfl⟩) (Nat.le_of_ble_eq_true rfl) (Nat.le_of_ble_eq_true rfl) (fun r ad' f' H locs hw B => ?_)
  obtain ⟨z1, rfl, rfl, rfl⟩ := hw
  refine lv_astore_n (lv' := [(2, .ref z1), (0, .ref b), (1, .ref bv), (3, .int 0)]) hx hb dJx4a65c_add_72be8_10 rfl hl (by decide) rfl (fun ls hl => ?_)
  refine lv_aload_n hx hb dJx4a65c_add_72be8_11 rfl (lv_at hl 0 rfl) ?_
  refine lv_iload_n hx hb dJx4a65c_add_72be8_12 rfl (lv_at hl 3 rfl) ?_
  refine lv_aload_n hx hb dJx4a65c_add_72be8_13 rfl (lv_at hl 2 rfl) ?_
  refine b_aastO (q := N) (qv := qv) up_eq X hK hT B (Nat.lt_succ_self _) ((va_up_ne _ _ (fun z => Nat.ne_of_lt hq z.symm)).trans up_eq) (Nat.lt_succ_of_lt hqv) ((up_lt hqv).trans hbv) ((va_up_ne _ _ (fun z => hnv z.symm)).trans ((up_lt hqv).trans hfv)) (by unfold vp_in; decide) dJx4a65c_add_72be8_14 (fun H locs B => ?_)
  have B : WB g (aw N ad sz) s.heap (N + 1) (va_up ad N z1) (va_up (va_up (va_up f N (c_ar (g.2.1 5) 10 (fun _ => none))) q (.inr (2, [.int mc, .ref z1, .int 0]))) N (c_ar (g.2.1 5) 10 (va_up (fun _ => none) (0 : Int32).toNatClampNeg (some bv)))) H locs := B
  refine lv_aload_n hx hb dJx4a65c_add_72be8_15 rfl (lv_at hl 1 rfl) ?_
  refine lv_iload_n hx hb dJx4a65c_add_72be8_16 rfl (lv_at hl 3 rfl) ?_
  refine lv_iconst (v := 1) hx hb dJx4a65c_add_72be8_17 (by decide) ?_
  refine lv_iadd hx hb dJx4a65c_add_72be8_18 ?_
  refine b_put (q := q) (k := 2) ((up_lt hq).trans hbq) X hK B rfl in_Jx4a65c tyJx4a65c_ok nmJx4a65c (Nat.lt_succ_of_lt hq) ((va_up_ne _ _ (Nat.ne_of_lt hq)).trans (va_up_self _ _ _)) (by decide) lk_Jx4a65c_48 rfl rfl rfl rfl rfl (Nat.le_of_ble_eq_true rfl) dJx4a65c_add_72be8_19 (fun H locs B => ?_)
  have B : WB g (aw N ad sz) s.heap (N + 1) (va_up ad N z1) (va_up (va_up (va_up (va_up f N (c_ar (g.2.1 5) 10 (fun _ => none))) q (.inr (2, [.int mc, .ref z1, .int 0]))) N (c_ar (g.2.1 5) 10 (va_up (fun _ => none) (0 : Int32).toNatClampNeg (some bv)))) q (.inr (2, [.int mc, .ref z1, .int (0 + 1)]))) H locs := B
  exact rt_v X hr (va_up ad N z1, va_up (va_up (va_up (va_up f N (c_ar (g.2.1 5) 10 (fun _ => none))) q (.inr (2, [.int mc, .ref z1, .int 0]))) N (c_ar (g.2.1 5) 10 (va_up (fun _ => none) (0 : Int32).toNatClampNeg (some bv)))) q (.inr (2, [.int mc, .ref z1, .int (0 + 1)]))) B (PO_of B) ⟨_, rfl, rfl⟩ (Nat.le_of_ble_eq_true rfl) (Nat.le_of_ble_eq_true rfl) dJx4a65c_add_72be8_22
set_option maxHeartbeats 4000000 in
theorem c_L_addZ (l : Launch) (g : GG) (N : Nat) (ad : Nat → Nat) (f : Nat → va_E) (q b : Nat) (hq : q < N) (hbq : ad q = b) (mc : Int32) (hf : f q = .inr (2, [.int mc, .ref (g.2.2 3), .int 0])) (qv bv : Nat) (t : TR) (hqv : qv < N) (hbv : ad qv = bv) (hfv : f qv = c_row g t) (hnv : q ≠ qv) : KI l yJx4a65c_add_9ea2d cJx4a65c_add_9ea2d 2 (some .boolean) (rm 4 1 10) g [.ref b, .ref bv] N ad f (N + 1) (fun r ad' f' => ∃ a : Nat, va_up ad N a = ad' ∧ va_up (va_up (va_up (va_up (va_up f q (.inr (2, [.int (mc + 1), .ref (g.2.2 3), .int 0]))) N (c_ar (g.2.1 5) 10 (fun _ => none))) q (.inr (2, [.int (mc + 1), .ref a, .int 0]))) N (c_ar (g.2.1 5) 10 (va_up (fun _ => none) (0 : Int32).toNatClampNeg (some bv)))) q (.inr (2, [.int (mc + 1), .ref a, .int (0 + 1)])) = f') := by
  intro sz
  refine mt_start (by decide) (Nat.le_of_ble_eq_true rfl) ?_
  intro p e0 s m args below meth c hsz X hr hnam hA hK hT H locs B ls hl
  obtain ⟨hx, hb, hml, hown, hts, hlocks⟩ := id X
  have hl : lv_has ls 2 [(0, .ref b), (1, .ref bv)] := hl
  refine lv_aload_n hx hb dJx4a65c_add_9ea2d_0 rfl (lv_at hl 0 rfl) ?_
  refine lv_dup hx hb dJx4a65c_add_9ea2d_1 rfl ?_
  refine b_getS (q := q) (k := 0) hbq X hK B rfl in_Jx4a65c hq hf (by decide) lk_Jx4a65c_63 sf_mod rfl dJx4a65c_add_9ea2d_2 ?_
  refine lv_iconst (v := 1) hx hb dJx4a65c_add_9ea2d_5 (by decide) ?_
  refine lv_iadd hx hb dJx4a65c_add_9ea2d_6 ?_
  refine b_putS (q := q) (k := 0) hbq X hK B rfl in_Jx4a65c tyJx4a65c_ok nmJx4a65c hq hf (by decide) lk_Jx4a65c_63 sf_mod rfl rfl rfl rfl (Nat.le_of_ble_eq_true rfl) dJx4a65c_add_9ea2d_7 (fun H locs B => ?_)
  have B : WB g (aw N ad sz) s.heap N ad (va_up f q (.inr (2, [.int (mc + 1), .ref (g.2.2 3), .int 0]))) H locs := B
  refine lv_aload_n hx hb dJx4a65c_add_9ea2d_10 rfl (lv_at hl 0 rfl) ?_
  refine lv_aload_n hx hb dJx4a65c_add_9ea2d_11 rfl (lv_at hl 1 rfl) ?_
  refine lv_aload_n hx hb dJx4a65c_add_9ea2d_12 rfl (lv_at hl 0 rfl) ?_
  refine b_get (q := q) (k := 1) hbq X hK B rfl in_Jx4a65c hq (va_up_self _ _ _) (by decide) lk_Jx4a65c_9 rfl rfl dJx4a65c_add_9ea2d_13 ?_
  refine lv_aload_n hx hb dJx4a65c_add_9ea2d_16 rfl (lv_at hl 0 rfl) ?_
  refine b_get (q := q) (k := 2) hbq X hK B rfl in_Jx4a65c hq (va_up_self _ _ _) (by decide) lk_Jx4a65c_48 rfl rfl dJx4a65c_add_9ea2d_17 ?_
  refine k_v (k := 1) (n := 10) hA B (b_V (q := q) (rest := []) hbq X (c_L_add3Z l g N ad (va_up f q (.inr (2, [.int (mc + 1), .ref (g.2.2 3), .int 0]))) q b hq hbq (mc + 1) (va_up_self _ _ _) qv bv t hqv hbv ((va_up_ne _ _ (fun z => hnv z.symm)).trans hfv) hnv H.size) mw_Jx4a65c_add_72be8 md_Jx4a65c_add_72be8 rfl lk_Jx4a65c_131 ⟨Nat.le_of_ble_eq_true rfl, Nat.le_of_ble_eq_true rfl⟩ hA hK hT B hq (va_up_self _ _ _) rfl rfl hl.1 rfl (Nat.le_of_ble_eq_true rfl) dJx4a65c_add_9ea2d_20 ⟨Nat.le_of_ble_eq_true rfl, Nat.le_of_ble_eq_true rfl⟩) (Nat.le_of_ble_eq_true rfl) (Nat.le_of_ble_eq_true rfl) (fun ad' f' H locs hw B => ?_)
  obtain ⟨z1, rfl, rfl⟩ := hw
  refine lv_iconst (v := 1) hx hb dJx4a65c_add_9ea2d_23 (by decide) ?_
  exact rt_i X hr (va_up ad N z1, va_up (va_up (va_up (va_up (va_up f q (.inr (2, [.int (mc + 1), .ref (g.2.2 3), .int 0]))) N (c_ar (g.2.1 5) 10 (fun _ => none))) q (.inr (2, [.int (mc + 1), .ref z1, .int 0]))) N (c_ar (g.2.1 5) 10 (va_up (fun _ => none) (0 : Int32).toNatClampNeg (some bv)))) q (.inr (2, [.int (mc + 1), .ref z1, .int (0 + 1)]))) B (PO_of B) ⟨_, rfl, rfl⟩ rfl (Nat.le_of_ble_eq_true rfl) (Nat.le_of_ble_eq_true rfl) dJx4a65c_add_9ea2d_24
set_option maxHeartbeats 4000000 in
theorem c_L_add3 (l : Launch) (g : GG) (N : Nat) (ad : Nat → Nat) (f : Nat → va_E) (q b : Nat) (hq : q < N) (hbq : ad q = b) (mc z : Int32) (e : Nat) (hf : f q = .inr (2, [.int mc, .ref e, .int z])) (qe n : Nat) (h : Nat → Option Nat) (hqe : qe < N) (hbe : ad qe = e) (hfe : f qe = c_ar (g.2.1 5) n h) (hne : q ≠ qe) (qv bv : Nat) (t : TR) (hqv : qv < N) (hbv : ad qv = bv) (hfv : f qv = c_row g t) (hnv : q ≠ qv) (hnw : qe ≠ qv) (hzn : ¬ z = Int32.ofNat n) (hi : vp_in z n) : KV l yJx4a65c_add_72be8 cJx4a65c_add_72be8 4 (rm 0 0 0) g [.ref b, .ref bv, .ref e, .int z] N ad f N (fun ad' f' => ad = ad' ∧ va_up (va_up (f) qe (c_ar (g.2.1 5) n (va_up h z.toNatClampNeg (some bv)))) q (.inr (2, [.int mc, .ref e, .int (z + 1)])) = f') := by
  intro sz
  refine mt_start (by decide) (Nat.le_of_ble_eq_true rfl) ?_
  intro p e0 s m args below meth c hsz X hr hnam hA hK hT H locs B ls hl
  obtain ⟨hx, hb, hml, hown, hts, hlocks⟩ := id X
  have hl : lv_has ls 4 [(0, .ref b), (1, .ref bv), (2, .ref e), (3, .int z)] := hl
  refine lv_iload_n hx hb dJx4a65c_add_72be8_0 rfl (lv_at hl 3 rfl) ?_
  refine lv_aload_n hx hb dJx4a65c_add_72be8_1 rfl (lv_at hl 2 rfl) ?_
  refine b_alen (t0 := 5) (v := Int32.ofNat n) hbe X hK B hqe hfe rfl rfl dJx4a65c_add_72be8_2 ?_
  refine lv_icmp_ne (tgt := 11) hx hb dJx4a65c_add_72be8_3 (by decide) (fun _ => ?_) (fun z => absurd z hzn)
  refine lv_aload_n hx hb dJx4a65c_add_72be8_11 rfl (lv_at hl 2 rfl) ?_
  refine lv_iload_n hx hb dJx4a65c_add_72be8_12 rfl (lv_at hl 3 rfl) ?_
  refine lv_aload_n hx hb dJx4a65c_add_72be8_13 rfl (lv_at hl 1 rfl) ?_
  refine b_aastO (q := qe) (qv := qv) hbe X hK hT B hqe hfe hqv hbv hfv hi dJx4a65c_add_72be8_14 (fun H locs B => ?_)
  have B : WB g (aw N ad sz) s.heap N ad (va_up f qe (c_ar (g.2.1 5) n (va_up h z.toNatClampNeg (some bv)))) H locs := B
  refine lv_aload_n hx hb dJx4a65c_add_72be8_15 rfl (lv_at hl 0 rfl) ?_
  refine lv_iload_n hx hb dJx4a65c_add_72be8_16 rfl (lv_at hl 3 rfl) ?_
  refine lv_iconst (v := 1) hx hb dJx4a65c_add_72be8_17 (by decide) ?_
  refine lv_iadd hx hb dJx4a65c_add_72be8_18 ?_
  refine b_put (q := q) (k := 2) hbq X hK B rfl in_Jx4a65c tyJx4a65c_ok nmJx4a65c hq ((va_up_ne _ _ hne).trans hf) (by decide) lk_Jx4a65c_48 rfl rfl rfl rfl rfl (Nat.le_of_ble_eq_true rfl) dJx4a65c_add_72be8_19 (fun H locs B => ?_)
  have B : WB g (aw N ad sz) s.heap N ad (va_up (va_up f qe (c_ar (g.2.1 5) n (va_up h z.toNatClampNeg (some bv)))) q (.inr (2, [.int mc, .ref e, .int (z + 1)]))) H locs := B
  exact rt_v X hr (ad, va_up (va_up f qe (c_ar (g.2.1 5) n (va_up h z.toNatClampNeg (some bv)))) q (.inr (2, [.int mc, .ref e, .int (z + 1)]))) B (PO_of B) ⟨rfl, rfl⟩ (Nat.le_of_ble_eq_true rfl) (Nat.le_of_ble_eq_true rfl) dJx4a65c_add_72be8_22
set_option maxHeartbeats 4000000 in
theorem c_L_add (l : Launch) (g : GG) (N : Nat) (ad : Nat → Nat) (f : Nat → va_E) (q b : Nat) (hq : q < N) (hbq : ad q = b) (mc z : Int32) (e : Nat) (hf : f q = .inr (2, [.int mc, .ref e, .int z])) (qe n : Nat) (h : Nat → Option Nat) (hqe : qe < N) (hbe : ad qe = e) (hfe : f qe = c_ar (g.2.1 5) n h) (hne : q ≠ qe) (qv bv : Nat) (t : TR) (hqv : qv < N) (hbv : ad qv = bv) (hfv : f qv = c_row g t) (hnv : q ≠ qv) (hnw : qe ≠ qv) (hzn : ¬ z = Int32.ofNat n) (hi : vp_in z n) : KI l yJx4a65c_add_9ea2d cJx4a65c_add_9ea2d 2 (some .boolean) (rm 1 0 0) g [.ref b, .ref bv] N ad f N (fun r ad' f' => ad = ad' ∧ va_up (va_up (va_up f q (.inr (2, [.int (mc + 1), .ref e, .int z]))) qe (c_ar (g.2.1 5) n (va_up h z.toNatClampNeg (some bv)))) q (.inr (2, [.int (mc + 1), .ref e, .int (z + 1)])) = f') := by
  intro sz
  refine mt_start (by decide) (Nat.le_of_ble_eq_true rfl) ?_
  intro p e0 s m args below meth c hsz X hr hnam hA hK hT H locs B ls hl
  obtain ⟨hx, hb, hml, hown, hts, hlocks⟩ := id X
  have hl : lv_has ls 2 [(0, .ref b), (1, .ref bv)] := hl
  refine lv_aload_n hx hb dJx4a65c_add_9ea2d_0 rfl (lv_at hl 0 rfl) ?_
  refine lv_dup hx hb dJx4a65c_add_9ea2d_1 rfl ?_
  refine b_getS (q := q) (k := 0) hbq X hK B rfl in_Jx4a65c hq hf (by decide) lk_Jx4a65c_63 sf_mod rfl dJx4a65c_add_9ea2d_2 ?_
  refine lv_iconst (v := 1) hx hb dJx4a65c_add_9ea2d_5 (by decide) ?_
  refine lv_iadd hx hb dJx4a65c_add_9ea2d_6 ?_
  refine b_putS (q := q) (k := 0) hbq X hK B rfl in_Jx4a65c tyJx4a65c_ok nmJx4a65c hq hf (by decide) lk_Jx4a65c_63 sf_mod rfl rfl rfl rfl (Nat.le_of_ble_eq_true rfl) dJx4a65c_add_9ea2d_7 (fun H locs B => ?_)
  have B : WB g (aw N ad sz) s.heap N ad (va_up f q (.inr (2, [.int (mc + 1), .ref e, .int z]))) H locs := B
  refine lv_aload_n hx hb dJx4a65c_add_9ea2d_10 rfl (lv_at hl 0 rfl) ?_
  refine lv_aload_n hx hb dJx4a65c_add_9ea2d_11 rfl (lv_at hl 1 rfl) ?_
  refine lv_aload_n hx hb dJx4a65c_add_9ea2d_12 rfl (lv_at hl 0 rfl) ?_
  refine b_get (q := q) (k := 1) hbq X hK B rfl in_Jx4a65c hq (va_up_self _ _ _) (by decide) lk_Jx4a65c_9 rfl rfl dJx4a65c_add_9ea2d_13 ?_
  refine lv_aload_n hx hb dJx4a65c_add_9ea2d_16 rfl (lv_at hl 0 rfl) ?_
  refine b_get (q := q) (k := 2) hbq X hK B rfl in_Jx4a65c hq (va_up_self _ _ _) (by decide) lk_Jx4a65c_48 rfl rfl dJx4a65c_add_9ea2d_17 ?_
  refine k_v (k := 0) (n := 0) hA B (b_V (q := q) (rest := []) hbq X (c_L_add3 l g N ad (va_up f q (.inr (2, [.int (mc + 1), .ref e, .int z]))) q b hq hbq (mc + 1) z e (va_up_self _ _ _) qe n h hqe hbe ((va_up_ne _ _ (fun z => hne z.symm)).trans hfe) hne qv bv t hqv hbv ((va_up_ne _ _ (fun z => hnv z.symm)).trans hfv) hnv hnw hzn hi H.size) mw_Jx4a65c_add_72be8 md_Jx4a65c_add_72be8 rfl lk_Jx4a65c_131 ⟨Nat.le_of_ble_eq_true rfl, Nat.le_of_ble_eq_true rfl⟩ hA hK hT B hq (va_up_self _ _ _) rfl rfl hl.1 rfl (Nat.le_of_ble_eq_true rfl) dJx4a65c_add_9ea2d_20 ⟨Nat.le_of_ble_eq_true rfl, Nat.le_of_ble_eq_true rfl⟩) (Nat.le_of_ble_eq_true rfl) (Nat.le_of_ble_eq_true rfl) (fun ad' f' H locs hw B => ?_)
  obtain ⟨rfl, rfl⟩ := hw
  refine lv_iconst (v := 1) hx hb dJx4a65c_add_9ea2d_23 (by decide) ?_
  exact rt_i X hr (ad, va_up (va_up (va_up f q (.inr (2, [.int (mc + 1), .ref e, .int z]))) qe (c_ar (g.2.1 5) n (va_up h z.toNatClampNeg (some bv)))) q (.inr (2, [.int (mc + 1), .ref e, .int (z + 1)]))) B (PO_of B) ⟨rfl, rfl⟩ rfl (Nat.le_of_ble_eq_true rfl) (Nat.le_of_ble_eq_true rfl) dJx4a65c_add_9ea2d_24
