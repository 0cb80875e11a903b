set_option maxHeartbeats 4000000 in
set_option maxRecDepth 100000 in
theorem c_X2_resultInSigns (l : Launch) (g : GG) (N : Nat) (ad : Nat → Nat) (x : Nat → va_E) (sp dy : Nat → TR) (la kn re : Int32) (hN : 23 ≤ N) (a1 : Int32) : KR l yX2_resultInSigns cX2_resultInSigns 2 (.object "java/lang/String") (rm 7 6 166) g [.ref (ad 0), .int a1] N ad (cf g ad x sp dy la kn re) N (fun r ad' f' => ad = ad' ∧ (∃ a : Nat, some a = r) ∧ (cf g ad x sp dy la kn re) = f') := by
  intro sz
  refine mt_start (by decide) (Nat.le_of_ble_eq_true rfl) ?_
  intro p e s m args below meth c hsz X hr hnam hA hK hT H locs B ls hl
  obtain ⟨hx, hb, hml, hown, hts, hlocks⟩ := id X
  have hl : lv_has ls 2 [(0, .ref (ad 0)), (1, .int a1)] := hl
  refine lv_iload_n hx hb dX2_resultInSigns_0 rfl (lv_at hl 1 rfl) ?_
  refine lv_if_eq (tgt := 14) hx hb dX2_resultInSigns_1 (by decide) (fun c1 => ?_) (fun c1 => ?_)
  · refine b_ldc (i := 0) (by decide) rfl rfl X hT dX2_resultInSigns_14 ?_
    exact rt_r (r := some (g.2.2 (100 + 0))) rfl X hr (Or.inl ⟨_, rfl⟩) (ad, (cf g ad x sp dy la kn re)) B (PO_of B) ⟨rfl, ⟨_, rfl⟩, rfl⟩ (Nat.le_of_ble_eq_true rfl) (Nat.le_of_ble_eq_true rfl) dX2_resultInSigns_16
  · refine lv_aload_n hx hb dX2_resultInSigns_4 rfl (lv_at hl 0 rfl) ?_
    refine g_get (q := 0) (k := 6) X hK B rfl in_X2 (pl_c hN 0 (by decide)) cf_0 (by decide) lk_X2_25 rfl rfl dX2_resultInSigns_5 ?_
    refine k_r (k := 6) (n := 166) hA B (u_VN (rest := []) X (c_W_inS l g N ad (cf g ad x sp dy la kn re) (4 + 12) (ad (4 + 12)) (sp 12) (pl_sp hN (by decide)) rfl (cf_sp (by decide)) H.size) mw_X1_inSigns md_X1_inSigns rfl lk_X2_100 ⟨Nat.le_of_ble_eq_true rfl, Nat.le_of_ble_eq_true rfl⟩ hA hK hT B (pl_sp hN (by decide)) (cf_sp (by decide)) rfl rfl hl.1 rfl (Nat.le_of_ble_eq_true rfl) dX2_resultInSigns_8 ⟨Nat.le_of_ble_eq_true rfl, Nat.le_of_ble_eq_true rfl⟩) (Nat.le_of_ble_eq_true rfl) (Nat.le_of_ble_eq_true rfl) (fun r ad' f' H locs hw B => ?_)
    obtain ⟨rfl, ⟨so2, rfl⟩, rfl⟩ := hw
    refine lv_goto (tgt := 16) hx hb dX2_resultInSigns_11 (by decide) ?_
    exact rt_r (r := some (so2)) rfl X hr (Or.inl ⟨_, rfl⟩) (ad, (cf g ad x sp dy la kn re)) B (PO_of B) ⟨rfl, ⟨_, rfl⟩, rfl⟩ (Nat.le_of_ble_eq_true rfl) (Nat.le_of_ble_eq_true rfl) dX2_resultInSigns_16
set_option maxHeartbeats 4000000 in
set_option maxRecDepth 100000 in
theorem c_X2_piled (l : Launch) (g : GG) (N : Nat) (ad : Nat → Nat) (x : Nat → va_E) (sp dy : Nat → TR) (la kn re : Int32) (hN : 23 ≤ N) (hla : ¬ la < 0) (hlb : ¬ 8 < la) (a1 : Int32) : KR l yX2_piled cX2_piled 2 (.object "java/lang/String") (rm 7 6 166) g [.ref (ad 0), .int a1] N ad (cf g ad x sp dy la kn re) N (fun r ad' f' => ad = ad' ∧ (∃ a : Nat, some a = r) ∧ (cf g ad x sp dy la kn re) = f') := by
  intro sz
  refine mt_start (by decide) (Nat.le_of_ble_eq_true rfl) ?_
  intro p e s m args below meth c hsz X hr hnam hA hK hT H locs B ls hl
  obtain ⟨hx, hb, hml, hown, hts, hlocks⟩ := id X
  have hl : lv_has ls 2 [(0, .ref (ad 0)), (1, .int a1)] := hl
  refine lv_iload_n hx hb dX2_piled_0 rfl (lv_at hl 1 rfl) ?_
  refine lv_if_lt (tgt := 12) hx hb dX2_piled_1 (by decide) (fun c1 => ?_) (fun c1 => ?_)
  · refine b_ldc (i := 0) (by decide) rfl rfl X hT dX2_piled_12 ?_
    exact rt_r (r := some (g.2.2 (100 + 0))) rfl X hr (Or.inl ⟨_, rfl⟩) (ad, (cf g ad x sp dy la kn re)) B (PO_of B) ⟨rfl, ⟨_, rfl⟩, rfl⟩ (Nat.le_of_ble_eq_true rfl) (Nat.le_of_ble_eq_true rfl) dX2_piled_14
  · refine lv_iload_n hx hb dX2_piled_4 rfl (lv_at hl 1 rfl) ?_
    refine lv_aload_n hx hb dX2_piled_5 rfl (lv_at hl 0 rfl) ?_
    refine g_get (q := 0) (k := 3) X hK B rfl in_X2 (pl_c hN 0 (by decide)) cf_0 (by decide) lk_X2_91 rfl rfl dX2_piled_6 ?_
    refine lv_icmp_lt (tgt := 15) hx hb dX2_piled_9 (by decide) (fun c2 => ?_) (fun c2 => ?_)
    · refine lv_aload_n hx hb dX2_piled_15 rfl (lv_at hl 0 rfl) ?_
      refine g_get (q := 0) (k := 1) X hK B rfl in_X2 (pl_c hN 0 (by decide)) cf_0 (by decide) lk_X2_15 rfl rfl dX2_piled_16 ?_
      refine lv_iload_n hx hb dX2_piled_19 rfl (lv_at hl 1 rfl) ?_
      refine g_aald (q := 2) (t0 := 3) X hK B (pl_c hN 2 (by decide)) cf_2 rfl rfl (ix_in (n := 8) c1 (le_tr (Int32.not_le.mpr c2) hlb) rfl) dX2_piled_20 ?_
      have h3 : 4 + a1.toNatClampNeg < 14 := by have := (ix_lt (n := 8) c1 (le_tr (Int32.not_le.mpr c2) hlb) rfl); omega
      rw [show va_rf (some (ad (8 + a1.toNatClampNeg))) = Value.ref (ad (4 + (4 + a1.toNatClampNeg))) from by rw [← Nat.add_assoc]; rfl]
      refine k_r (k := 6) (n := 166) hA B (u_VN (rest := []) X (c_W_inS l g N ad (cf g ad x sp dy la kn re) (4 + (4 + a1.toNatClampNeg)) (ad (4 + (4 + a1.toNatClampNeg))) (sp (4 + a1.toNatClampNeg)) (pl_sp hN h3) rfl (cf_sp h3) H.size) mw_X1_inSigns md_X1_inSigns rfl lk_X2_100 ⟨Nat.le_of_ble_eq_true rfl, Nat.le_of_ble_eq_true rfl⟩ hA hK hT B (pl_sp hN h3) (cf_sp h3) rfl rfl hl.1 rfl (Nat.le_of_ble_eq_true rfl) dX2_piled_21 ⟨Nat.le_of_ble_eq_true rfl, Nat.le_of_ble_eq_true rfl⟩) (Nat.le_of_ble_eq_true rfl) (Nat.le_of_ble_eq_true rfl) (fun r ad' f' H locs hw B => ?_)
      obtain ⟨rfl, ⟨so4, rfl⟩, rfl⟩ := hw
      exact rt_r (r := some (so4)) rfl X hr (Or.inl ⟨_, rfl⟩) (ad, (cf g ad x sp dy la kn re)) B (PO_of B) ⟨rfl, ⟨_, rfl⟩, rfl⟩ (Nat.le_of_ble_eq_true rfl) (Nat.le_of_ble_eq_true rfl) dX2_piled_24
    · refine b_ldc (i := 0) (by decide) rfl rfl X hT dX2_piled_12 ?_
      exact rt_r (r := some (g.2.2 (100 + 0))) rfl X hr (Or.inl ⟨_, rfl⟩) (ad, (cf g ad x sp dy la kn re)) B (PO_of B) ⟨rfl, ⟨_, rfl⟩, rfl⟩ (Nat.le_of_ble_eq_true rfl) (Nat.le_of_ble_eq_true rfl) dX2_piled_14
def x_X2_total (a1 : Int32) : Option String := xo (x_X2_cardAt a1) none
set_option maxHeartbeats 4000000 in
set_option maxRecDepth 100000 in
theorem c_X2_total (l : Launch) (hfl : l.stackTraces = false) (g : GG) (N : Nat) (ad : Nat → Nat) (x : Nat → va_E) (sp dy : Nat → TR) (la kn re : Int32) (hN : 23 ≤ N) (a1 : Int32) : XR l yX2_total cX2_total 2 (.object "java/lang/String") (rm 7 5 46) g [.ref (ad 0), .int a1] N ad (cf g ad x sp dy la kn re) N (fun E => x_X2_total a1 = some E) (fun r ad' f' => ad = ad' ∧ x_X2_total a1 = none ∧ (∃ a : Nat, some a = r) ∧ (cf g ad x sp dy la kn re) = f') := by
  intro sz
  refine mx_start (by decide) (Nat.le_of_ble_eq_true rfl) ?_
  intro p e s m args below meth c hsz X hr hex hA hK hT H locs B ls hl
  obtain ⟨hx, hb, hml, hown, hts, hlocks⟩ := id X
  have hl : lv_has ls 2 [(0, .ref (ad 0)), (1, .int a1)] := hl
  refine lv_aload_n hx hb dX2_total_0 rfl (lv_at hl 0 rfl) ?_
  refine lv_iload_n hx hb dX2_total_1 rfl (lv_at hl 1 rfl) ?_
  refine k_xr (k := 1) (n := 6) hex X hsz hA B (ux_V (rest := []) X (c_X2_cardAt l hfl g N ad x sp dy la kn re hN a1 H.size) mw_X2_cardAt md_X2_cardAt rfl lk_X2_37 ⟨Nat.le_of_ble_eq_true rfl, Nat.le_of_ble_eq_true rfl⟩ hA hK hT B (pl_c hN 0 (by decide)) cf_0 rfl rfl hl.1 rfl (Nat.le_of_ble_eq_true rfl) dX2_total_2 ⟨Nat.le_of_ble_eq_true rfl, Nat.le_of_ble_eq_true rfl⟩) (Nat.le_of_ble_eq_true rfl) (Nat.le_of_ble_eq_true rfl) (Nat.le_of_ble_eq_true rfl) (Nat.le_of_ble_eq_true rfl) (fun E hE => by unfold x_X2_total; rw [xo_some hE]) (fun r ad' f' H locs hw B => ?_)
  obtain ⟨rfl, x1, rfl, rfl⟩ := hw
  refine k_l (k := 1) (n := 6) hA B (u_VN (rest := []) X (c_X1_allMonths l g N ad x sp dy la kn re hN a1.toNatClampNeg (Nat.lt_of_lt_of_le (xl_X2_cardAt x1) (by decide)) H.size) mw_X1_allMonths md_X1_allMonths rfl lk_X2_108 ⟨Nat.le_of_ble_eq_true rfl, Nat.le_of_ble_eq_true rfl⟩ hA hK hT B (pl_sp hN (Nat.lt_of_lt_of_le (xl_X2_cardAt x1) (by decide))) (cf_sp (Nat.lt_of_lt_of_le (xl_X2_cardAt x1) (by decide))) rfl rfl hl.1 rfl (Nat.le_of_ble_eq_true rfl) dX2_total_5 ⟨Nat.le_of_ble_eq_true rfl, Nat.le_of_ble_eq_true rfl⟩) (Nat.le_of_ble_eq_true rfl) (Nat.le_of_ble_eq_true rfl) (fun r ad' f' H locs hw B => ?_)
  obtain ⟨rfl, rfl, rfl⟩ := hw
  refine k_r (k := 5) (n := 46) hA B (u_S (rest := []) X (c_W_inN l g N ad (cf g ad x sp dy la kn re) (v_X1_allMonths sp a1.toNatClampNeg) H.size) mw_X2_numberInSigns md_X2_numberInSigns rfl lk_X2_112 ⟨Nat.le_of_ble_eq_true rfl, Nat.le_of_ble_eq_true rfl⟩ hA hK hT B hl.1 rfl (Nat.le_of_ble_eq_true rfl) dX2_total_8 ⟨Nat.le_of_ble_eq_true rfl, Nat.le_of_ble_eq_true rfl⟩) (Nat.le_of_ble_eq_true rfl) (Nat.le_of_ble_eq_true rfl) (fun r ad' f' H locs hw B => ?_)
  obtain ⟨rfl, ⟨so2, rfl⟩, rfl⟩ := hw
  exact vx_ret (rt_r (r := some (so2)) rfl X hr (Or.inl ⟨_, rfl⟩) (ad, (cf g ad x sp dy la kn re)) B (PO_of B) ⟨rfl, by unfold x_X2_total; rw [xo_none x1], ⟨_, rfl⟩, rfl⟩ (Nat.le_of_ble_eq_true rfl) (Nat.le_of_ble_eq_true rfl) dX2_total_11)
def x_X2_text (a1 : Int32) : Option String := xo (x_X2_cardAt a1) none
set_option maxHeartbeats 4000000 in
set_option maxRecDepth 100000 in
theorem c_X2_text (l : Launch) (hfl : l.stackTraces = false) (g : GG) (N : Nat) (ad : Nat → Nat) (x : Nat → va_E) (sp dy : Nat → TR) (la kn re : Int32) (hN : 23 ≤ N) (a1 : Int32) : XR l yX2_text cX2_text 2 (.object "java/lang/String") (rm 7 7 172) g [.ref (ad 0), .int a1] N ad (cf g ad x sp dy la kn re) N (fun E => x_X2_text a1 = some E) (fun r ad' f' => ad = ad' ∧ x_X2_text a1 = none ∧ (∃ a : Nat, some a = r) ∧ (cf g ad x sp dy la kn re) = f') := by
  intro sz
  refine mx_start (by decide) (Nat.le_of_ble_eq_true rfl) ?_
  intro p e s m args below meth c hsz X hr hex hA hK hT H locs B ls hl
  obtain ⟨hx, hb, hml, hown, hts, hlocks⟩ := id X
  have hl : lv_has ls 2 [(0, .ref (ad 0)), (1, .int a1)] := hl
  refine lv_aload_n hx hb dX2_text_0 rfl (lv_at hl 0 rfl) ?_
  refine lv_iload_n hx hb dX2_text_1 rfl (lv_at hl 1 rfl) ?_
  refine k_xr (k := 1) (n := 6) hex X hsz hA B (ux_V (rest := []) X (c_X2_cardAt l hfl g N ad x sp dy la kn re hN a1 H.size) mw_X2_cardAt md_X2_cardAt rfl lk_X2_37 ⟨Nat.le_of_ble_eq_true rfl, Nat.le_of_ble_eq_true rfl⟩ hA hK hT B (pl_c hN 0 (by decide)) cf_0 rfl rfl hl.1 rfl (Nat.le_of_ble_eq_true rfl) dX2_text_2 ⟨Nat.le_of_ble_eq_true rfl, Nat.le_of_ble_eq_true rfl⟩) (Nat.le_of_ble_eq_true rfl) (Nat.le_of_ble_eq_true rfl) (Nat.le_of_ble_eq_true rfl) (Nat.le_of_ble_eq_true rfl) (fun E hE => by unfold x_X2_text; rw [xo_some hE]) (fun r ad' f' H locs hw B => ?_)
  obtain ⟨rfl, x1, rfl, rfl⟩ := hw
  refine k_r (k := 7) (n := 172) hA B (u_VN (rest := []) X (c_W_inS l g N ad (cf g ad x sp dy la kn re) (4 + a1.toNatClampNeg) (ad (4 + a1.toNatClampNeg)) (sp a1.toNatClampNeg) (pl_sp hN (Nat.lt_of_lt_of_le (xl_X2_cardAt x1) (by decide))) rfl (cf_sp (Nat.lt_of_lt_of_le (xl_X2_cardAt x1) (by decide))) H.size) mw_X1_inSigns md_X1_inSigns rfl lk_X2_100 ⟨Nat.le_of_ble_eq_true rfl, Nat.le_of_ble_eq_true rfl⟩ hA hK hT B (pl_sp hN (Nat.lt_of_lt_of_le (xl_X2_cardAt x1) (by decide))) (cf_sp (Nat.lt_of_lt_of_le (xl_X2_cardAt x1) (by decide))) rfl rfl hl.1 rfl (Nat.le_of_ble_eq_true rfl) dX2_text_5 ⟨Nat.le_of_ble_eq_true rfl, Nat.le_of_ble_eq_true rfl⟩) (Nat.le_of_ble_eq_true rfl) (Nat.le_of_ble_eq_true rfl) (fun r ad' f' H locs hw B => ?_)
  obtain ⟨rfl, ⟨so2, rfl⟩, rfl⟩ := hw
  exact vx_ret (rt_r (r := some (so2)) rfl X hr (Or.inl ⟨_, rfl⟩) (ad, (cf g ad x sp dy la kn re)) B (PO_of B) ⟨rfl, by unfold x_X2_text; rw [xo_none x1], ⟨_, rfl⟩, rfl⟩ (Nat.le_of_ble_eq_true rfl) (Nat.le_of_ble_eq_true rfl) dX2_text_8)
def v_X2_times (sp : Nat → TR) (a1 : Int32) (a2 : Int32) : (Nat → TR) := (v_X1_putTimes sp 12 a1.toNatClampNeg a2.toInt64).2
def x_X2_times (a1 : Int32) : Option String := xo (x_X2_cardAt a1) none
set_option maxHeartbeats 4000000 in
set_option maxRecDepth 100000 in
theorem c_X2_times (l : Launch) (hfl : l.stackTraces = false) (g : GG) (N : Nat) (ad : Nat → Nat) (x : Nat → va_E) (sp dy : Nat → TR) (la kn re : Int32) (hN : 23 ≤ N) (a1 : Int32) (a2 : Int32) : XR l yX2_times cX2_times 3 (.object "java/lang/String") (rm 8 7 172) g [.ref (ad 0), .int a1, .int a2] N ad (cf g ad x sp dy la kn re) N (fun E => x_X2_times a1 = some E) (fun r ad' f' => ad = ad' ∧ x_X2_times a1 = none ∧ (∃ a : Nat, some a = r) ∧ (cf g ad x (v_X2_times sp a1 a2) dy la kn re) = f') := by
  intro sz
  refine mx_start (by decide) (Nat.le_of_ble_eq_true rfl) ?_
  intro p e s m args below meth c hsz X hr hex hA hK hT H locs B ls hl
  obtain ⟨hx, hb, hml, hown, hts, hlocks⟩ := id X
  have hl : lv_has ls 3 [(0, .ref (ad 0)), (1, .int a1), (2, .int a2)] := hl
  refine lv_aload_n hx hb dX2_times_0 rfl (lv_at hl 0 rfl) ?_
  refine lv_aload_n hx hb dX2_times_1 rfl (lv_at hl 0 rfl) ?_
  refine g_get (q := 0) (k := 6) X hK B rfl in_X2 (pl_c hN 0 (by decide)) cf_0 (by decide) lk_X2_25 rfl rfl dX2_times_2 ?_
  refine lv_aload_n hx hb dX2_times_5 rfl (lv_at hl 0 rfl) ?_
  refine lv_iload_n hx hb dX2_times_6 rfl (lv_at hl 1 rfl) ?_
  refine k_xr (k := 1) (n := 6) hex X hsz hA B (ux_V (rest := [.ref (ad (4 + 12)), .ref (ad 0)]) X (c_X2_cardAt l hfl g N ad x sp dy la kn re hN a1 H.size) mw_X2_cardAt md_X2_cardAt rfl lk_X2_37 ⟨Nat.le_of_ble_eq_true rfl, Nat.le_of_ble_eq_true rfl⟩ hA hK hT B (pl_c hN 0 (by decide)) cf_0 rfl rfl hl.1 rfl (Nat.le_of_ble_eq_true rfl) dX2_times_7 ⟨Nat.le_of_ble_eq_true rfl, Nat.le_of_ble_eq_true rfl⟩) (Nat.le_of_ble_eq_true rfl) (Nat.le_of_ble_eq_true rfl) (Nat.le_of_ble_eq_true rfl) (Nat.le_of_ble_eq_true rfl) (fun E hE => by unfold x_X2_times; rw [xo_some hE]) (fun r ad' f' H locs hw B => ?_)
  obtain ⟨rfl, x1, rfl, rfl⟩ := hw
  refine lv_iload_n hx hb dX2_times_10 rfl (lv_at hl 2 rfl) ?_
  refine lv_i2l (v := a2.toInt64) hx hb dX2_times_11 rfl ?_
  refine k_i (k := 1) (n := 6) hA B (u_VN (rest := [.ref (ad 0)]) X (c_X1_putTimes l g N ad x sp dy la kn re hN 12 (by decide) a1.toNatClampNeg (Nat.lt_of_lt_of_le (xl_X2_cardAt x1) (by decide)) a2.toInt64 H.size) mw_X1_putTimes md_X1_putTimes rfl lk_X2_80 ⟨Nat.le_of_ble_eq_true rfl, Nat.le_of_ble_eq_true rfl⟩ hA hK hT B (pl_sp hN (by decide)) (cf_sp (by decide)) rfl rfl hl.1 rfl (Nat.le_of_ble_eq_true rfl) dX2_times_12 ⟨Nat.le_of_ble_eq_true rfl, Nat.le_of_ble_eq_true rfl⟩) (Nat.le_of_ble_eq_true rfl) (Nat.le_of_ble_eq_true rfl) (fun r ad' f' H locs hw B => ?_)
  obtain ⟨rfl, rfl, rfl⟩ := hw
  refine k_r (k := 7) (n := 172) hA B (u_V (rest := []) X (c_X2_resultInSigns l g N ad x (v_X1_putTimes sp 12 a1.toNatClampNeg a2.toInt64).2 dy la kn re hN (v_X1_putTimes sp 12 a1.toNatClampNeg a2.toInt64).1 H.size) mw_X2_resultInSigns md_X2_resultInSigns rfl lk_X2_129 ⟨Nat.le_of_ble_eq_true rfl, Nat.le_of_ble_eq_true rfl⟩ hA hK hT B (pl_c hN 0 (by decide)) cf_0 rfl rfl hl.1 rfl (Nat.le_of_ble_eq_true rfl) dX2_times_15 ⟨Nat.le_of_ble_eq_true rfl, Nat.le_of_ble_eq_true rfl⟩) (Nat.le_of_ble_eq_true rfl) (Nat.le_of_ble_eq_true rfl) (fun r ad' f' H locs hw B => ?_)
  obtain ⟨rfl, ⟨so2, rfl⟩, rfl⟩ := hw
  have ev := (show v_X2_times sp a1 a2 = (v_X1_putTimes sp 12 a1.toNatClampNeg a2.toInt64).2 from rfl)
  exact vx_ret (rt_r (r := some (so2)) rfl X hr (Or.inl ⟨_, rfl⟩) (ad, (cf g ad x (v_X1_putTimes sp 12 a1.toNatClampNeg a2.toInt64).2 dy la kn re)) B (PO_of B) ⟨rfl, by unfold x_X2_times; rw [xo_none x1], ⟨_, rfl⟩, by rw [ev]⟩ (Nat.le_of_ble_eq_true rfl) (Nat.le_of_ble_eq_true rfl) dX2_times_18)
def wX2_added_41 (a1 : Int32) (a2 : Int32) : Nat → Int32 → Int32 → (Nat → TR) → (Nat → TR)
  | 0, kk, ok, sp9 => sp9
  | n + 1, kk, ok, sp9 => if a2 ≤ kk then sp9 else (if ok = 0 then sp9 else (wX2_added_41 a1 a2 n (kk + 1) (v_X1_putSum sp9 12 12 a1.toNatClampNeg).1 (v_X1_putSum sp9 12 12 a1.toNatClampNeg).2))
def v_X2_added (sp : Nat → TR) (a1 : Int32) (a2 : Int32) : (Nat → TR) := if a2 < 0 then sp else (if a2 ≤ 9 then (wX2_added_41 a1 a2 ((a2.toInt - (0 : Int32).toInt).toNat + 1) 0 (v_X1_put sp 12 0 0 0).1 (v_X1_put sp 12 0 0 0).2) else sp)
def x_X2_added (a1 : Int32) (a2 : Int32) : Option String := xo (x_X2_cardAt a1) (if a2 < 0 then (some iaeN) else (if a2 ≤ 9 then none else (some iaeN)))
set_option maxHeartbeats 4000000 in
set_option maxRecDepth 100000 in
theorem c_X2_added (l : Launch) (hfl : l.stackTraces = false) (g : GG) (N : Nat) (ad : Nat → Nat) (x : Nat → va_E) (sp dy : Nat → TR) (la kn re : Int32) (hN : 23 ≤ N) (a1 : Int32) (a2 : Int32) : XR l yX2_added cX2_added 6 (.object "java/lang/String") (rm 8 7 172) g [.ref (ad 0), .int a1, .int a2] N ad (cf g ad x sp dy la kn re) N (fun E => x_X2_added a1 a2 = some E) (fun r ad' f' => ad = ad' ∧ x_X2_added a1 a2 = none ∧ (∃ a : Nat, some a = r) ∧ (cf g ad x (v_X2_added sp a1 a2) dy la kn re) = f') := by
  intro sz
  refine mx_start (by decide) (Nat.le_of_ble_eq_true rfl) ?_
  intro p e s m args below meth c hsz X hr hex hA hK hT H locs B ls hl
  obtain ⟨hx, hb, hml, hown, hts, hlocks⟩ := id X
  have hl : lv_has ls 6 [(0, .ref (ad 0)), (1, .int a1), (2, .int a2)] := hl
  refine lv_aload_n hx hb dX2_added_0 rfl (lv_at hl 0 rfl) ?_
  refine lv_iload_n hx hb dX2_added_1 rfl (lv_at hl 1 rfl) ?_
  refine k_xr (k := 1) (n := 6) hex X hsz hA B (ux_V (rest := []) X (c_X2_cardAt l hfl g N ad x sp dy la kn re hN a1 H.size) mw_X2_cardAt md_X2_cardAt rfl lk_X2_37 ⟨Nat.le_of_ble_eq_true rfl, Nat.le_of_ble_eq_true rfl⟩ hA hK hT B (pl_c hN 0 (by decide)) cf_0 rfl rfl hl.1 rfl (Nat.le_of_ble_eq_true rfl) dX2_added_2 ⟨Nat.le_of_ble_eq_true rfl, Nat.le_of_ble_eq_true rfl⟩) (Nat.le_of_ble_eq_true rfl) (Nat.le_of_ble_eq_true rfl) (Nat.le_of_ble_eq_true rfl) (Nat.le_of_ble_eq_true rfl) (fun E hE => by unfold x_X2_added; rw [xo_some hE]) (fun r ad' f' H locs hw B => ?_)
  obtain ⟨rfl, x1, rfl, rfl⟩ := hw
  refine lv_astore_n (lv' := [(3, .ref (ad (4 + a1.toNatClampNeg))), (0, .ref (ad 0)), (1, .int a1), (2, .int a2)]) hx hb dX2_added_5 rfl hl (by decide) rfl (fun ls hl => ?_)
  refine lv_iload_n hx hb dX2_added_6 rfl (lv_at hl 3 rfl) ?_
  refine lv_if_lt (tgt := 16) hx hb dX2_added_7 (by decide) (fun c2 => ?_) (fun c2 => ?_)
  · exact g_throw (cls := "java/lang/IllegalArgumentException") (names := ["java/lang/RuntimeException", "java/lang/Exception"]) (i := 6) X hfl (by decide) lk_X2_133 ii_java_lang_IllegalArgumentException (by decide) rfl at_X2_137 ag_X2_137 hex hsz hT B hl.1 dX2_added_16 dX2_added_19 dX2_added_20 dX2_added_22 dX2_added_25 (by decide) (Nat.le_of_ble_eq_true rfl) (Nat.le_of_ble_eq_true rfl) (Nat.le_of_ble_eq_true rfl) (by unfold x_X2_added; rw [xo_none x1, if_pos c2]; rfl) (Nat.le_of_ble_eq_true rfl) (Nat.le_of_ble_eq_true rfl)
  · refine lv_iload_n hx hb dX2_added_10 rfl (lv_at hl 3 rfl) ?_
    refine lv_bipush (v := 9) hx hb dX2_added_11 (by decide) ?_
    refine lv_icmp_le (tgt := 26) hx hb dX2_added_13 (by decide) (fun c3 => ?_) (fun c3 => ?_)
    · refine lv_aload_n hx hb dX2_added_26 rfl (lv_at hl 1 rfl) ?_
      refine g_get (q := 0) (k := 6) X hK B rfl in_X2 (pl_c hN 0 (by decide)) cf_0 (by decide) lk_X2_25 rfl rfl dX2_added_27 ?_
      refine lv_lconst (v := 0) hx hb dX2_added_30 (by decide) ?_
      refine lv_lconst (v := 0) hx hb dX2_added_31 (by decide) ?_
      refine lv_lconst (v := 0) hx hb dX2_added_32 (by decide) ?_
      refine k_i (k := 1) (n := 6) hA B (u_VN (rest := []) X (c_X1_put l g N ad x sp dy la kn re hN 12 (by decide) 0 0 0 H.size) mw_X1_put md_X1_put rfl lk_X2_41 ⟨Nat.le_of_ble_eq_true rfl, Nat.le_of_ble_eq_true rfl⟩ hA hK hT B (pl_sp hN (by decide)) (cf_sp (by decide)) rfl rfl hl.1 rfl (Nat.le_of_ble_eq_true rfl) dX2_added_33 ⟨Nat.le_of_ble_eq_true rfl, Nat.le_of_ble_eq_true rfl⟩) (Nat.le_of_ble_eq_true rfl) (Nat.le_of_ble_eq_true rfl) (fun r ad' f' H locs hw B => ?_)
      obtain ⟨rfl, rfl, rfl⟩ := hw
      refine lv_istore (lv' := [(4, .int (v_X1_put sp 12 0 0 0).1), (3, .ref (ad (4 + a1.toNatClampNeg))), (0, .ref (ad 0)), (1, .int a1), (2, .int a2)]) hx hb dX2_added_36 hl (by decide) rfl (fun ls hl => ?_)
      refine lv_iconst (v := 0) hx hb dX2_added_38 (by decide) ?_
      refine lv_istore (lv' := [(5, .int 0), (4, .int (v_X1_put sp 12 0 0 0).1), (3, .ref (ad (4 + a1.toNatClampNeg))), (0, .ref (ad 0)), (1, .int a1), (2, .int a2)]) hx hb dX2_added_39 hl (by decide) rfl (fun ls hl => ?_)
      have hxn : x_X2_added a1 a2 = none := by unfold x_X2_added; rw [xo_none x1, if_neg c2, if_pos c3]
      have loop4 : ∀ (n4 : Nat) (kk : Int32) (ok : Int32) (sp9 : Nat → TR) (H : Heap) (locs : List Loc), (a2.toInt - kk.toInt).toNat < n4 → v_X2_added sp a1 a2 = wX2_added_41 a1 a2 n4 kk ok sp9 → WB g (aw N ad sz) s.heap N ad (cf g ad x sp9 dy la kn re) H locs → ∀ ls : Array Slot, lv_has ls 6 [(5, .int kk), (4, .int ok), (3, .ref (ad (4 + a1.toNatClampNeg))), (0, .ref (ad 0)), (1, .int a1), (2, .int a2)] → W p l e (rm 8 7 172) s m args below meth c H locs 1 6 (vx_MQ below (va_Qq (fun r (u : WS) => (fun r ad' f' => ad = ad' ∧ x_X2_added a1 a2 = none ∧ (∃ a : Nat, some a = r) ∧ (cf g ad x (v_X2_added sp a1 a2) dy la kn re) = f') r u.1 u.2) (fun u t => PO g N u.1 u.2 (aw N ad sz) t) (aw N ad sz)) (XS g N ad (cf g ad x sp dy la kn re) sz (fun E => x_X2_added a1 a2 = some E)) args s (rm 8 7 172).cells (rm 8 7 172).slots (aw N ad sz)) (F0 m 41 ls []) := by
        intro n4
        induction n4 with
        | zero => intro kk ok sp9 H locs hn; exact absurd hn (Nat.not_lt_zero _)
        | succ n4 ih4 =>
          intro kk ok sp9 H locs hn4 he4 B ls hl
          refine lv_iload hx hb dX2_added_41 (lv_at hl 0 rfl) ?_
          refine lv_iload_n hx hb dX2_added_43 rfl (lv_at hl 5 rfl) ?_
          refine lv_icmp_ge (tgt := 72) hx hb dX2_added_44 (by decide) (fun c5 => ?_) (fun c5 => ?_)
          · refine lv_aload_n hx hb dX2_added_72 rfl (lv_at hl 3 rfl) ?_
            refine lv_iload hx hb dX2_added_73 (lv_at hl 1 rfl) ?_
            refine k_r (k := 7) (n := 172) hA B (u_V (rest := []) X (c_X2_resultInSigns l g N ad x sp9 dy la kn re hN ok H.size) mw_X2_resultInSigns md_X2_resultInSigns rfl lk_X2_129 ⟨Nat.le_of_ble_eq_true rfl, Nat.le_of_ble_eq_true rfl⟩ hA hK hT B (pl_c hN 0 (by decide)) cf_0 rfl rfl hl.1 rfl (Nat.le_of_ble_eq_true rfl) dX2_added_75 ⟨Nat.le_of_ble_eq_true rfl, Nat.le_of_ble_eq_true rfl⟩) (Nat.le_of_ble_eq_true rfl) (Nat.le_of_ble_eq_true rfl) (fun r ad' f' H locs hw B => ?_)
            obtain ⟨rfl, ⟨so6, rfl⟩, rfl⟩ := hw
            have ev := (show v_X2_added sp a1 a2 = sp9 from he4.trans (by rw [wX2_added_41, if_pos c5]))
            exact vx_ret (rt_r (r := some (so6)) rfl X hr (Or.inl ⟨_, rfl⟩) (ad, (cf g ad x sp9 dy la kn re)) B (PO_of B) ⟨rfl, hxn, ⟨_, rfl⟩, by rw [ev]⟩ (Nat.le_of_ble_eq_true rfl) (Nat.le_of_ble_eq_true rfl) dX2_added_78)
          · refine lv_iload hx hb dX2_added_47 (lv_at hl 1 rfl) ?_
            refine lv_if_eq (tgt := 72) hx hb dX2_added_49 (by decide) (fun c7 => ?_) (fun c7 => ?_)
            · refine lv_aload_n hx hb dX2_added_72 rfl (lv_at hl 3 rfl) ?_
              refine lv_iload hx hb dX2_added_73 (lv_at hl 1 rfl) ?_
              refine k_r (k := 7) (n := 172) hA B (u_V (rest := []) X (c_X2_resultInSigns l g N ad x sp9 dy la kn re hN ok H.size) mw_X2_resultInSigns md_X2_resultInSigns rfl lk_X2_129 ⟨Nat.le_of_ble_eq_true rfl, Nat.le_of_ble_eq_true rfl⟩ hA hK hT B (pl_c hN 0 (by decide)) cf_0 rfl rfl hl.1 rfl (Nat.le_of_ble_eq_true rfl) dX2_added_75 ⟨Nat.le_of_ble_eq_true rfl, Nat.le_of_ble_eq_true rfl⟩) (Nat.le_of_ble_eq_true rfl) (Nat.le_of_ble_eq_true rfl) (fun r ad' f' H locs hw B => ?_)
              obtain ⟨rfl, ⟨so8, rfl⟩, rfl⟩ := hw
              have ev := (show v_X2_added sp a1 a2 = sp9 from he4.trans (by rw [wX2_added_41, if_neg c5, if_pos c7]))
              exact vx_ret (rt_r (r := some (so8)) rfl X hr (Or.inl ⟨_, rfl⟩) (ad, (cf g ad x sp9 dy la kn re)) B (PO_of B) ⟨rfl, hxn, ⟨_, rfl⟩, by rw [ev]⟩ (Nat.le_of_ble_eq_true rfl) (Nat.le_of_ble_eq_true rfl) dX2_added_78)
            · refine lv_aload_n hx hb dX2_added_52 rfl (lv_at hl 3 rfl) ?_
              refine g_get (q := 0) (k := 6) X hK B rfl in_X2 (pl_c hN 0 (by decide)) cf_0 (by decide) lk_X2_25 rfl rfl dX2_added_53 ?_
              refine lv_aload_n hx hb dX2_added_56 rfl (lv_at hl 3 rfl) ?_
              refine g_get (q := 0) (k := 6) X hK B rfl in_X2 (pl_c hN 0 (by decide)) cf_0 (by decide) lk_X2_25 rfl rfl dX2_added_57 ?_
              refine lv_aload_n hx hb dX2_added_60 rfl (lv_at hl 2 rfl) ?_
              refine k_i (k := 1) (n := 6) hA B (u_VN (rest := []) X (c_X1_putSum l g N ad x sp9 dy la kn re hN 12 (by decide) 12 (by decide) a1.toNatClampNeg (Nat.lt_of_lt_of_le (xl_X2_cardAt x1) (by decide)) H.size) mw_X1_putSum md_X1_putSum rfl lk_X2_73 ⟨Nat.le_of_ble_eq_true rfl, Nat.le_of_ble_eq_true rfl⟩ hA hK hT B (pl_sp hN (by decide)) (cf_sp (by decide)) rfl rfl hl.1 rfl (Nat.le_of_ble_eq_true rfl) dX2_added_61 ⟨Nat.le_of_ble_eq_true rfl, Nat.le_of_ble_eq_true rfl⟩) (Nat.le_of_ble_eq_true rfl) (Nat.le_of_ble_eq_true rfl) (fun r ad' f' H locs hw B => ?_)
              obtain ⟨rfl, rfl, rfl⟩ := hw
              refine lv_istore (lv' := [(4, .int (v_X1_putSum sp9 12 12 a1.toNatClampNeg).1), (5, .int kk), (3, .ref (ad (4 + a1.toNatClampNeg))), (0, .ref (ad 0)), (1, .int a1), (2, .int a2)]) hx hb dX2_added_64 hl (by decide) rfl (fun ls hl => ?_)
              refine lv_iinc (v := kk + 1) (lv' := [(5, .int (kk + 1)), (4, .int (v_X1_putSum sp9 12 12 a1.toNatClampNeg).1), (3, .ref (ad (4 + a1.toNatClampNeg))), (0, .ref (ad 0)), (1, .int a1), (2, .int a2)]) hx hb dX2_added_66 hl (k := 1) rfl rfl (by decide) rfl (fun ls hl => ?_)
              refine lv_goto (tgt := 41) hx hb dX2_added_69 (by decide) ?_
              exact ih4 (kk + 1) (v_X1_putSum sp9 12 12 a1.toNatClampNeg).1 (v_X1_putSum sp9 12 12 a1.toNatClampNeg).2 H locs (fu_le c5 hn4) (show v_X2_added sp a1 a2 = wX2_added_41 a1 a2 n4 (kk + 1) (v_X1_putSum sp9 12 12 a1.toNatClampNeg).1 (v_X1_putSum sp9 12 12 a1.toNatClampNeg).2 from he4.trans (by rw [wX2_added_41, if_neg c5, if_neg c7])) B ls (lv_sub hl [0, 1, 2, 3, 4, 5] rfl)
      exact loop4 ((a2.toInt - (0 : Int32).toInt).toNat + 1) 0 (v_X1_put sp 12 0 0 0).1 (v_X1_put sp 12 0 0 0).2 H locs (Nat.lt_succ_self _) (show v_X2_added sp a1 a2 = wX2_added_41 a1 a2 ((a2.toInt - (0 : Int32).toInt).toNat + 1) 0 (v_X1_put sp 12 0 0 0).1 (v_X1_put sp 12 0 0 0).2 from by unfold v_X2_added; rw [if_neg c2, if_pos c3]) B ls hl
    · exact g_throw (cls := "java/lang/IllegalArgumentException") (names := ["java/lang/RuntimeException", "java/lang/Exception"]) (i := 6) X hfl (by decide) lk_X2_133 ii_java_lang_IllegalArgumentException (by decide) rfl at_X2_137 ag_X2_137 hex hsz hT B hl.1 dX2_added_16 dX2_added_19 dX2_added_20 dX2_added_22 dX2_added_25 (by decide) (Nat.le_of_ble_eq_true rfl) (Nat.le_of_ble_eq_true rfl) (Nat.le_of_ble_eq_true rfl) (by unfold x_X2_added; rw [xo_none x1, if_neg c2, if_neg c3]; rfl) (Nat.le_of_ble_eq_true rfl) (Nat.le_of_ble_eq_true rfl)
def v_X2_with (sp : Nat → TR) (a1 : Int32) (a2 : Int32) (a3 : Int32) : (Nat → TR) := if a3 = 0 then (v_X1_putSum sp 12 a1.toNatClampNeg a2.toNatClampNeg).2 else (v_X1_putDifference sp 12 a1.toNatClampNeg a2.toNatClampNeg).2
def x_X2_with (a1 : Int32) (a2 : Int32) (a3 : Int32) : Option String := xo (x_X2_cardAt a1) (xo (x_X2_cardAt a2) (if a3 = 0 then none else none))
set_option maxHeartbeats 4000000 in
set_option maxRecDepth 100000 in
theorem c_X2_with (l : Launch) (hfl : l.stackTraces = false) (g : GG) (N : Nat) (ad : Nat → Nat) (x : Nat → va_E) (sp dy : Nat → TR) (la kn re : Int32) (hN : 23 ≤ N) (a1 : Int32) (a2 : Int32) (a3 : Int32) : XR l yX2_with cX2_with 7 (.object "java/lang/String") (rm 8 8 178) g [.ref (ad 0), .int a1, .int a2, .int a3] N ad (cf g ad x sp dy la kn re) N (fun E => x_X2_with a1 a2 a3 = some E) (fun r ad' f' => ad = ad' ∧ x_X2_with a1 a2 a3 = none ∧ (∃ a : Nat, some a = r) ∧ (cf g ad x (v_X2_with sp a1 a2 a3) dy la kn re) = f') := by
  intro sz
  refine mx_start (by decide) (Nat.le_of_ble_eq_true rfl) ?_
  intro p e s m args below meth c hsz X hr hex hA hK hT H locs B ls hl
  obtain ⟨hx, hb, hml, hown, hts, hlocks⟩ := id X
  have hl : lv_has ls 7 [(0, .ref (ad 0)), (1, .int a1), (2, .int a2), (3, .int a3)] := hl
  refine lv_aload_n hx hb dX2_with_0 rfl (lv_at hl 0 rfl) ?_
  refine lv_iload_n hx hb dX2_with_1 rfl (lv_at hl 1 rfl) ?_
  refine k_xr (k := 1) (n := 6) hex X hsz hA B (ux_V (rest := []) X (c_X2_cardAt l hfl g N ad x sp dy la kn re hN a1 H.size) mw_X2_cardAt md_X2_cardAt rfl lk_X2_37 ⟨Nat.le_of_ble_eq_true rfl, Nat.le_of_ble_eq_true rfl⟩ hA hK hT B (pl_c hN 0 (by decide)) cf_0 rfl rfl hl.1 rfl (Nat.le_of_ble_eq_true rfl) dX2_with_2 ⟨Nat.le_of_ble_eq_true rfl, Nat.le_of_ble_eq_true rfl⟩) (Nat.le_of_ble_eq_true rfl) (Nat.le_of_ble_eq_true rfl) (Nat.le_of_ble_eq_true rfl) (Nat.le_of_ble_eq_true rfl) (fun E hE => by unfold x_X2_with; rw [xo_some hE]) (fun r ad' f' H locs hw B => ?_)
  obtain ⟨rfl, x1, rfl, rfl⟩ := hw
  refine lv_astore (lv' := [(4, .ref (ad (4 + a1.toNatClampNeg))), (0, .ref (ad 0)), (1, .int a1), (2, .int a2), (3, .int a3)]) hx hb dX2_with_5 hl (by decide) rfl (fun ls hl => ?_)
  refine lv_aload_n hx hb dX2_with_7 rfl (lv_at hl 1 rfl) ?_
  refine lv_iload_n hx hb dX2_with_8 rfl (lv_at hl 3 rfl) ?_
  refine k_xr (k := 2) (n := 12) hex X hsz hA B (ux_V (rest := []) X (c_X2_cardAt l hfl g N ad x sp dy la kn re hN a2 H.size) mw_X2_cardAt md_X2_cardAt rfl lk_X2_37 ⟨Nat.le_of_ble_eq_true rfl, Nat.le_of_ble_eq_true rfl⟩ hA hK hT B (pl_c hN 0 (by decide)) cf_0 rfl rfl hl.1 rfl (Nat.le_of_ble_eq_true rfl) dX2_with_9 ⟨Nat.le_of_ble_eq_true rfl, Nat.le_of_ble_eq_true rfl⟩) (Nat.le_of_ble_eq_true rfl) (Nat.le_of_ble_eq_true rfl) (Nat.le_of_ble_eq_true rfl) (Nat.le_of_ble_eq_true rfl) (fun E hE => by unfold x_X2_with; rw [xo_none x1, xo_some hE]) (fun r ad' f' H locs hw B => ?_)
  obtain ⟨rfl, x2, rfl, rfl⟩ := hw
  refine lv_astore (lv' := [(5, .ref (ad (4 + a2.toNatClampNeg))), (4, .ref (ad (4 + a1.toNatClampNeg))), (0, .ref (ad 0)), (1, .int a1), (2, .int a2), (3, .int a3)]) hx hb dX2_with_12 hl (by decide) rfl (fun ls hl => ?_)
  refine lv_iload_n hx hb dX2_with_14 rfl (lv_at hl 5 rfl) ?_
  refine lv_if_eq (tgt := 32) hx hb dX2_with_15 (by decide) (fun c3 => ?_) (fun c3 => ?_)
  · refine lv_aload_n hx hb dX2_with_32 rfl (lv_at hl 2 rfl) ?_
    refine g_get (q := 0) (k := 6) X hK B rfl in_X2 (pl_c hN 0 (by decide)) cf_0 (by decide) lk_X2_25 rfl rfl dX2_with_33 ?_
    refine lv_aload hx hb dX2_with_36 (lv_at hl 1 rfl) ?_
    refine lv_aload hx hb dX2_with_38 (lv_at hl 0 rfl) ?_
    refine k_i (k := 2) (n := 12) hA B (u_VN (rest := []) X (c_X1_putSum l g N ad x sp dy la kn re hN 12 (by decide) a1.toNatClampNeg (Nat.lt_of_lt_of_le (xl_X2_cardAt x1) (by decide)) a2.toNatClampNeg (Nat.lt_of_lt_of_le (xl_X2_cardAt x2) (by decide)) H.size) mw_X1_putSum md_X1_putSum rfl lk_X2_73 ⟨Nat.le_of_ble_eq_true rfl, Nat.le_of_ble_eq_true rfl⟩ hA hK hT B (pl_sp hN (by decide)) (cf_sp (by decide)) rfl rfl hl.1 rfl (Nat.le_of_ble_eq_true rfl) dX2_with_40 ⟨Nat.le_of_ble_eq_true rfl, Nat.le_of_ble_eq_true rfl⟩) (Nat.le_of_ble_eq_true rfl) (Nat.le_of_ble_eq_true rfl) (fun r ad' f' H locs hw B => ?_)
    obtain ⟨rfl, rfl, rfl⟩ := hw
    refine lv_istore (lv' := [(6, .int (v_X1_putSum sp 12 a1.toNatClampNeg a2.toNatClampNeg).1), (5, .ref (ad (4 + a2.toNatClampNeg))), (4, .ref (ad (4 + a1.toNatClampNeg))), (0, .ref (ad 0)), (1, .int a1), (2, .int a2), (3, .int a3)]) hx hb dX2_with_43 hl (by decide) rfl (fun ls hl => ?_)
    refine lv_aload_n hx hb dX2_with_45 rfl (lv_at hl 3 rfl) ?_
    refine lv_iload hx hb dX2_with_46 (lv_at hl 0 rfl) ?_
    refine k_r (k := 8) (n := 178) hA B (u_V (rest := []) X (c_X2_resultInSigns l g N ad x (v_X1_putSum sp 12 a1.toNatClampNeg a2.toNatClampNeg).2 dy la kn re hN (v_X1_putSum sp 12 a1.toNatClampNeg a2.toNatClampNeg).1 H.size) mw_X2_resultInSigns md_X2_resultInSigns rfl lk_X2_129 ⟨Nat.le_of_ble_eq_true rfl, Nat.le_of_ble_eq_true rfl⟩ hA hK hT B (pl_c hN 0 (by decide)) cf_0 rfl rfl hl.1 rfl (Nat.le_of_ble_eq_true rfl) dX2_with_48 ⟨Nat.le_of_ble_eq_true rfl, Nat.le_of_ble_eq_true rfl⟩) (Nat.le_of_ble_eq_true rfl) (Nat.le_of_ble_eq_true rfl) (fun r ad' f' H locs hw B => ?_)
    obtain ⟨rfl, ⟨so4, rfl⟩, rfl⟩ := hw
    have ev := (show v_X2_with sp a1 a2 a3 = (v_X1_putSum sp 12 a1.toNatClampNeg a2.toNatClampNeg).2 from by unfold v_X2_with; rw [if_pos c3])
    exact vx_ret (rt_r (r := some (so4)) rfl X hr (Or.inl ⟨_, rfl⟩) (ad, (cf g ad x (v_X1_putSum sp 12 a1.toNatClampNeg a2.toNatClampNeg).2 dy la kn re)) B (PO_of B) ⟨rfl, by unfold x_X2_with; rw [xo_none x1, xo_none x2, if_pos c3], ⟨_, rfl⟩, by rw [ev]⟩ (Nat.le_of_ble_eq_true rfl) (Nat.le_of_ble_eq_true rfl) dX2_with_51)
  · refine lv_aload_n hx hb dX2_with_18 rfl (lv_at hl 2 rfl) ?_
    refine g_get (q := 0) (k := 6) X hK B rfl in_X2 (pl_c hN 0 (by decide)) cf_0 (by decide) lk_X2_25 rfl rfl dX2_with_19 ?_
    refine lv_aload hx hb dX2_with_22 (lv_at hl 1 rfl) ?_
    refine lv_aload hx hb dX2_with_24 (lv_at hl 0 rfl) ?_
    refine k_i (k := 2) (n := 12) hA B (u_VN (rest := []) X (c_X1_putDifference l g N ad x sp dy la kn re hN 12 (by decide) a1.toNatClampNeg (Nat.lt_of_lt_of_le (xl_X2_cardAt x1) (by decide)) a2.toNatClampNeg (Nat.lt_of_lt_of_le (xl_X2_cardAt x2) (by decide)) H.size) mw_X1_putDifference md_X1_putDifference rfl lk_X2_77 ⟨Nat.le_of_ble_eq_true rfl, Nat.le_of_ble_eq_true rfl⟩ hA hK hT B (pl_sp hN (by decide)) (cf_sp (by decide)) rfl rfl hl.1 rfl (Nat.le_of_ble_eq_true rfl) dX2_with_26 ⟨Nat.le_of_ble_eq_true rfl, Nat.le_of_ble_eq_true rfl⟩) (Nat.le_of_ble_eq_true rfl) (Nat.le_of_ble_eq_true rfl) (fun r ad' f' H locs hw B => ?_)
    obtain ⟨rfl, rfl, rfl⟩ := hw
    refine lv_goto (tgt := 43) hx hb dX2_with_29 (by decide) ?_
    refine lv_istore (lv' := [(6, .int (v_X1_putDifference sp 12 a1.toNatClampNeg a2.toNatClampNeg).1), (5, .ref (ad (4 + a2.toNatClampNeg))), (4, .ref (ad (4 + a1.toNatClampNeg))), (0, .ref (ad 0)), (1, .int a1), (2, .int a2), (3, .int a3)]) hx hb dX2_with_43 hl (by decide) rfl (fun ls hl => ?_)
    refine lv_aload_n hx hb dX2_with_45 rfl (lv_at hl 3 rfl) ?_
    refine lv_iload hx hb dX2_with_46 (lv_at hl 0 rfl) ?_
    refine k_r (k := 8) (n := 178) hA B (u_V (rest := []) X (c_X2_resultInSigns l g N ad x (v_X1_putDifference sp 12 a1.toNatClampNeg a2.toNatClampNeg).2 dy la kn re hN (v_X1_putDifference sp 12 a1.toNatClampNeg a2.toNatClampNeg).1 H.size) mw_X2_resultInSigns md_X2_resultInSigns rfl lk_X2_129 ⟨Nat.le_of_ble_eq_true rfl, Nat.le_of_ble_eq_true rfl⟩ hA hK hT B (pl_c hN 0 (by decide)) cf_0 rfl rfl hl.1 rfl (Nat.le_of_ble_eq_true rfl) dX2_with_48 ⟨Nat.le_of_ble_eq_true rfl, Nat.le_of_ble_eq_true rfl⟩) (Nat.le_of_ble_eq_true rfl) (Nat.le_of_ble_eq_true rfl) (fun r ad' f' H locs hw B => ?_)
    obtain ⟨rfl, ⟨so5, rfl⟩, rfl⟩ := hw
    have ev := (show v_X2_with sp a1 a2 a3 = (v_X1_putDifference sp 12 a1.toNatClampNeg a2.toNatClampNeg).2 from by unfold v_X2_with; rw [if_neg c3])
    exact vx_ret (rt_r (r := some (so5)) rfl X hr (Or.inl ⟨_, rfl⟩) (ad, (cf g ad x (v_X1_putDifference sp 12 a1.toNatClampNeg a2.toNatClampNeg).2 dy la kn re)) B (PO_of B) ⟨rfl, by unfold x_X2_with; rw [xo_none x1, xo_none x2, if_neg c3], ⟨_, rfl⟩, by rw [ev]⟩ (Nat.le_of_ble_eq_true rfl) (Nat.le_of_ble_eq_true rfl) dX2_with_51)
def v_X2_tidy (sp : Nat → TR) (a1 : Int32) : (Nat → TR) := (v_X1_putTidy sp 12 a1.toNatClampNeg).2
def x_X2_tidy (a1 : Int32) : Option String := xo (x_X2_cardAt a1) none
set_option maxHeartbeats 4000000 in
set_option maxRecDepth 100000 in
theorem c_X2_tidy (l : Launch) (hfl : l.stackTraces = false) (g : GG) (N : Nat) (ad : Nat → Nat) (x : Nat → va_E) (sp dy : Nat → TR) (la kn re : Int32) (hN : 23 ≤ N) (a1 : Int32) : XR l yX2_tidy cX2_tidy 2 (.object "java/lang/String") (rm 8 7 172) g [.ref (ad 0), .int a1] N ad (cf g ad x sp dy la kn re) N (fun E => x_X2_tidy a1 = some E) (fun r ad' f' => ad = ad' ∧ x_X2_tidy a1 = none ∧ (∃ a : Nat, some a = r) ∧ (cf g ad x (v_X2_tidy sp a1) dy la kn re) = f') := by
  intro sz
  refine mx_start (by decide) (Nat.le_of_ble_eq_true rfl) ?_
  intro p e s m args below meth c hsz X hr hex hA hK hT H locs B ls hl
  obtain ⟨hx, hb, hml, hown, hts, hlocks⟩ := id X
  have hl : lv_has ls 2 [(0, .ref (ad 0)), (1, .int a1)] := hl
  refine lv_aload_n hx hb dX2_tidy_0 rfl (lv_at hl 0 rfl) ?_
  refine lv_aload_n hx hb dX2_tidy_1 rfl (lv_at hl 0 rfl) ?_
  refine g_get (q := 0) (k := 6) X hK B rfl in_X2 (pl_c hN 0 (by decide)) cf_0 (by decide) lk_X2_25 rfl rfl dX2_tidy_2 ?_
  refine lv_aload_n hx hb dX2_tidy_5 rfl (lv_at hl 0 rfl) ?_
  refine lv_iload_n hx hb dX2_tidy_6 rfl (lv_at hl 1 rfl) ?_
  refine k_xr (k := 1) (n := 6) hex X hsz hA B (ux_V (rest := [.ref (ad (4 + 12)), .ref (ad 0)]) X (c_X2_cardAt l hfl g N ad x sp dy la kn re hN a1 H.size) mw_X2_cardAt md_X2_cardAt rfl lk_X2_37 ⟨Nat.le_of_ble_eq_true rfl, Nat.le_of_ble_eq_true rfl⟩ hA hK hT B (pl_c hN 0 (by decide)) cf_0 rfl rfl hl.1 rfl (Nat.le_of_ble_eq_true rfl) dX2_tidy_7 ⟨Nat.le_of_ble_eq_true rfl, Nat.le_of_ble_eq_true rfl⟩) (Nat.le_of_ble_eq_true rfl) (Nat.le_of_ble_eq_true rfl) (Nat.le_of_ble_eq_true rfl) (Nat.le_of_ble_eq_true rfl) (fun E hE => by unfold x_X2_tidy; rw [xo_some hE]) (fun r ad' f' H locs hw B => ?_)
  obtain ⟨rfl, x1, rfl, rfl⟩ := hw
  refine k_i (k := 1) (n := 6) hA B (u_VN (rest := [.ref (ad 0)]) X (c_X1_putTidy l g N ad x sp dy la kn re hN 12 (by decide) a1.toNatClampNeg (Nat.lt_of_lt_of_le (xl_X2_cardAt x1) (by decide)) H.size) mw_X1_putTidy md_X1_putTidy rfl lk_X2_88 ⟨Nat.le_of_ble_eq_true rfl, Nat.le_of_ble_eq_true rfl⟩ hA hK hT B (pl_sp hN (by decide)) (cf_sp (by decide)) rfl rfl hl.1 rfl (Nat.le_of_ble_eq_true rfl) dX2_tidy_10 ⟨Nat.le_of_ble_eq_true rfl, Nat.le_of_ble_eq_true rfl⟩) (Nat.le_of_ble_eq_true rfl) (Nat.le_of_ble_eq_true rfl) (fun r ad' f' H locs hw B => ?_)
  obtain ⟨rfl, rfl, rfl⟩ := hw
  refine k_r (k := 7) (n := 172) hA B (u_V (rest := []) X (c_X2_resultInSigns l g N ad x (v_X1_putTidy sp 12 a1.toNatClampNeg).2 dy la kn re hN (v_X1_putTidy sp 12 a1.toNatClampNeg).1 H.size) mw_X2_resultInSigns md_X2_resultInSigns rfl lk_X2_129 ⟨Nat.le_of_ble_eq_true rfl, Nat.le_of_ble_eq_true rfl⟩ hA hK hT B (pl_c hN 0 (by decide)) cf_0 rfl rfl hl.1 rfl (Nat.le_of_ble_eq_true rfl) dX2_tidy_13 ⟨Nat.le_of_ble_eq_true rfl, Nat.le_of_ble_eq_true rfl⟩) (Nat.le_of_ble_eq_true rfl) (Nat.le_of_ble_eq_true rfl) (fun r ad' f' H locs hw B => ?_)
  obtain ⟨rfl, ⟨so2, rfl⟩, rfl⟩ := hw
  have ev := (show v_X2_tidy sp a1 = (v_X1_putTidy sp 12 a1.toNatClampNeg).2 from rfl)
  exact vx_ret (rt_r (r := some (so2)) rfl X hr (Or.inl ⟨_, rfl⟩) (ad, (cf g ad x (v_X1_putTidy sp 12 a1.toNatClampNeg).2 dy la kn re)) B (PO_of B) ⟨rfl, by unfold x_X2_tidy; rw [xo_none x1], ⟨_, rfl⟩, by rw [ev]⟩ (Nat.le_of_ble_eq_true rfl) (Nat.le_of_ble_eq_true rfl) dX2_tidy_16)
def v_X2_opposite (sp : Nat → TR) (a1 : Int32) : (Nat → TR) := (v_X1_putOpposite sp 12 a1.toNatClampNeg).2
def x_X2_opposite (a1 : Int32) : Option String := xo (x_X2_cardAt a1) none
set_option maxHeartbeats 4000000 in
set_option maxRecDepth 100000 in
theorem c_X2_opposite (l : Launch) (hfl : l.stackTraces = false) (g : GG) (N : Nat) (ad : Nat → Nat) (x : Nat → va_E) (sp dy : Nat → TR) (la kn re : Int32) (hN : 23 ≤ N) (a1 : Int32) : XR l yX2_opposite cX2_opposite 2 (.object "java/lang/String") (rm 8 7 172) g [.ref (ad 0), .int a1] N ad (cf g ad x sp dy la kn re) N (fun E => x_X2_opposite a1 = some E) (fun r ad' f' => ad = ad' ∧ x_X2_opposite a1 = none ∧ (∃ a : Nat, some a = r) ∧ (cf g ad x (v_X2_opposite sp a1) dy la kn re) = f') := by
  intro sz
  refine mx_start (by decide) (Nat.le_of_ble_eq_true rfl) ?_
  intro p e s m args below meth c hsz X hr hex hA hK hT H locs B ls hl
  obtain ⟨hx, hb, hml, hown, hts, hlocks⟩ := id X
  have hl : lv_has ls 2 [(0, .ref (ad 0)), (1, .int a1)] := hl
  refine lv_aload_n hx hb dX2_opposite_0 rfl (lv_at hl 0 rfl) ?_
  refine lv_aload_n hx hb dX2_opposite_1 rfl (lv_at hl 0 rfl) ?_
  refine g_get (q := 0) (k := 6) X hK B rfl in_X2 (pl_c hN 0 (by decide)) cf_0 (by decide) lk_X2_25 rfl rfl dX2_opposite_2 ?_
  refine lv_aload_n hx hb dX2_opposite_5 rfl (lv_at hl 0 rfl) ?_
  refine lv_iload_n hx hb dX2_opposite_6 rfl (lv_at hl 1 rfl) ?_
  refine k_xr (k := 1) (n := 6) hex X hsz hA B (ux_V (rest := [.ref (ad (4 + 12)), .ref (ad 0)]) X (c_X2_cardAt l hfl g N ad x sp dy la kn re hN a1 H.size) mw_X2_cardAt md_X2_cardAt rfl lk_X2_37 ⟨Nat.le_of_ble_eq_true rfl, Nat.le_of_ble_eq_true rfl⟩ hA hK hT B (pl_c hN 0 (by decide)) cf_0 rfl rfl hl.1 rfl (Nat.le_of_ble_eq_true rfl) dX2_opposite_7 ⟨Nat.le_of_ble_eq_true rfl, Nat.le_of_ble_eq_true rfl⟩) (Nat.le_of_ble_eq_true rfl) (Nat.le_of_ble_eq_true rfl) (Nat.le_of_ble_eq_true rfl) (Nat.le_of_ble_eq_true rfl) (fun E hE => by unfold x_X2_opposite; rw [xo_some hE]) (fun r ad' f' H locs hw B => ?_)
  obtain ⟨rfl, x1, rfl, rfl⟩ := hw
  refine k_i (k := 1) (n := 6) hA B (u_VN (rest := [.ref (ad 0)]) X (c_X1_putOpposite l g N ad x sp dy la kn re hN 12 (by decide) a1.toNatClampNeg (Nat.lt_of_lt_of_le (xl_X2_cardAt x1) (by decide)) H.size) mw_X1_putOpposite md_X1_putOpposite rfl lk_X2_84 ⟨Nat.le_of_ble_eq_true rfl, Nat.le_of_ble_eq_true rfl⟩ hA hK hT B (pl_sp hN (by decide)) (cf_sp (by decide)) rfl rfl hl.1 rfl (Nat.le_of_ble_eq_true rfl) dX2_opposite_10 ⟨Nat.le_of_ble_eq_true rfl, Nat.le_of_ble_eq_true rfl⟩) (Nat.le_of_ble_eq_true rfl) (Nat.le_of_ble_eq_true rfl) (fun r ad' f' H locs hw B => ?_)
  obtain ⟨rfl, rfl, rfl⟩ := hw
  refine k_r (k := 7) (n := 172) hA B (u_V (rest := []) X (c_X2_resultInSigns l g N ad x (v_X1_putOpposite sp 12 a1.toNatClampNeg).2 dy la kn re hN (v_X1_putOpposite sp 12 a1.toNatClampNeg).1 H.size) mw_X2_resultInSigns md_X2_resultInSigns rfl lk_X2_129 ⟨Nat.le_of_ble_eq_true rfl, Nat.le_of_ble_eq_true rfl⟩ hA hK hT B (pl_c hN 0 (by decide)) cf_0 rfl rfl hl.1 rfl (Nat.le_of_ble_eq_true rfl) dX2_opposite_13 ⟨Nat.le_of_ble_eq_true rfl, Nat.le_of_ble_eq_true rfl⟩) (Nat.le_of_ble_eq_true rfl) (Nat.le_of_ble_eq_true rfl) (fun r ad' f' H locs hw B => ?_)
  obtain ⟨rfl, ⟨so2, rfl⟩, rfl⟩ := hw
  have ev := (show v_X2_opposite sp a1 = (v_X1_putOpposite sp 12 a1.toNatClampNeg).2 from rfl)
  exact vx_ret (rt_r (r := some (so2)) rfl X hr (Or.inl ⟨_, rfl⟩) (ad, (cf g ad x (v_X1_putOpposite sp 12 a1.toNatClampNeg).2 dy la kn re)) B (PO_of B) ⟨rfl, by unfold x_X2_opposite; rw [xo_none x1], ⟨_, rfl⟩, by rw [ev]⟩ (Nat.le_of_ble_eq_true rfl) (Nat.le_of_ble_eq_true rfl) dX2_opposite_16)
def x_X2_dateText (a1 : Int32) : Option String := xo (x_X2_dateAt a1) none
set_option maxHeartbeats 4000000 in
set_option maxRecDepth 100000 in
theorem c_X2_dateText (l : Launch) (hfl : l.stackTraces = false) (g : GG) (N : Nat) (ad : Nat → Nat) (x : Nat → va_E) (sp dy : Nat → TR) (la kn re : Int32) (hN : 23 ≤ N) (a1 : Int32) : XR l yX2_dateText cX2_dateText 2 (.object "java/lang/String") (rm 7 7 172) g [.ref (ad 0), .int a1] N ad (cf g ad x sp dy la kn re) N (fun E => x_X2_dateText a1 = some E) (fun r ad' f' => ad = ad' ∧ x_X2_dateText a1 = none ∧ (∃ a : Nat, some a = r) ∧ (cf g ad x sp dy la kn re) = f') := by
  intro sz
  refine mx_start (by decide) (Nat.le_of_ble_eq_true rfl) ?_
  intro p e s m args below meth c hsz X hr hex hA hK hT H locs B ls hl
  obtain ⟨hx, hb, hml, hown, hts, hlocks⟩ := id X
  have hl : lv_has ls 2 [(0, .ref (ad 0)), (1, .int a1)] := hl
  refine lv_aload_n hx hb dX2_dateText_0 rfl (lv_at hl 0 rfl) ?_
  refine lv_iload_n hx hb dX2_dateText_1 rfl (lv_at hl 1 rfl) ?_
  refine k_xr (k := 1) (n := 6) hex X hsz hA B (ux_V (rest := []) X (c_X2_dateAt l hfl g N ad x sp dy la kn re hN a1 H.size) mw_X2_dateAt md_X2_dateAt rfl lk_X2_140 ⟨Nat.le_of_ble_eq_true rfl, Nat.le_of_ble_eq_true rfl⟩ hA hK hT B (pl_c hN 0 (by decide)) cf_0 rfl rfl hl.1 rfl (Nat.le_of_ble_eq_true rfl) dX2_dateText_2 ⟨Nat.le_of_ble_eq_true rfl, Nat.le_of_ble_eq_true rfl⟩) (Nat.le_of_ble_eq_true rfl) (Nat.le_of_ble_eq_true rfl) (Nat.le_of_ble_eq_true rfl) (Nat.le_of_ble_eq_true rfl) (fun E hE => by unfold x_X2_dateText; rw [xo_some hE]) (fun r ad' f' H locs hw B => ?_)
  obtain ⟨rfl, x1, rfl, rfl⟩ := hw
  refine k_r (k := 7) (n := 172) hA B (u_VN (rest := []) X (c_W_inD l g N ad (cf g ad x sp dy la kn re) (18 + a1.toNatClampNeg) (ad (18 + a1.toNatClampNeg)) (dy a1.toNatClampNeg) (pl_dy hN (Nat.lt_of_lt_of_le (xl_X2_dateAt x1) (by decide))) rfl (cf_dy (Nat.lt_of_lt_of_le (xl_X2_dateAt x1) (by decide))) H.size) mw_X0_inSigns md_X0_inSigns rfl lk_X2_172 ⟨Nat.le_of_ble_eq_true rfl, Nat.le_of_ble_eq_true rfl⟩ hA hK hT B (pl_dy hN (Nat.lt_of_lt_of_le (xl_X2_dateAt x1) (by decide))) (cf_dy (Nat.lt_of_lt_of_le (xl_X2_dateAt x1) (by decide))) rfl rfl hl.1 rfl (Nat.le_of_ble_eq_true rfl) dX2_dateText_5 ⟨Nat.le_of_ble_eq_true rfl, Nat.le_of_ble_eq_true rfl⟩) (Nat.le_of_ble_eq_true rfl) (Nat.le_of_ble_eq_true rfl) (fun r ad' f' H locs hw B => ?_)
  obtain ⟨rfl, ⟨so2, rfl⟩, rfl⟩ := hw
  exact vx_ret (rt_r (r := some (so2)) rfl X hr (Or.inl ⟨_, rfl⟩) (ad, (cf g ad x sp dy la kn re)) B (PO_of B) ⟨rfl, by unfold x_X2_dateText; rw [xo_none x1], ⟨_, rfl⟩, rfl⟩ (Nat.le_of_ble_eq_true rfl) (Nat.le_of_ble_eq_true rfl) dX2_dateText_8)
def v_X2_moved (sp : Nat → TR) (dy : Nat → TR) (a1 : Int32) (a2 : Int32) (a3 : Int32) : (Nat → TR) := if (v_X2_reach sp dy a1.toNatClampNeg a2.toNatClampNeg a3).1 = 0 then (v_X2_reach sp dy a1.toNatClampNeg a2.toNatClampNeg a3).2 else (v_X2_reach sp dy a1.toNatClampNeg a2.toNatClampNeg a3).2
def x_X2_moved (sp : Nat → TR) (dy : Nat → TR) (a1 : Int32) (a2 : Int32) (a3 : Int32) : Option String := xo (x_X2_dateAt a1) (xo (x_X2_cardAt a2) (if (v_X2_reach sp dy a1.toNatClampNeg a2.toNatClampNeg a3).1 = 0 then none else none))
set_option maxHeartbeats 4000000 in
set_option maxRecDepth 100000 in
theorem c_X2_moved (l : Launch) (hfl : l.stackTraces = false) (g : GG) (N : Nat) (ad : Nat → Nat) (x : Nat → va_E) (sp dy : Nat → TR) (la kn re : Int32) (hN : 23 ≤ N) (a1 : Int32) (a2 : Int32) (a3 : Int32) : XR l yX2_moved cX2_moved 5 (.object "java/lang/String") (rm 7 8 178) g [.ref (ad 0), .int a1, .int a2, .int a3] N ad (cf g ad x sp dy la kn re) N (fun E => x_X2_moved sp dy a1 a2 a3 = some E) (fun r ad' f' => ad = ad' ∧ x_X2_moved sp dy a1 a2 a3 = none ∧ (∃ a : Nat, some a = r) ∧ (cf g ad x sp (v_X2_moved sp dy a1 a2 a3) la kn re) = f') := by
  intro sz
  refine mx_start (by decide) (Nat.le_of_ble_eq_true rfl) ?_
  intro p e s m args below meth c hsz X hr hex hA hK hT H locs B ls hl
  obtain ⟨hx, hb, hml, hown, hts, hlocks⟩ := id X
  have hl : lv_has ls 5 [(0, .ref (ad 0)), (1, .int a1), (2, .int a2), (3, .int a3)] := hl
  refine lv_aload_n hx hb dX2_moved_0 rfl (lv_at hl 0 rfl) ?_
  refine lv_iload_n hx hb dX2_moved_1 rfl (lv_at hl 1 rfl) ?_
  refine k_xr (k := 1) (n := 6) hex X hsz hA B (ux_V (rest := []) X (c_X2_dateAt l hfl g N ad x sp dy la kn re hN a1 H.size) mw_X2_dateAt md_X2_dateAt rfl lk_X2_140 ⟨Nat.le_of_ble_eq_true rfl, Nat.le_of_ble_eq_true rfl⟩ hA hK hT B (pl_c hN 0 (by decide)) cf_0 rfl rfl hl.1 rfl (Nat.le_of_ble_eq_true rfl) dX2_moved_2 ⟨Nat.le_of_ble_eq_true rfl, Nat.le_of_ble_eq_true rfl⟩) (Nat.le_of_ble_eq_true rfl) (Nat.le_of_ble_eq_true rfl) (Nat.le_of_ble_eq_true rfl) (Nat.le_of_ble_eq_true rfl) (fun E hE => by unfold x_X2_moved; rw [xo_some hE]) (fun r ad' f' H locs hw B => ?_)
  obtain ⟨rfl, x1, rfl, rfl⟩ := hw
  refine lv_astore (lv' := [(4, .ref (ad (18 + a1.toNatClampNeg))), (0, .ref (ad 0)), (1, .int a1), (2, .int a2), (3, .int a3)]) hx hb dX2_moved_5 hl (by decide) rfl (fun ls hl => ?_)
  refine lv_aload_n hx hb dX2_moved_7 rfl (lv_at hl 1 rfl) ?_
  refine lv_aload hx hb dX2_moved_8 (lv_at hl 0 rfl) ?_
  refine lv_aload_n hx hb dX2_moved_10 rfl (lv_at hl 1 rfl) ?_
  refine lv_iload_n hx hb dX2_moved_11 rfl (lv_at hl 3 rfl) ?_
  refine k_xr (k := 2) (n := 12) hex X hsz hA B (ux_V (rest := [.ref (ad (18 + a1.toNatClampNeg)), .ref (ad 0)]) X (c_X2_cardAt l hfl g N ad x sp dy la kn re hN a2 H.size) mw_X2_cardAt md_X2_cardAt rfl lk_X2_37 ⟨Nat.le_of_ble_eq_true rfl, Nat.le_of_ble_eq_true rfl⟩ hA hK hT B (pl_c hN 0 (by decide)) cf_0 rfl rfl hl.1 rfl (Nat.le_of_ble_eq_true rfl) dX2_moved_12 ⟨Nat.le_of_ble_eq_true rfl, Nat.le_of_ble_eq_true rfl⟩) (Nat.le_of_ble_eq_true rfl) (Nat.le_of_ble_eq_true rfl) (Nat.le_of_ble_eq_true rfl) (Nat.le_of_ble_eq_true rfl) (fun E hE => by unfold x_X2_moved; rw [xo_none x1, xo_some hE]) (fun r ad' f' H locs hw B => ?_)
  obtain ⟨rfl, x2, rfl, rfl⟩ := hw
  refine lv_iload_n hx hb dX2_moved_15 rfl (lv_at hl 4 rfl) ?_
  refine k_i (k := 2) (n := 12) hA B (u_V (rest := []) X (c_X2_reach l g N ad x sp dy la kn re hN a1.toNatClampNeg (Nat.lt_of_lt_of_le (xl_X2_dateAt x1) (by decide)) a2.toNatClampNeg (Nat.lt_of_lt_of_le (xl_X2_cardAt x2) (by decide)) a3 H.size) mw_X2_reach md_X2_reach rfl lk_X2_161 ⟨Nat.le_of_ble_eq_true rfl, Nat.le_of_ble_eq_true rfl⟩ hA hK hT B (pl_c hN 0 (by decide)) cf_0 rfl rfl hl.1 rfl (Nat.le_of_ble_eq_true rfl) dX2_moved_16 ⟨Nat.le_of_ble_eq_true rfl, Nat.le_of_ble_eq_true rfl⟩) (Nat.le_of_ble_eq_true rfl) (Nat.le_of_ble_eq_true rfl) (fun r ad' f' H locs hw B => ?_)
  obtain ⟨rfl, rfl, rfl⟩ := hw
  refine lv_if_eq (tgt := 32) hx hb dX2_moved_19 (by decide) (fun c3 => ?_) (fun c3 => ?_)
  · refine b_ldc (i := 0) (by decide) rfl rfl X hT dX2_moved_32 ?_
    have ev := (show v_X2_moved sp dy a1 a2 a3 = (v_X2_reach sp dy a1.toNatClampNeg a2.toNatClampNeg a3).2 from by unfold v_X2_moved; rw [if_pos c3])
    exact vx_ret (rt_r (r := some (g.2.2 (100 + 0))) rfl X hr (Or.inl ⟨_, rfl⟩) (ad, (cf g ad x sp (v_X2_reach sp dy a1.toNatClampNeg a2.toNatClampNeg a3).2 la kn re)) B (PO_of B) ⟨rfl, by unfold x_X2_moved; rw [xo_none x1, xo_none x2, if_pos c3], ⟨_, rfl⟩, by rw [ev]⟩ (Nat.le_of_ble_eq_true rfl) (Nat.le_of_ble_eq_true rfl) dX2_moved_34)
  · refine lv_aload_n hx hb dX2_moved_22 rfl (lv_at hl 1 rfl) ?_
    refine g_get (q := 0) (k := 8) X hK B rfl in_X2 (pl_c hN 0 (by decide)) cf_0 (by decide) lk_X2_33 rfl rfl dX2_moved_23 ?_
    refine k_r (k := 8) (n := 178) hA B (u_VN (rest := []) X (c_W_inD l g N ad (cf g ad x sp (v_X2_reach sp dy a1.toNatClampNeg a2.toNatClampNeg a3).2 la kn re) (18 + 4) (ad (18 + 4)) ((v_X2_reach sp dy a1.toNatClampNeg a2.toNatClampNeg a3).2 4) (pl_dy hN (by decide)) rfl (cf_dy (by decide)) H.size) mw_X0_inSigns md_X0_inSigns rfl lk_X2_172 ⟨Nat.le_of_ble_eq_true rfl, Nat.le_of_ble_eq_true rfl⟩ hA hK hT B (pl_dy hN (by decide)) (cf_dy (by decide)) rfl rfl hl.1 rfl (Nat.le_of_ble_eq_true rfl) dX2_moved_26 ⟨Nat.le_of_ble_eq_true rfl, Nat.le_of_ble_eq_true rfl⟩) (Nat.le_of_ble_eq_true rfl) (Nat.le_of_ble_eq_true rfl) (fun r ad' f' H locs hw B => ?_)
    obtain ⟨rfl, ⟨so4, rfl⟩, rfl⟩ := hw
    refine lv_goto (tgt := 34) hx hb dX2_moved_29 (by decide) ?_
    have ev := (show v_X2_moved sp dy a1 a2 a3 = (v_X2_reach sp dy a1.toNatClampNeg a2.toNatClampNeg a3).2 from by unfold v_X2_moved; rw [if_neg c3])
    exact vx_ret (rt_r (r := some (so4)) rfl X hr (Or.inl ⟨_, rfl⟩) (ad, (cf g ad x sp (v_X2_reach sp dy a1.toNatClampNeg a2.toNatClampNeg a3).2 la kn re)) B (PO_of B) ⟨rfl, by unfold x_X2_moved; rw [xo_none x1, xo_none x2, if_neg c3], ⟨_, rfl⟩, by rw [ev]⟩ (Nat.le_of_ble_eq_true rfl) (Nat.le_of_ble_eq_true rfl) dX2_moved_34)
def v_X2_apart (sp : Nat → TR) (dy : Nat → TR) (a1 : Int32) (a2 : Int32) : (Nat → TR) := (v_X1_putBetween sp dy 12 a1.toNatClampNeg a2.toNatClampNeg).2
def x_X2_apart (a1 : Int32) (a2 : Int32) : Option String := xo (x_X2_dateAt a1) (xo (x_X2_dateAt a2) none)
set_option maxHeartbeats 4000000 in
set_option maxRecDepth 100000 in
theorem c_X2_apart (l : Launch) (hfl : l.stackTraces = false) (g : GG) (N : Nat) (ad : Nat → Nat) (x : Nat → va_E) (sp dy : Nat → TR) (la kn re : Int32) (hN : 23 ≤ N) (a1 : Int32) (a2 : Int32) : XR l yX2_apart cX2_apart 4 (.object "java/lang/String") (rm 8 8 178) g [.ref (ad 0), .int a1, .int a2] N ad (cf g ad x sp dy la kn re) N (fun E => x_X2_apart a1 a2 = some E) (fun r ad' f' => ad = ad' ∧ x_X2_apart a1 a2 = none ∧ (∃ a : Nat, some a = r) ∧ (cf g ad x (v_X2_apart sp dy a1 a2) dy la kn re) = f') := by
  intro sz
  refine mx_start (by decide) (Nat.le_of_ble_eq_true rfl) ?_
  intro p e s m args below meth c hsz X hr hex hA hK hT H locs B ls hl
  obtain ⟨hx, hb, hml, hown, hts, hlocks⟩ := id X
  have hl : lv_has ls 4 [(0, .ref (ad 0)), (1, .int a1), (2, .int a2)] := hl
  refine lv_aload_n hx hb dX2_apart_0 rfl (lv_at hl 0 rfl) ?_
  refine lv_iload_n hx hb dX2_apart_1 rfl (lv_at hl 1 rfl) ?_
  refine k_xr (k := 1) (n := 6) hex X hsz hA B (ux_V (rest := []) X (c_X2_dateAt l hfl g N ad x sp dy la kn re hN a1 H.size) mw_X2_dateAt md_X2_dateAt rfl lk_X2_140 ⟨Nat.le_of_ble_eq_true rfl, Nat.le_of_ble_eq_true rfl⟩ hA hK hT B (pl_c hN 0 (by decide)) cf_0 rfl rfl hl.1 rfl (Nat.le_of_ble_eq_true rfl) dX2_apart_2 ⟨Nat.le_of_ble_eq_true rfl, Nat.le_of_ble_eq_true rfl⟩) (Nat.le_of_ble_eq_true rfl) (Nat.le_of_ble_eq_true rfl) (Nat.le_of_ble_eq_true rfl) (Nat.le_of_ble_eq_true rfl) (fun E hE => by unfold x_X2_apart; rw [xo_some hE]) (fun r ad' f' H locs hw B => ?_)
  obtain ⟨rfl, x1, rfl, rfl⟩ := hw
  refine lv_astore_n (lv' := [(3, .ref (ad (18 + a1.toNatClampNeg))), (0, .ref (ad 0)), (1, .int a1), (2, .int a2)]) hx hb dX2_apart_5 rfl hl (by decide) rfl (fun ls hl => ?_)
  refine lv_aload_n hx hb dX2_apart_6 rfl (lv_at hl 1 rfl) ?_
  refine lv_aload_n hx hb dX2_apart_7 rfl (lv_at hl 1 rfl) ?_
  refine g_get (q := 0) (k := 6) X hK B rfl in_X2 (pl_c hN 0 (by decide)) cf_0 (by decide) lk_X2_25 rfl rfl dX2_apart_8 ?_
  refine lv_aload_n hx hb dX2_apart_11 rfl (lv_at hl 0 rfl) ?_
  refine lv_aload_n hx hb dX2_apart_12 rfl (lv_at hl 1 rfl) ?_
  refine lv_iload_n hx hb dX2_apart_13 rfl (lv_at hl 3 rfl) ?_
  refine k_xr (k := 2) (n := 12) hex X hsz hA B (ux_V (rest := [.ref (ad (18 + a1.toNatClampNeg)), .ref (ad (4 + 12)), .ref (ad 0)]) X (c_X2_dateAt l hfl g N ad x sp dy la kn re hN a2 H.size) mw_X2_dateAt md_X2_dateAt rfl lk_X2_140 ⟨Nat.le_of_ble_eq_true rfl, Nat.le_of_ble_eq_true rfl⟩ hA hK hT B (pl_c hN 0 (by decide)) cf_0 rfl rfl hl.1 rfl (Nat.le_of_ble_eq_true rfl) dX2_apart_14 ⟨Nat.le_of_ble_eq_true rfl, Nat.le_of_ble_eq_true rfl⟩) (Nat.le_of_ble_eq_true rfl) (Nat.le_of_ble_eq_true rfl) (Nat.le_of_ble_eq_true rfl) (Nat.le_of_ble_eq_true rfl) (fun E hE => by unfold x_X2_apart; rw [xo_none x1, xo_some hE]) (fun r ad' f' H locs hw B => ?_)
  obtain ⟨rfl, x2, rfl, rfl⟩ := hw
  refine k_i (k := 2) (n := 12) hA B (u_VN (rest := [.ref (ad 0)]) X (c_X1_putBetween l g N ad x sp dy la kn re hN 12 (by decide) a1.toNatClampNeg (Nat.lt_of_lt_of_le (xl_X2_dateAt x1) (by decide)) a2.toNatClampNeg (Nat.lt_of_lt_of_le (xl_X2_dateAt x2) (by decide)) H.size) mw_X1_putBetween md_X1_putBetween rfl lk_X2_173 ⟨Nat.le_of_ble_eq_true rfl, Nat.le_of_ble_eq_true rfl⟩ hA hK hT B (pl_sp hN (by decide)) (cf_sp (by decide)) rfl rfl hl.1 rfl (Nat.le_of_ble_eq_true rfl) dX2_apart_17 ⟨Nat.le_of_ble_eq_true rfl, Nat.le_of_ble_eq_true rfl⟩) (Nat.le_of_ble_eq_true rfl) (Nat.le_of_ble_eq_true rfl) (fun r ad' f' H locs hw B => ?_)
  obtain ⟨rfl, rfl, rfl⟩ := hw
  refine k_r (k := 8) (n := 178) hA B (u_V (rest := []) X (c_X2_resultInSigns l g N ad x (v_X1_putBetween sp dy 12 a1.toNatClampNeg a2.toNatClampNeg).2 dy la kn re hN (v_X1_putBetween sp dy 12 a1.toNatClampNeg a2.toNatClampNeg).1 H.size) mw_X2_resultInSigns md_X2_resultInSigns rfl lk_X2_129 ⟨Nat.le_of_ble_eq_true rfl, Nat.le_of_ble_eq_true rfl⟩ hA hK hT B (pl_c hN 0 (by decide)) cf_0 rfl rfl hl.1 rfl (Nat.le_of_ble_eq_true rfl) dX2_apart_20 ⟨Nat.le_of_ble_eq_true rfl, Nat.le_of_ble_eq_true rfl⟩) (Nat.le_of_ble_eq_true rfl) (Nat.le_of_ble_eq_true rfl) (fun r ad' f' H locs hw B => ?_)
  obtain ⟨rfl, ⟨so3, rfl⟩, rfl⟩ := hw
  have ev := (show v_X2_apart sp dy a1 a2 = (v_X1_putBetween sp dy 12 a1.toNatClampNeg a2.toNatClampNeg).2 from rfl)
  exact vx_ret (rt_r (r := some (so3)) rfl X hr (Or.inl ⟨_, rfl⟩) (ad, (cf g ad x (v_X1_putBetween sp dy 12 a1.toNatClampNeg a2.toNatClampNeg).2 dy la kn re)) B (PO_of B) ⟨rfl, by unfold x_X2_apart; rw [xo_none x1, xo_none x2], ⟨_, rfl⟩, by rw [ev]⟩ (Nat.le_of_ble_eq_true rfl) (Nat.le_of_ble_eq_true rfl) dX2_apart_23)
