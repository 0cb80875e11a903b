def v_X2_write (sp : Nat → TR) (re : Int32) (a1 : Int32) (a2 : Int32) (a3 : Int32) (a4 : Int32) : Int32 × (Nat → TR) × Int32 := ((v_X2_actOnCard (v_X1_put sp 12 a2.toInt64 a3.toInt64 a4.toInt64).2 re a1.toNatClampNeg (v_X1_put sp 12 a2.toInt64 a3.toInt64 a4.toInt64).1).1, (v_X2_actOnCard (v_X1_put sp 12 a2.toInt64 a3.toInt64 a4.toInt64).2 re a1.toNatClampNeg (v_X1_put sp 12 a2.toInt64 a3.toInt64 a4.toInt64).1).2.1, (v_X2_actOnCard (v_X1_put sp 12 a2.toInt64 a3.toInt64 a4.toInt64).2 re a1.toNatClampNeg (v_X1_put sp 12 a2.toInt64 a3.toInt64 a4.toInt64).1).2.2)
def x_X2_write (a1 : Int32) : Option String := xo (x_X2_cardAt a1) none
set_option maxHeartbeats 4000000 in
set_option maxRecDepth 100000 in
theorem c_X2_write (l : Launch) (hfl : l.stackTraces = false) (g : GG) (N : Nat) (ad : Nat → Nat) (x : Nat → va_E) (sp dy : Nat → TR) (la kn re : Int32) (hN : 23 ≤ N) (a1 : Int32) (a2 : Int32) (a3 : Int32) (a4 : Int32) : XI l yX2_write cX2_write 5 (some .int) (rm 2 1 6) g [.ref (ad 0), .int a1, .int a2, .int a3, .int a4] N ad (cf g ad x sp dy la kn re) N (fun E => x_X2_write a1 = some E) (fun r ad' f' => ad = ad' ∧ x_X2_write a1 = none ∧ (v_X2_write sp re a1 a2 a3 a4).1 = r ∧ (cf g ad x (v_X2_write sp re a1 a2 a3 a4).2.1 dy la kn (v_X2_write sp re a1 a2 a3 a4).2.2) = f') := by
  intro sz
  refine mx_start (by decide) (Nat.le_of_ble_eq_true rfl) ?_
  intro p e s m args below meth c hsz X hr hex hA hK hT H locs B ls hl
  obtain ⟨hx, hb, hml, hown, hts, hlocks⟩ := id X
  have hl : lv_has ls 5 [(0, .ref (ad 0)), (1, .int a1), (2, .int a2), (3, .int a3), (4, .int a4)] := hl
  refine lv_aload_n hx hb dX2_write_0 rfl (lv_at hl 0 rfl) ?_
  refine lv_aload_n hx hb dX2_write_1 rfl (lv_at hl 0 rfl) ?_
  refine lv_iload_n hx hb dX2_write_2 rfl (lv_at hl 1 rfl) ?_
  refine k_xr (k := 1) (n := 6) hex X hsz hA B (ux_V (rest := [.ref (ad 0)]) X (c_X2_cardAt l hfl g N ad x sp dy la kn re hN a1 H.size) mw_X2_cardAt md_X2_cardAt rfl lk_X2_37 ⟨Nat.le_of_ble_eq_true rfl, Nat.le_of_ble_eq_true rfl⟩ hA hK hT B (pl_c hN 0 (by decide)) cf_0 rfl rfl hl.1 rfl (Nat.le_of_ble_eq_true rfl) dX2_write_3 ⟨Nat.le_of_ble_eq_true rfl, Nat.le_of_ble_eq_true rfl⟩) (Nat.le_of_ble_eq_true rfl) (Nat.le_of_ble_eq_true rfl) (Nat.le_of_ble_eq_true rfl) (Nat.le_of_ble_eq_true rfl) (fun E hE => by unfold x_X2_write; rw [xo_some hE]) (fun r ad' f' H locs hw B => ?_)
  obtain ⟨rfl, x1, rfl, rfl⟩ := hw
  refine lv_aload_n hx hb dX2_write_6 rfl (lv_at hl 0 rfl) ?_
  refine g_get (q := 0) (k := 6) X hK B rfl in_X2 (pl_c hN 0 (by decide)) cf_0 (by decide) lk_X2_25 rfl rfl dX2_write_7 ?_
  refine lv_iload_n hx hb dX2_write_10 rfl (lv_at hl 2 rfl) ?_
  refine lv_i2l (v := a2.toInt64) hx hb dX2_write_11 rfl ?_
  refine lv_iload_n hx hb dX2_write_12 rfl (lv_at hl 3 rfl) ?_
  refine lv_i2l (v := a3.toInt64) hx hb dX2_write_13 rfl ?_
  refine lv_iload hx hb dX2_write_14 (lv_at hl 4 rfl) ?_
  refine lv_i2l (v := a4.toInt64) hx hb dX2_write_16 rfl ?_
  refine k_i (k := 1) (n := 6) hA B (u_VN (rest := [.ref (ad (4 + a1.toNatClampNeg)), .ref (ad 0)]) X (c_X1_put l g N ad x sp dy la kn re hN 12 (by decide) a2.toInt64 a3.toInt64 a4.toInt64 H.size) mw_X1_put md_X1_put rfl lk_X2_41 ⟨Nat.le_of_ble_eq_true rfl, Nat.le_of_ble_eq_true rfl⟩ hA hK hT B (pl_sp hN (by decide)) (cf_sp (by decide)) rfl rfl hl.1 rfl (Nat.le_of_ble_eq_true rfl) dX2_write_17 ⟨Nat.le_of_ble_eq_true rfl, Nat.le_of_ble_eq_true rfl⟩) (Nat.le_of_ble_eq_true rfl) (Nat.le_of_ble_eq_true rfl) (fun r ad' f' H locs hw B => ?_)
  obtain ⟨rfl, rfl, rfl⟩ := hw
  refine k_i (k := 1) (n := 6) hA B (u_V (rest := []) X (c_X2_actOnCard l g N ad x (v_X1_put sp 12 a2.toInt64 a3.toInt64 a4.toInt64).2 dy la kn re hN a1.toNatClampNeg (Nat.lt_of_lt_of_le (xl_X2_cardAt x1) (by decide)) (v_X1_put sp 12 a2.toInt64 a3.toInt64 a4.toInt64).1 H.size) mw_X2_actOnCard md_X2_actOnCard rfl lk_X2_45 ⟨Nat.le_of_ble_eq_true rfl, Nat.le_of_ble_eq_true rfl⟩ hA hK hT B (pl_c hN 0 (by decide)) cf_0 rfl rfl hl.1 rfl (Nat.le_of_ble_eq_true rfl) dX2_write_20 ⟨Nat.le_of_ble_eq_true rfl, Nat.le_of_ble_eq_true rfl⟩) (Nat.le_of_ble_eq_true rfl) (Nat.le_of_ble_eq_true rfl) (fun r ad' f' H locs hw B => ?_)
  obtain ⟨rfl, rfl, rfl⟩ := hw
  have ev := (show v_X2_write sp re a1 a2 a3 a4 = ((v_X2_actOnCard (v_X1_put sp 12 a2.toInt64 a3.toInt64 a4.toInt64).2 re a1.toNatClampNeg (v_X1_put sp 12 a2.toInt64 a3.toInt64 a4.toInt64).1).1, (v_X2_actOnCard (v_X1_put sp 12 a2.toInt64 a3.toInt64 a4.toInt64).2 re a1.toNatClampNeg (v_X1_put sp 12 a2.toInt64 a3.toInt64 a4.toInt64).1).2.1, (v_X2_actOnCard (v_X1_put sp 12 a2.toInt64 a3.toInt64 a4.toInt64).2 re a1.toNatClampNeg (v_X1_put sp 12 a2.toInt64 a3.toInt64 a4.toInt64).1).2.2) from rfl)
  exact vx_ret (rt_i X hr (ad, (cf g ad x (v_X2_actOnCard (v_X1_put sp 12 a2.toInt64 a3.toInt64 a4.toInt64).2 re a1.toNatClampNeg (v_X1_put sp 12 a2.toInt64 a3.toInt64 a4.toInt64).1).2.1 dy la kn (v_X2_actOnCard (v_X1_put sp 12 a2.toInt64 a3.toInt64 a4.toInt64).2 re a1.toNatClampNeg (v_X1_put sp 12 a2.toInt64 a3.toInt64 a4.toInt64).1).2.2)) B (PO_of B) ⟨rfl, by unfold x_X2_write; rw [xo_none x1], by rw [ev], by rw [ev]⟩ rfl (Nat.le_of_ble_eq_true rfl) (Nat.le_of_ble_eq_true rfl) dX2_write_23)
def v_X2_ofYears (sp : Nat → TR) (re : Int32) (a1 : Int32) (a2 : Int32) : Int32 × (Nat → TR) × Int32 := ((v_X2_actOnCard (v_X1_put sp 12 a2.toInt64 0 0).2 re a1.toNatClampNeg (v_X1_put sp 12 a2.toInt64 0 0).1).1, (v_X2_actOnCard (v_X1_put sp 12 a2.toInt64 0 0).2 re a1.toNatClampNeg (v_X1_put sp 12 a2.toInt64 0 0).1).2.1, (v_X2_actOnCard (v_X1_put sp 12 a2.toInt64 0 0).2 re a1.toNatClampNeg (v_X1_put sp 12 a2.toInt64 0 0).1).2.2)
def x_X2_ofYears (a1 : Int32) : Option String := xo (x_X2_cardAt a1) none
set_option maxHeartbeats 4000000 in
set_option maxRecDepth 100000 in
theorem c_X2_ofYears (l : Launch) (hfl : l.stackTraces = false) (g : GG) (N : Nat) (ad : Nat → Nat) (x : Nat → va_E) (sp dy : Nat → TR) (la kn re : Int32) (hN : 23 ≤ N) (a1 : Int32) (a2 : Int32) : XI l yX2_ofYears cX2_ofYears 3 (some .int) (rm 2 1 6) g [.ref (ad 0), .int a1, .int a2] N ad (cf g ad x sp dy la kn re) N (fun E => x_X2_ofYears a1 = some E) (fun r ad' f' => ad = ad' ∧ x_X2_ofYears a1 = none ∧ (v_X2_ofYears sp re a1 a2).1 = r ∧ (cf g ad x (v_X2_ofYears sp re a1 a2).2.1 dy la kn (v_X2_ofYears sp re a1 a2).2.2) = f') := by
  intro sz
  refine mx_start (by decide) (Nat.le_of_ble_eq_true rfl) ?_
  intro p e s m args below meth c hsz X hr hex hA hK hT H locs B ls hl
  obtain ⟨hx, hb, hml, hown, hts, hlocks⟩ := id X
  have hl : lv_has ls 3 [(0, .ref (ad 0)), (1, .int a1), (2, .int a2)] := hl
  refine lv_aload_n hx hb dX2_ofYears_0 rfl (lv_at hl 0 rfl) ?_
  refine lv_aload_n hx hb dX2_ofYears_1 rfl (lv_at hl 0 rfl) ?_
  refine lv_iload_n hx hb dX2_ofYears_2 rfl (lv_at hl 1 rfl) ?_
  refine k_xr (k := 1) (n := 6) hex X hsz hA B (ux_V (rest := [.ref (ad 0)]) X (c_X2_cardAt l hfl g N ad x sp dy la kn re hN a1 H.size) mw_X2_cardAt md_X2_cardAt rfl lk_X2_37 ⟨Nat.le_of_ble_eq_true rfl, Nat.le_of_ble_eq_true rfl⟩ hA hK hT B (pl_c hN 0 (by decide)) cf_0 rfl rfl hl.1 rfl (Nat.le_of_ble_eq_true rfl) dX2_ofYears_3 ⟨Nat.le_of_ble_eq_true rfl, Nat.le_of_ble_eq_true rfl⟩) (Nat.le_of_ble_eq_true rfl) (Nat.le_of_ble_eq_true rfl) (Nat.le_of_ble_eq_true rfl) (Nat.le_of_ble_eq_true rfl) (fun E hE => by unfold x_X2_ofYears; rw [xo_some hE]) (fun r ad' f' H locs hw B => ?_)
  obtain ⟨rfl, x1, rfl, rfl⟩ := hw
  refine lv_aload_n hx hb dX2_ofYears_6 rfl (lv_at hl 0 rfl) ?_
  refine g_get (q := 0) (k := 6) X hK B rfl in_X2 (pl_c hN 0 (by decide)) cf_0 (by decide) lk_X2_25 rfl rfl dX2_ofYears_7 ?_
  refine lv_iload_n hx hb dX2_ofYears_10 rfl (lv_at hl 2 rfl) ?_
  refine lv_i2l (v := a2.toInt64) hx hb dX2_ofYears_11 rfl ?_
  refine lv_lconst (v := 0) hx hb dX2_ofYears_12 (by decide) ?_
  refine lv_lconst (v := 0) hx hb dX2_ofYears_13 (by decide) ?_
  refine k_i (k := 1) (n := 6) hA B (u_VN (rest := [.ref (ad (4 + a1.toNatClampNeg)), .ref (ad 0)]) X (c_X1_put l g N ad x sp dy la kn re hN 12 (by decide) a2.toInt64 0 0 H.size) mw_X1_put md_X1_put rfl lk_X2_41 ⟨Nat.le_of_ble_eq_true rfl, Nat.le_of_ble_eq_true rfl⟩ hA hK hT B (pl_sp hN (by decide)) (cf_sp (by decide)) rfl rfl hl.1 rfl (Nat.le_of_ble_eq_true rfl) dX2_ofYears_14 ⟨Nat.le_of_ble_eq_true rfl, Nat.le_of_ble_eq_true rfl⟩) (Nat.le_of_ble_eq_true rfl) (Nat.le_of_ble_eq_true rfl) (fun r ad' f' H locs hw B => ?_)
  obtain ⟨rfl, rfl, rfl⟩ := hw
  refine k_i (k := 1) (n := 6) hA B (u_V (rest := []) X (c_X2_actOnCard l g N ad x (v_X1_put sp 12 a2.toInt64 0 0).2 dy la kn re hN a1.toNatClampNeg (Nat.lt_of_lt_of_le (xl_X2_cardAt x1) (by decide)) (v_X1_put sp 12 a2.toInt64 0 0).1 H.size) mw_X2_actOnCard md_X2_actOnCard rfl lk_X2_45 ⟨Nat.le_of_ble_eq_true rfl, Nat.le_of_ble_eq_true rfl⟩ hA hK hT B (pl_c hN 0 (by decide)) cf_0 rfl rfl hl.1 rfl (Nat.le_of_ble_eq_true rfl) dX2_ofYears_17 ⟨Nat.le_of_ble_eq_true rfl, Nat.le_of_ble_eq_true rfl⟩) (Nat.le_of_ble_eq_true rfl) (Nat.le_of_ble_eq_true rfl) (fun r ad' f' H locs hw B => ?_)
  obtain ⟨rfl, rfl, rfl⟩ := hw
  have ev := (show v_X2_ofYears sp re a1 a2 = ((v_X2_actOnCard (v_X1_put sp 12 a2.toInt64 0 0).2 re a1.toNatClampNeg (v_X1_put sp 12 a2.toInt64 0 0).1).1, (v_X2_actOnCard (v_X1_put sp 12 a2.toInt64 0 0).2 re a1.toNatClampNeg (v_X1_put sp 12 a2.toInt64 0 0).1).2.1, (v_X2_actOnCard (v_X1_put sp 12 a2.toInt64 0 0).2 re a1.toNatClampNeg (v_X1_put sp 12 a2.toInt64 0 0).1).2.2) from rfl)
  exact vx_ret (rt_i X hr (ad, (cf g ad x (v_X2_actOnCard (v_X1_put sp 12 a2.toInt64 0 0).2 re a1.toNatClampNeg (v_X1_put sp 12 a2.toInt64 0 0).1).2.1 dy la kn (v_X2_actOnCard (v_X1_put sp 12 a2.toInt64 0 0).2 re a1.toNatClampNeg (v_X1_put sp 12 a2.toInt64 0 0).1).2.2)) B (PO_of B) ⟨rfl, by unfold x_X2_ofYears; rw [xo_none x1], by rw [ev], by rw [ev]⟩ rfl (Nat.le_of_ble_eq_true rfl) (Nat.le_of_ble_eq_true rfl) dX2_ofYears_20)
def v_X2_ofMonths (sp : Nat → TR) (re : Int32) (a1 : Int32) (a2 : Int32) : Int32 × (Nat → TR) × Int32 := ((v_X2_actOnCard (v_X1_put sp 12 0 a2.toInt64 0).2 re a1.toNatClampNeg (v_X1_put sp 12 0 a2.toInt64 0).1).1, (v_X2_actOnCard (v_X1_put sp 12 0 a2.toInt64 0).2 re a1.toNatClampNeg (v_X1_put sp 12 0 a2.toInt64 0).1).2.1, (v_X2_actOnCard (v_X1_put sp 12 0 a2.toInt64 0).2 re a1.toNatClampNeg (v_X1_put sp 12 0 a2.toInt64 0).1).2.2)
def x_X2_ofMonths (a1 : Int32) : Option String := xo (x_X2_cardAt a1) none
set_option maxHeartbeats 4000000 in
set_option maxRecDepth 100000 in
theorem c_X2_ofMonths (l : Launch) (hfl : l.stackTraces = false) (g : GG) (N : Nat) (ad : Nat → Nat) (x : Nat → va_E) (sp dy : Nat → TR) (la kn re : Int32) (hN : 23 ≤ N) (a1 : Int32) (a2 : Int32) : XI l yX2_ofMonths cX2_ofMonths 3 (some .int) (rm 2 1 6) g [.ref (ad 0), .int a1, .int a2] N ad (cf g ad x sp dy la kn re) N (fun E => x_X2_ofMonths a1 = some E) (fun r ad' f' => ad = ad' ∧ x_X2_ofMonths a1 = none ∧ (v_X2_ofMonths sp re a1 a2).1 = r ∧ (cf g ad x (v_X2_ofMonths sp re a1 a2).2.1 dy la kn (v_X2_ofMonths sp re a1 a2).2.2) = f') := by
  intro sz
  refine mx_start (by decide) (Nat.le_of_ble_eq_true rfl) ?_
  intro p e s m args below meth c hsz X hr hex hA hK hT H locs B ls hl
  obtain ⟨hx, hb, hml, hown, hts, hlocks⟩ := id X
  have hl : lv_has ls 3 [(0, .ref (ad 0)), (1, .int a1), (2, .int a2)] := hl
  refine lv_aload_n hx hb dX2_ofMonths_0 rfl (lv_at hl 0 rfl) ?_
  refine lv_aload_n hx hb dX2_ofMonths_1 rfl (lv_at hl 0 rfl) ?_
  refine lv_iload_n hx hb dX2_ofMonths_2 rfl (lv_at hl 1 rfl) ?_
  refine k_xr (k := 1) (n := 6) hex X hsz hA B (ux_V (rest := [.ref (ad 0)]) X (c_X2_cardAt l hfl g N ad x sp dy la kn re hN a1 H.size) mw_X2_cardAt md_X2_cardAt rfl lk_X2_37 ⟨Nat.le_of_ble_eq_true rfl, Nat.le_of_ble_eq_true rfl⟩ hA hK hT B (pl_c hN 0 (by decide)) cf_0 rfl rfl hl.1 rfl (Nat.le_of_ble_eq_true rfl) dX2_ofMonths_3 ⟨Nat.le_of_ble_eq_true rfl, Nat.le_of_ble_eq_true rfl⟩) (Nat.le_of_ble_eq_true rfl) (Nat.le_of_ble_eq_true rfl) (Nat.le_of_ble_eq_true rfl) (Nat.le_of_ble_eq_true rfl) (fun E hE => by unfold x_X2_ofMonths; rw [xo_some hE]) (fun r ad' f' H locs hw B => ?_)
  obtain ⟨rfl, x1, rfl, rfl⟩ := hw
  refine lv_aload_n hx hb dX2_ofMonths_6 rfl (lv_at hl 0 rfl) ?_
  refine g_get (q := 0) (k := 6) X hK B rfl in_X2 (pl_c hN 0 (by decide)) cf_0 (by decide) lk_X2_25 rfl rfl dX2_ofMonths_7 ?_
  refine lv_lconst (v := 0) hx hb dX2_ofMonths_10 (by decide) ?_
  refine lv_iload_n hx hb dX2_ofMonths_11 rfl (lv_at hl 2 rfl) ?_
  refine lv_i2l (v := a2.toInt64) hx hb dX2_ofMonths_12 rfl ?_
  refine lv_lconst (v := 0) hx hb dX2_ofMonths_13 (by decide) ?_
  refine k_i (k := 1) (n := 6) hA B (u_VN (rest := [.ref (ad (4 + a1.toNatClampNeg)), .ref (ad 0)]) X (c_X1_put l g N ad x sp dy la kn re hN 12 (by decide) 0 a2.toInt64 0 H.size) mw_X1_put md_X1_put rfl lk_X2_41 ⟨Nat.le_of_ble_eq_true rfl, Nat.le_of_ble_eq_true rfl⟩ hA hK hT B (pl_sp hN (by decide)) (cf_sp (by decide)) rfl rfl hl.1 rfl (Nat.le_of_ble_eq_true rfl) dX2_ofMonths_14 ⟨Nat.le_of_ble_eq_true rfl, Nat.le_of_ble_eq_true rfl⟩) (Nat.le_of_ble_eq_true rfl) (Nat.le_of_ble_eq_true rfl) (fun r ad' f' H locs hw B => ?_)
  obtain ⟨rfl, rfl, rfl⟩ := hw
  refine k_i (k := 1) (n := 6) hA B (u_V (rest := []) X (c_X2_actOnCard l g N ad x (v_X1_put sp 12 0 a2.toInt64 0).2 dy la kn re hN a1.toNatClampNeg (Nat.lt_of_lt_of_le (xl_X2_cardAt x1) (by decide)) (v_X1_put sp 12 0 a2.toInt64 0).1 H.size) mw_X2_actOnCard md_X2_actOnCard rfl lk_X2_45 ⟨Nat.le_of_ble_eq_true rfl, Nat.le_of_ble_eq_true rfl⟩ hA hK hT B (pl_c hN 0 (by decide)) cf_0 rfl rfl hl.1 rfl (Nat.le_of_ble_eq_true rfl) dX2_ofMonths_17 ⟨Nat.le_of_ble_eq_true rfl, Nat.le_of_ble_eq_true rfl⟩) (Nat.le_of_ble_eq_true rfl) (Nat.le_of_ble_eq_true rfl) (fun r ad' f' H locs hw B => ?_)
  obtain ⟨rfl, rfl, rfl⟩ := hw
  have ev := (show v_X2_ofMonths sp re a1 a2 = ((v_X2_actOnCard (v_X1_put sp 12 0 a2.toInt64 0).2 re a1.toNatClampNeg (v_X1_put sp 12 0 a2.toInt64 0).1).1, (v_X2_actOnCard (v_X1_put sp 12 0 a2.toInt64 0).2 re a1.toNatClampNeg (v_X1_put sp 12 0 a2.toInt64 0).1).2.1, (v_X2_actOnCard (v_X1_put sp 12 0 a2.toInt64 0).2 re a1.toNatClampNeg (v_X1_put sp 12 0 a2.toInt64 0).1).2.2) from rfl)
  exact vx_ret (rt_i X hr (ad, (cf g ad x (v_X2_actOnCard (v_X1_put sp 12 0 a2.toInt64 0).2 re a1.toNatClampNeg (v_X1_put sp 12 0 a2.toInt64 0).1).2.1 dy la kn (v_X2_actOnCard (v_X1_put sp 12 0 a2.toInt64 0).2 re a1.toNatClampNeg (v_X1_put sp 12 0 a2.toInt64 0).1).2.2)) B (PO_of B) ⟨rfl, by unfold x_X2_ofMonths; rw [xo_none x1], by rw [ev], by rw [ev]⟩ rfl (Nat.le_of_ble_eq_true rfl) (Nat.le_of_ble_eq_true rfl) dX2_ofMonths_20)
def v_X2_ofWeeks (sp : Nat → TR) (re : Int32) (a1 : Int32) (a2 : Int32) : Int32 × (Nat → TR) × Int32 := ((v_X2_actOnCard (v_X1_put sp 12 0 0 (a2.toInt64 * 7)).2 re a1.toNatClampNeg (v_X1_put sp 12 0 0 (a2.toInt64 * 7)).1).1, (v_X2_actOnCard (v_X1_put sp 12 0 0 (a2.toInt64 * 7)).2 re a1.toNatClampNeg (v_X1_put sp 12 0 0 (a2.toInt64 * 7)).1).2.1, (v_X2_actOnCard (v_X1_put sp 12 0 0 (a2.toInt64 * 7)).2 re a1.toNatClampNeg (v_X1_put sp 12 0 0 (a2.toInt64 * 7)).1).2.2)
def x_X2_ofWeeks (a1 : Int32) : Option String := xo (x_X2_cardAt a1) none
set_option maxHeartbeats 4000000 in
set_option maxRecDepth 100000 in
theorem c_X2_ofWeeks (l : Launch) (hfl : l.stackTraces = false) (g : GG) (N : Nat) (ad : Nat → Nat) (x : Nat → va_E) (sp dy : Nat → TR) (la kn re : Int32) (hN : 23 ≤ N) (a1 : Int32) (a2 : Int32) : XI l yX2_ofWeeks cX2_ofWeeks 3 (some .int) (rm 2 1 6) g [.ref (ad 0), .int a1, .int a2] N ad (cf g ad x sp dy la kn re) N (fun E => x_X2_ofWeeks a1 = some E) (fun r ad' f' => ad = ad' ∧ x_X2_ofWeeks a1 = none ∧ (v_X2_ofWeeks sp re a1 a2).1 = r ∧ (cf g ad x (v_X2_ofWeeks sp re a1 a2).2.1 dy la kn (v_X2_ofWeeks sp re a1 a2).2.2) = f') := by
  intro sz
  refine mx_start (by decide) (Nat.le_of_ble_eq_true rfl) ?_
  intro p e s m args below meth c hsz X hr hex hA hK hT H locs B ls hl
  obtain ⟨hx, hb, hml, hown, hts, hlocks⟩ := id X
  have hl : lv_has ls 3 [(0, .ref (ad 0)), (1, .int a1), (2, .int a2)] := hl
  refine lv_aload_n hx hb dX2_ofWeeks_0 rfl (lv_at hl 0 rfl) ?_
  refine lv_aload_n hx hb dX2_ofWeeks_1 rfl (lv_at hl 0 rfl) ?_
  refine lv_iload_n hx hb dX2_ofWeeks_2 rfl (lv_at hl 1 rfl) ?_
  refine k_xr (k := 1) (n := 6) hex X hsz hA B (ux_V (rest := [.ref (ad 0)]) X (c_X2_cardAt l hfl g N ad x sp dy la kn re hN a1 H.size) mw_X2_cardAt md_X2_cardAt rfl lk_X2_37 ⟨Nat.le_of_ble_eq_true rfl, Nat.le_of_ble_eq_true rfl⟩ hA hK hT B (pl_c hN 0 (by decide)) cf_0 rfl rfl hl.1 rfl (Nat.le_of_ble_eq_true rfl) dX2_ofWeeks_3 ⟨Nat.le_of_ble_eq_true rfl, Nat.le_of_ble_eq_true rfl⟩) (Nat.le_of_ble_eq_true rfl) (Nat.le_of_ble_eq_true rfl) (Nat.le_of_ble_eq_true rfl) (Nat.le_of_ble_eq_true rfl) (fun E hE => by unfold x_X2_ofWeeks; rw [xo_some hE]) (fun r ad' f' H locs hw B => ?_)
  obtain ⟨rfl, x1, rfl, rfl⟩ := hw
  refine lv_aload_n hx hb dX2_ofWeeks_6 rfl (lv_at hl 0 rfl) ?_
  refine g_get (q := 0) (k := 6) X hK B rfl in_X2 (pl_c hN 0 (by decide)) cf_0 (by decide) lk_X2_25 rfl rfl dX2_ofWeeks_7 ?_
  refine lv_lconst (v := 0) hx hb dX2_ofWeeks_10 (by decide) ?_
  refine lv_lconst (v := 0) hx hb dX2_ofWeeks_11 (by decide) ?_
  refine lv_iload_n hx hb dX2_ofWeeks_12 rfl (lv_at hl 2 rfl) ?_
  refine lv_i2l (v := a2.toInt64) hx hb dX2_ofWeeks_13 rfl ?_
  refine lv_ldc2 hx hb hown (hts _ (List.mem_cons_of_mem _ lk_X2_49)) dX2_ofWeeks_14 ?_
  refine lv_lmul hx hb dX2_ofWeeks_17 ?_
  refine k_i (k := 1) (n := 6) hA B (u_VN (rest := [.ref (ad (4 + a1.toNatClampNeg)), .ref (ad 0)]) X (c_X1_put l g N ad x sp dy la kn re hN 12 (by decide) 0 0 (a2.toInt64 * 7) H.size) mw_X1_put md_X1_put rfl lk_X2_41 ⟨Nat.le_of_ble_eq_true rfl, Nat.le_of_ble_eq_true rfl⟩ hA hK hT B (pl_sp hN (by decide)) (cf_sp (by decide)) rfl rfl hl.1 rfl (Nat.le_of_ble_eq_true rfl) dX2_ofWeeks_18 ⟨Nat.le_of_ble_eq_true rfl, Nat.le_of_ble_eq_true rfl⟩) (Nat.le_of_ble_eq_true rfl) (Nat.le_of_ble_eq_true rfl) (fun r ad' f' H locs hw B => ?_)
  obtain ⟨rfl, rfl, rfl⟩ := hw
  refine k_i (k := 1) (n := 6) hA B (u_V (rest := []) X (c_X2_actOnCard l g N ad x (v_X1_put sp 12 0 0 (a2.toInt64 * 7)).2 dy la kn re hN a1.toNatClampNeg (Nat.lt_of_lt_of_le (xl_X2_cardAt x1) (by decide)) (v_X1_put sp 12 0 0 (a2.toInt64 * 7)).1 H.size) mw_X2_actOnCard md_X2_actOnCard rfl lk_X2_45 ⟨Nat.le_of_ble_eq_true rfl, Nat.le_of_ble_eq_true rfl⟩ hA hK hT B (pl_c hN 0 (by decide)) cf_0 rfl rfl hl.1 rfl (Nat.le_of_ble_eq_true rfl) dX2_ofWeeks_21 ⟨Nat.le_of_ble_eq_true rfl, Nat.le_of_ble_eq_true rfl⟩) (Nat.le_of_ble_eq_true rfl) (Nat.le_of_ble_eq_true rfl) (fun r ad' f' H locs hw B => ?_)
  obtain ⟨rfl, rfl, rfl⟩ := hw
  have ev := (show v_X2_ofWeeks sp re a1 a2 = ((v_X2_actOnCard (v_X1_put sp 12 0 0 (a2.toInt64 * 7)).2 re a1.toNatClampNeg (v_X1_put sp 12 0 0 (a2.toInt64 * 7)).1).1, (v_X2_actOnCard (v_X1_put sp 12 0 0 (a2.toInt64 * 7)).2 re a1.toNatClampNeg (v_X1_put sp 12 0 0 (a2.toInt64 * 7)).1).2.1, (v_X2_actOnCard (v_X1_put sp 12 0 0 (a2.toInt64 * 7)).2 re a1.toNatClampNeg (v_X1_put sp 12 0 0 (a2.toInt64 * 7)).1).2.2) from rfl)
  exact vx_ret (rt_i X hr (ad, (cf g ad x (v_X2_actOnCard (v_X1_put sp 12 0 0 (a2.toInt64 * 7)).2 re a1.toNatClampNeg (v_X1_put sp 12 0 0 (a2.toInt64 * 7)).1).2.1 dy la kn (v_X2_actOnCard (v_X1_put sp 12 0 0 (a2.toInt64 * 7)).2 re a1.toNatClampNeg (v_X1_put sp 12 0 0 (a2.toInt64 * 7)).1).2.2)) B (PO_of B) ⟨rfl, by unfold x_X2_ofWeeks; rw [xo_none x1], by rw [ev], by rw [ev]⟩ rfl (Nat.le_of_ble_eq_true rfl) (Nat.le_of_ble_eq_true rfl) dX2_ofWeeks_24)
def v_X2_ofDays (sp : Nat → TR) (re : Int32) (a1 : Int32) (a2 : Int32) : Int32 × (Nat → TR) × Int32 := ((v_X2_actOnCard (v_X1_put sp 12 0 0 a2.toInt64).2 re a1.toNatClampNeg (v_X1_put sp 12 0 0 a2.toInt64).1).1, (v_X2_actOnCard (v_X1_put sp 12 0 0 a2.toInt64).2 re a1.toNatClampNeg (v_X1_put sp 12 0 0 a2.toInt64).1).2.1, (v_X2_actOnCard (v_X1_put sp 12 0 0 a2.toInt64).2 re a1.toNatClampNeg (v_X1_put sp 12 0 0 a2.toInt64).1).2.2)
def x_X2_ofDays (a1 : Int32) : Option String := xo (x_X2_cardAt a1) none
set_option maxHeartbeats 4000000 in
set_option maxRecDepth 100000 in
theorem c_X2_ofDays (l : Launch) (hfl : l.stackTraces = false) (g : GG) (N : Nat) (ad : Nat → Nat) (x : Nat → va_E) (sp dy : Nat → TR) (la kn re : Int32) (hN : 23 ≤ N) (a1 : Int32) (a2 : Int32) : XI l yX2_ofDays cX2_ofDays 3 (some .int) (rm 2 1 6) g [.ref (ad 0), .int a1, .int a2] N ad (cf g ad x sp dy la kn re) N (fun E => x_X2_ofDays a1 = some E) (fun r ad' f' => ad = ad' ∧ x_X2_ofDays a1 = none ∧ (v_X2_ofDays sp re a1 a2).1 = r ∧ (cf g ad x (v_X2_ofDays sp re a1 a2).2.1 dy la kn (v_X2_ofDays sp re a1 a2).2.2) = f') := by
  intro sz
  refine mx_start (by decide) (Nat.le_of_ble_eq_true rfl) ?_
  intro p e s m args below meth c hsz X hr hex hA hK hT H locs B ls hl
  obtain ⟨hx, hb, hml, hown, hts, hlocks⟩ := id X
  have hl : lv_has ls 3 [(0, .ref (ad 0)), (1, .int a1), (2, .int a2)] := hl
  refine lv_aload_n hx hb dX2_ofDays_0 rfl (lv_at hl 0 rfl) ?_
  refine lv_aload_n hx hb dX2_ofDays_1 rfl (lv_at hl 0 rfl) ?_
  refine lv_iload_n hx hb dX2_ofDays_2 rfl (lv_at hl 1 rfl) ?_
  refine k_xr (k := 1) (n := 6) hex X hsz hA B (ux_V (rest := [.ref (ad 0)]) X (c_X2_cardAt l hfl g N ad x sp dy la kn re hN a1 H.size) mw_X2_cardAt md_X2_cardAt rfl lk_X2_37 ⟨Nat.le_of_ble_eq_true rfl, Nat.le_of_ble_eq_true rfl⟩ hA hK hT B (pl_c hN 0 (by decide)) cf_0 rfl rfl hl.1 rfl (Nat.le_of_ble_eq_true rfl) dX2_ofDays_3 ⟨Nat.le_of_ble_eq_true rfl, Nat.le_of_ble_eq_true rfl⟩) (Nat.le_of_ble_eq_true rfl) (Nat.le_of_ble_eq_true rfl) (Nat.le_of_ble_eq_true rfl) (Nat.le_of_ble_eq_true rfl) (fun E hE => by unfold x_X2_ofDays; rw [xo_some hE]) (fun r ad' f' H locs hw B => ?_)
  obtain ⟨rfl, x1, rfl, rfl⟩ := hw
  refine lv_aload_n hx hb dX2_ofDays_6 rfl (lv_at hl 0 rfl) ?_
  refine g_get (q := 0) (k := 6) X hK B rfl in_X2 (pl_c hN 0 (by decide)) cf_0 (by decide) lk_X2_25 rfl rfl dX2_ofDays_7 ?_
  refine lv_lconst (v := 0) hx hb dX2_ofDays_10 (by decide) ?_
  refine lv_lconst (v := 0) hx hb dX2_ofDays_11 (by decide) ?_
  refine lv_iload_n hx hb dX2_ofDays_12 rfl (lv_at hl 2 rfl) ?_
  refine lv_i2l (v := a2.toInt64) hx hb dX2_ofDays_13 rfl ?_
  refine k_i (k := 1) (n := 6) hA B (u_VN (rest := [.ref (ad (4 + a1.toNatClampNeg)), .ref (ad 0)]) X (c_X1_put l g N ad x sp dy la kn re hN 12 (by decide) 0 0 a2.toInt64 H.size) mw_X1_put md_X1_put rfl lk_X2_41 ⟨Nat.le_of_ble_eq_true rfl, Nat.le_of_ble_eq_true rfl⟩ hA hK hT B (pl_sp hN (by decide)) (cf_sp (by decide)) rfl rfl hl.1 rfl (Nat.le_of_ble_eq_true rfl) dX2_ofDays_14 ⟨Nat.le_of_ble_eq_true rfl, Nat.le_of_ble_eq_true rfl⟩) (Nat.le_of_ble_eq_true rfl) (Nat.le_of_ble_eq_true rfl) (fun r ad' f' H locs hw B => ?_)
  obtain ⟨rfl, rfl, rfl⟩ := hw
  refine k_i (k := 1) (n := 6) hA B (u_V (rest := []) X (c_X2_actOnCard l g N ad x (v_X1_put sp 12 0 0 a2.toInt64).2 dy la kn re hN a1.toNatClampNeg (Nat.lt_of_lt_of_le (xl_X2_cardAt x1) (by decide)) (v_X1_put sp 12 0 0 a2.toInt64).1 H.size) mw_X2_actOnCard md_X2_actOnCard rfl lk_X2_45 ⟨Nat.le_of_ble_eq_true rfl, Nat.le_of_ble_eq_true rfl⟩ hA hK hT B (pl_c hN 0 (by decide)) cf_0 rfl rfl hl.1 rfl (Nat.le_of_ble_eq_true rfl) dX2_ofDays_17 ⟨Nat.le_of_ble_eq_true rfl, Nat.le_of_ble_eq_true rfl⟩) (Nat.le_of_ble_eq_true rfl) (Nat.le_of_ble_eq_true rfl) (fun r ad' f' H locs hw B => ?_)
  obtain ⟨rfl, rfl, rfl⟩ := hw
  have ev := (show v_X2_ofDays sp re a1 a2 = ((v_X2_actOnCard (v_X1_put sp 12 0 0 a2.toInt64).2 re a1.toNatClampNeg (v_X1_put sp 12 0 0 a2.toInt64).1).1, (v_X2_actOnCard (v_X1_put sp 12 0 0 a2.toInt64).2 re a1.toNatClampNeg (v_X1_put sp 12 0 0 a2.toInt64).1).2.1, (v_X2_actOnCard (v_X1_put sp 12 0 0 a2.toInt64).2 re a1.toNatClampNeg (v_X1_put sp 12 0 0 a2.toInt64).1).2.2) from rfl)
  exact vx_ret (rt_i X hr (ad, (cf g ad x (v_X2_actOnCard (v_X1_put sp 12 0 0 a2.toInt64).2 re a1.toNatClampNeg (v_X1_put sp 12 0 0 a2.toInt64).1).2.1 dy la kn (v_X2_actOnCard (v_X1_put sp 12 0 0 a2.toInt64).2 re a1.toNatClampNeg (v_X1_put sp 12 0 0 a2.toInt64).1).2.2)) B (PO_of B) ⟨rfl, by unfold x_X2_ofDays; rw [xo_none x1], by rw [ev], by rw [ev]⟩ rfl (Nat.le_of_ble_eq_true rfl) (Nat.le_of_ble_eq_true rfl) dX2_ofDays_20)
def v_X2_change (sp : Nat → TR) (re : Int32) (a1 : Int32) (a2 : Int32) (a3 : Int32) : Int32 × (Nat → TR) × Int32 := if a2 = 0 then (if a2 = 1 then (if a2 = 2 then ((v_X2_actOnCard (v_X1_put sp 12 a3.toInt64 a3.toInt64 a3.toInt64).2 re a1.toNatClampNeg (v_X1_put sp 12 a3.toInt64 a3.toInt64 a3.toInt64).1).1, (v_X2_actOnCard (v_X1_put sp 12 a3.toInt64 a3.toInt64 a3.toInt64).2 re a1.toNatClampNeg (v_X1_put sp 12 a3.toInt64 a3.toInt64 a3.toInt64).1).2.1, (v_X2_actOnCard (v_X1_put sp 12 a3.toInt64 a3.toInt64 a3.toInt64).2 re a1.toNatClampNeg (v_X1_put sp 12 a3.toInt64 a3.toInt64 a3.toInt64).1).2.2) else ((v_X2_actOnCard (v_X1_put sp 12 a3.toInt64 a3.toInt64 ((sp a1.toNatClampNeg).2.2.toInt64)).2 re a1.toNatClampNeg (v_X1_put sp 12 a3.toInt64 a3.toInt64 ((sp a1.toNatClampNeg).2.2.toInt64)).1).1, (v_X2_actOnCard (v_X1_put sp 12 a3.toInt64 a3.toInt64 ((sp a1.toNatClampNeg).2.2.toInt64)).2 re a1.toNatClampNeg (v_X1_put sp 12 a3.toInt64 a3.toInt64 ((sp a1.toNatClampNeg).2.2.toInt64)).1).2.1, (v_X2_actOnCard (v_X1_put sp 12 a3.toInt64 a3.toInt64 ((sp a1.toNatClampNeg).2.2.toInt64)).2 re a1.toNatClampNeg (v_X1_put sp 12 a3.toInt64 a3.toInt64 ((sp a1.toNatClampNeg).2.2.toInt64)).1).2.2)) else (if a2 = 2 then ((v_X2_actOnCard (v_X1_put sp 12 a3.toInt64 ((sp a1.toNatClampNeg).2.1.toInt64) a3.toInt64).2 re a1.toNatClampNeg (v_X1_put sp 12 a3.toInt64 ((sp a1.toNatClampNeg).2.1.toInt64) a3.toInt64).1).1, (v_X2_actOnCard (v_X1_put sp 12 a3.toInt64 ((sp a1.toNatClampNeg).2.1.toInt64) a3.toInt64).2 re a1.toNatClampNeg (v_X1_put sp 12 a3.toInt64 ((sp a1.toNatClampNeg).2.1.toInt64) a3.toInt64).1).2.1, (v_X2_actOnCard (v_X1_put sp 12 a3.toInt64 ((sp a1.toNatClampNeg).2.1.toInt64) a3.toInt64).2 re a1.toNatClampNeg (v_X1_put sp 12 a3.toInt64 ((sp a1.toNatClampNeg).2.1.toInt64) a3.toInt64).1).2.2) else ((v_X2_actOnCard (v_X1_put sp 12 a3.toInt64 ((sp a1.toNatClampNeg).2.1.toInt64) ((sp a1.toNatClampNeg).2.2.toInt64)).2 re a1.toNatClampNeg (v_X1_put sp 12 a3.toInt64 ((sp a1.toNatClampNeg).2.1.toInt64) ((sp a1.toNatClampNeg).2.2.toInt64)).1).1, (v_X2_actOnCard (v_X1_put sp 12 a3.toInt64 ((sp a1.toNatClampNeg).2.1.toInt64) ((sp a1.toNatClampNeg).2.2.toInt64)).2 re a1.toNatClampNeg (v_X1_put sp 12 a3.toInt64 ((sp a1.toNatClampNeg).2.1.toInt64) ((sp a1.toNatClampNeg).2.2.toInt64)).1).2.1, (v_X2_actOnCard (v_X1_put sp 12 a3.toInt64 ((sp a1.toNatClampNeg).2.1.toInt64) ((sp a1.toNatClampNeg).2.2.toInt64)).2 re a1.toNatClampNeg (v_X1_put sp 12 a3.toInt64 ((sp a1.toNatClampNeg).2.1.toInt64) ((sp a1.toNatClampNeg).2.2.toInt64)).1).2.2))) else (if a2 = 1 then (if a2 = 2 then ((v_X2_actOnCard (v_X1_put sp 12 ((sp a1.toNatClampNeg).1.toInt64) a3.toInt64 a3.toInt64).2 re a1.toNatClampNeg (v_X1_put sp 12 ((sp a1.toNatClampNeg).1.toInt64) a3.toInt64 a3.toInt64).1).1, (v_X2_actOnCard (v_X1_put sp 12 ((sp a1.toNatClampNeg).1.toInt64) a3.toInt64 a3.toInt64).2 re a1.toNatClampNeg (v_X1_put sp 12 ((sp a1.toNatClampNeg).1.toInt64) a3.toInt64 a3.toInt64).1).2.1, (v_X2_actOnCard (v_X1_put sp 12 ((sp a1.toNatClampNeg).1.toInt64) a3.toInt64 a3.toInt64).2 re a1.toNatClampNeg (v_X1_put sp 12 ((sp a1.toNatClampNeg).1.toInt64) a3.toInt64 a3.toInt64).1).2.2) else ((v_X2_actOnCard (v_X1_put sp 12 ((sp a1.toNatClampNeg).1.toInt64) a3.toInt64 ((sp a1.toNatClampNeg).2.2.toInt64)).2 re a1.toNatClampNeg (v_X1_put sp 12 ((sp a1.toNatClampNeg).1.toInt64) a3.toInt64 ((sp a1.toNatClampNeg).2.2.toInt64)).1).1, (v_X2_actOnCard (v_X1_put sp 12 ((sp a1.toNatClampNeg).1.toInt64) a3.toInt64 ((sp a1.toNatClampNeg).2.2.toInt64)).2 re a1.toNatClampNeg (v_X1_put sp 12 ((sp a1.toNatClampNeg).1.toInt64) a3.toInt64 ((sp a1.toNatClampNeg).2.2.toInt64)).1).2.1, (v_X2_actOnCard (v_X1_put sp 12 ((sp a1.toNatClampNeg).1.toInt64) a3.toInt64 ((sp a1.toNatClampNeg).2.2.toInt64)).2 re a1.toNatClampNeg (v_X1_put sp 12 ((sp a1.toNatClampNeg).1.toInt64) a3.toInt64 ((sp a1.toNatClampNeg).2.2.toInt64)).1).2.2)) else (if a2 = 2 then ((v_X2_actOnCard (v_X1_put sp 12 ((sp a1.toNatClampNeg).1.toInt64) ((sp a1.toNatClampNeg).2.1.toInt64) a3.toInt64).2 re a1.toNatClampNeg (v_X1_put sp 12 ((sp a1.toNatClampNeg).1.toInt64) ((sp a1.toNatClampNeg).2.1.toInt64) a3.toInt64).1).1, (v_X2_actOnCard (v_X1_put sp 12 ((sp a1.toNatClampNeg).1.toInt64) ((sp a1.toNatClampNeg).2.1.toInt64) a3.toInt64).2 re a1.toNatClampNeg (v_X1_put sp 12 ((sp a1.toNatClampNeg).1.toInt64) ((sp a1.toNatClampNeg).2.1.toInt64) a3.toInt64).1).2.1, (v_X2_actOnCard (v_X1_put sp 12 ((sp a1.toNatClampNeg).1.toInt64) ((sp a1.toNatClampNeg).2.1.toInt64) a3.toInt64).2 re a1.toNatClampNeg (v_X1_put sp 12 ((sp a1.toNatClampNeg).1.toInt64) ((sp a1.toNatClampNeg).2.1.toInt64) a3.toInt64).1).2.2) else ((v_X2_actOnCard (v_X1_put sp 12 ((sp a1.toNatClampNeg).1.toInt64) ((sp a1.toNatClampNeg).2.1.toInt64) ((sp a1.toNatClampNeg).2.2.toInt64)).2 re a1.toNatClampNeg (v_X1_put sp 12 ((sp a1.toNatClampNeg).1.toInt64) ((sp a1.toNatClampNeg).2.1.toInt64) ((sp a1.toNatClampNeg).2.2.toInt64)).1).1, (v_X2_actOnCard (v_X1_put sp 12 ((sp a1.toNatClampNeg).1.toInt64) ((sp a1.toNatClampNeg).2.1.toInt64) ((sp a1.toNatClampNeg).2.2.toInt64)).2 re a1.toNatClampNeg (v_X1_put sp 12 ((sp a1.toNatClampNeg).1.toInt64) ((sp a1.toNatClampNeg).2.1.toInt64) ((sp a1.toNatClampNeg).2.2.toInt64)).1).2.1, (v_X2_actOnCard (v_X1_put sp 12 ((sp a1.toNatClampNeg).1.toInt64) ((sp a1.toNatClampNeg).2.1.toInt64) ((sp a1.toNatClampNeg).2.2.toInt64)).2 re a1.toNatClampNeg (v_X1_put sp 12 ((sp a1.toNatClampNeg).1.toInt64) ((sp a1.toNatClampNeg).2.1.toInt64) ((sp a1.toNatClampNeg).2.2.toInt64)).1).2.2)))
def x_X2_change (a1 : Int32) (a2 : Int32) : Option String := xo (x_X2_cardAt a1) (xo (x_X2_checkWhat a2 3) (if a2 = 0 then (if a2 = 1 then (if a2 = 2 then none else none) else (if a2 = 2 then none else none)) else (if a2 = 1 then (if a2 = 2 then none else none) else (if a2 = 2 then none else none))))
set_option maxHeartbeats 4000000 in
set_option maxRecDepth 100000 in
theorem c_X2_change (l : Launch) (hfl : l.stackTraces = false) (g : GG) (N : Nat) (ad : Nat → Nat) (x : Nat → va_E) (sp dy : Nat → TR) (la kn re : Int32) (hN : 23 ≤ N) (a1 : Int32) (a2 : Int32) (a3 : Int32) : XI l yX2_change cX2_change 8 (some .int) (rm 2 2 12) g [.ref (ad 0), .int a1, .int a2, .int a3] N ad (cf g ad x sp dy la kn re) N (fun E => x_X2_change a1 a2 = some E) (fun r ad' f' => ad = ad' ∧ x_X2_change a1 a2 = none ∧ (v_X2_change sp re a1 a2 a3).1 = r ∧ (cf g ad x (v_X2_change sp re a1 a2 a3).2.1 dy la kn (v_X2_change sp re a1 a2 a3).2.2) = f') := by
  intro sz
  refine mx_start (by decide) (Nat.le_of_ble_eq_true rfl) ?_
  intro p e s m args below meth c hsz X hr hex hA hK hT H locs B ls hl
  obtain ⟨hx, hb, hml, hown, hts, hlocks⟩ := id X
  have hl : lv_has ls 8 [(0, .ref (ad 0)), (1, .int a1), (2, .int a2), (3, .int a3)] := hl
  refine lv_aload_n hx hb dX2_change_0 rfl (lv_at hl 0 rfl) ?_
  refine lv_iload_n hx hb dX2_change_1 rfl (lv_at hl 1 rfl) ?_
  refine k_xr (k := 1) (n := 6) hex X hsz hA B (ux_V (rest := []) X (c_X2_cardAt l hfl g N ad x sp dy la kn re hN a1 H.size) mw_X2_cardAt md_X2_cardAt rfl lk_X2_37 ⟨Nat.le_of_ble_eq_true rfl, Nat.le_of_ble_eq_true rfl⟩ hA hK hT B (pl_c hN 0 (by decide)) cf_0 rfl rfl hl.1 rfl (Nat.le_of_ble_eq_true rfl) dX2_change_2 ⟨Nat.le_of_ble_eq_true rfl, Nat.le_of_ble_eq_true rfl⟩) (Nat.le_of_ble_eq_true rfl) (Nat.le_of_ble_eq_true rfl) (Nat.le_of_ble_eq_true rfl) (Nat.le_of_ble_eq_true rfl) (fun E hE => by unfold x_X2_change; rw [xo_some hE]) (fun r ad' f' H locs hw B => ?_)
  obtain ⟨rfl, x1, rfl, rfl⟩ := hw
  refine lv_astore (lv' := [(4, .ref (ad (4 + a1.toNatClampNeg))), (0, .ref (ad 0)), (1, .int a1), (2, .int a2), (3, .int a3)]) hx hb dX2_change_5 hl (by decide) rfl (fun ls hl => ?_)
  refine lv_iload_n hx hb dX2_change_7 rfl (lv_at hl 3 rfl) ?_
  refine lv_iconst (v := 3) hx hb dX2_change_8 (by decide) ?_
  refine k_xv (k := 2) (n := 12) hex X hsz hA B (ux_S (rest := []) X (c_X2_checkWhat l hfl g N ad x sp dy la kn re hN a2 3 H.size) mw_X2_checkWhat md_X2_checkWhat rfl lk_X2_51 ⟨Nat.le_of_ble_eq_true rfl, Nat.le_of_ble_eq_true rfl⟩ hA hK hT B hl.1 rfl (Nat.le_of_ble_eq_true rfl) dX2_change_9 ⟨Nat.le_of_ble_eq_true rfl, Nat.le_of_ble_eq_true rfl⟩) (Nat.le_of_ble_eq_true rfl) (Nat.le_of_ble_eq_true rfl) (Nat.le_of_ble_eq_true rfl) (Nat.le_of_ble_eq_true rfl) (fun E hE => by unfold x_X2_change; rw [xo_none x1, xo_some hE]) (fun ad' f' H locs hw B => ?_)
  obtain ⟨rfl, x2, rfl⟩ := hw
  refine lv_iload_n hx hb dX2_change_12 rfl (lv_at hl 3 rfl) ?_
  refine lv_if_ne (tgt := 20) hx hb dX2_change_13 (by decide) (fun c3 => ?_) (fun c3 => ?_)
  · refine lv_aload hx hb dX2_change_20 (lv_at hl 0 rfl) ?_
    refine g_getN (q := (4 + a1.toNatClampNeg)) (k := 0) X hK hT B rfl in_X1 (pl_sp hN (Nat.lt_of_lt_of_le (xl_X2_cardAt x1) (by decide))) (cf_sp (Nat.lt_of_lt_of_le (xl_X2_cardAt x1) (by decide))) (by decide) lk_X2_55 rfl rfl dX2_change_22 ?_
    refine lv_istore (lv' := [(5, .int (sp a1.toNatClampNeg).1), (4, .ref (ad (4 + a1.toNatClampNeg))), (0, .ref (ad 0)), (1, .int a1), (2, .int a2), (3, .int a3)]) hx hb dX2_change_25 hl (by decide) rfl (fun ls hl => ?_)
    refine lv_iload_n hx hb dX2_change_27 rfl (lv_at hl 4 rfl) ?_
    refine lv_iconst (v := 1) hx hb dX2_change_28 (by decide) ?_
    refine lv_icmp_ne (tgt := 36) hx hb dX2_change_29 (by decide) (fun c4 => ?_) (fun c4 => ?_)
    · refine lv_aload hx hb dX2_change_36 (lv_at hl 1 rfl) ?_
      refine g_getN (q := (4 + a1.toNatClampNeg)) (k := 1) X hK hT B rfl in_X1 (pl_sp hN (Nat.lt_of_lt_of_le (xl_X2_cardAt x1) (by decide))) (cf_sp (Nat.lt_of_lt_of_le (xl_X2_cardAt x1) (by decide))) (by decide) lk_X2_59 rfl rfl dX2_change_38 ?_
      refine lv_istore (lv' := [(6, .int (sp a1.toNatClampNeg).2.1), (5, .int (sp a1.toNatClampNeg).1), (4, .ref (ad (4 + a1.toNatClampNeg))), (0, .ref (ad 0)), (1, .int a1), (2, .int a2), (3, .int a3)]) hx hb dX2_change_41 hl (by decide) rfl (fun ls hl => ?_)
      refine lv_iload_n hx hb dX2_change_43 rfl (lv_at hl 5 rfl) ?_
      refine lv_iconst (v := 2) hx hb dX2_change_44 (by decide) ?_
      refine lv_icmp_ne (tgt := 52) hx hb dX2_change_45 (by decide) (fun c5 => ?_) (fun c5 => ?_)
      · refine lv_aload hx hb dX2_change_52 (lv_at hl 2 rfl) ?_
        refine g_getN (q := (4 + a1.toNatClampNeg)) (k := 2) X hK hT B rfl in_X1 (pl_sp hN (Nat.lt_of_lt_of_le (xl_X2_cardAt x1) (by decide))) (cf_sp (Nat.lt_of_lt_of_le (xl_X2_cardAt x1) (by decide))) (by decide) lk_X2_62 rfl rfl dX2_change_54 ?_
        refine lv_istore (lv' := [(7, .int (sp a1.toNatClampNeg).2.2), (6, .int (sp a1.toNatClampNeg).2.1), (5, .int (sp a1.toNatClampNeg).1), (4, .ref (ad (4 + a1.toNatClampNeg))), (0, .ref (ad 0)), (1, .int a1), (2, .int a2), (3, .int a3)]) hx hb dX2_change_57 hl (by decide) rfl (fun ls hl => ?_)
        refine lv_aload_n hx hb dX2_change_59 rfl (lv_at hl 4 rfl) ?_
        refine lv_aload hx hb dX2_change_60 (lv_at hl 3 rfl) ?_
        refine lv_aload_n hx hb dX2_change_62 rfl (lv_at hl 4 rfl) ?_
        refine g_get (q := 0) (k := 6) X hK B rfl in_X2 (pl_c hN 0 (by decide)) cf_0 (by decide) lk_X2_25 rfl rfl dX2_change_63 ?_
        refine lv_iload hx hb dX2_change_66 (lv_at hl 2 rfl) ?_
        refine lv_i2l (v := (sp a1.toNatClampNeg).1.toInt64) hx hb dX2_change_68 rfl ?_
        refine lv_iload hx hb dX2_change_69 (lv_at hl 1 rfl) ?_
        refine lv_i2l (v := (sp a1.toNatClampNeg).2.1.toInt64) hx hb dX2_change_71 rfl ?_
        refine lv_iload hx hb dX2_change_72 (lv_at hl 0 rfl) ?_
        refine lv_i2l (v := (sp a1.toNatClampNeg).2.2.toInt64) hx hb dX2_change_74 rfl ?_
        refine k_i (k := 2) (n := 12) hA B (u_VN (rest := [.ref (ad (4 + a1.toNatClampNeg)), .ref (ad 0)]) X (c_X1_put l g N ad x sp dy la kn re hN 12 (by decide) ((sp a1.toNatClampNeg).1.toInt64) ((sp a1.toNatClampNeg).2.1.toInt64) ((sp a1.toNatClampNeg).2.2.toInt64) H.size) mw_X1_put md_X1_put rfl lk_X2_41 ⟨Nat.le_of_ble_eq_true rfl, Nat.le_of_ble_eq_true rfl⟩ hA hK hT B (pl_sp hN (by decide)) (cf_sp (by decide)) rfl rfl hl.1 rfl (Nat.le_of_ble_eq_true rfl) dX2_change_75 ⟨Nat.le_of_ble_eq_true rfl, Nat.le_of_ble_eq_true rfl⟩) (Nat.le_of_ble_eq_true rfl) (Nat.le_of_ble_eq_true rfl) (fun r ad' f' H locs hw B => ?_)
        obtain ⟨rfl, rfl, rfl⟩ := hw
        refine k_i (k := 2) (n := 12) hA B (u_V (rest := []) X (c_X2_actOnCard l g N ad x (v_X1_put sp 12 ((sp a1.toNatClampNeg).1.toInt64) ((sp a1.toNatClampNeg).2.1.toInt64) ((sp a1.toNatClampNeg).2.2.toInt64)).2 dy la kn re hN a1.toNatClampNeg (Nat.lt_of_lt_of_le (xl_X2_cardAt x1) (by decide)) (v_X1_put sp 12 ((sp a1.toNatClampNeg).1.toInt64) ((sp a1.toNatClampNeg).2.1.toInt64) ((sp a1.toNatClampNeg).2.2.toInt64)).1 H.size) mw_X2_actOnCard md_X2_actOnCard rfl lk_X2_45 ⟨Nat.le_of_ble_eq_true rfl, Nat.le_of_ble_eq_true rfl⟩ hA hK hT B (pl_c hN 0 (by decide)) cf_0 rfl rfl hl.1 rfl (Nat.le_of_ble_eq_true rfl) dX2_change_78 ⟨Nat.le_of_ble_eq_true rfl, Nat.le_of_ble_eq_true rfl⟩) (Nat.le_of_ble_eq_true rfl) (Nat.le_of_ble_eq_true rfl) (fun r ad' f' H locs hw B => ?_)
        obtain ⟨rfl, rfl, rfl⟩ := hw
        have ev := (show v_X2_change sp re a1 a2 a3 = ((v_X2_actOnCard (v_X1_put sp 12 ((sp a1.toNatClampNeg).1.toInt64) ((sp a1.toNatClampNeg).2.1.toInt64) ((sp a1.toNatClampNeg).2.2.toInt64)).2 re a1.toNatClampNeg (v_X1_put sp 12 ((sp a1.toNatClampNeg).1.toInt64) ((sp a1.toNatClampNeg).2.1.toInt64) ((sp a1.toNatClampNeg).2.2.toInt64)).1).1, (v_X2_actOnCard (v_X1_put sp 12 ((sp a1.toNatClampNeg).1.toInt64) ((sp a1.toNatClampNeg).2.1.toInt64) ((sp a1.toNatClampNeg).2.2.toInt64)).2 re a1.toNatClampNeg (v_X1_put sp 12 ((sp a1.toNatClampNeg).1.toInt64) ((sp a1.toNatClampNeg).2.1.toInt64) ((sp a1.toNatClampNeg).2.2.toInt64)).1).2.1, (v_X2_actOnCard (v_X1_put sp 12 ((sp a1.toNatClampNeg).1.toInt64) ((sp a1.toNatClampNeg).2.1.toInt64) ((sp a1.toNatClampNeg).2.2.toInt64)).2 re a1.toNatClampNeg (v_X1_put sp 12 ((sp a1.toNatClampNeg).1.toInt64) ((sp a1.toNatClampNeg).2.1.toInt64) ((sp a1.toNatClampNeg).2.2.toInt64)).1).2.2) from by unfold v_X2_change; rw [if_neg c3, if_neg c4, if_neg c5])
        exact vx_ret (rt_i X hr (ad, (cf g ad x (v_X2_actOnCard (v_X1_put sp 12 ((sp a1.toNatClampNeg).1.toInt64) ((sp a1.toNatClampNeg).2.1.toInt64) ((sp a1.toNatClampNeg).2.2.toInt64)).2 re a1.toNatClampNeg (v_X1_put sp 12 ((sp a1.toNatClampNeg).1.toInt64) ((sp a1.toNatClampNeg).2.1.toInt64) ((sp a1.toNatClampNeg).2.2.toInt64)).1).2.1 dy la kn (v_X2_actOnCard (v_X1_put sp 12 ((sp a1.toNatClampNeg).1.toInt64) ((sp a1.toNatClampNeg).2.1.toInt64) ((sp a1.toNatClampNeg).2.2.toInt64)).2 re a1.toNatClampNeg (v_X1_put sp 12 ((sp a1.toNatClampNeg).1.toInt64) ((sp a1.toNatClampNeg).2.1.toInt64) ((sp a1.toNatClampNeg).2.2.toInt64)).1).2.2)) B (PO_of B) ⟨rfl, by unfold x_X2_change; rw [xo_none x1, xo_none x2, if_neg c3, if_neg c4, if_neg c5], by rw [ev], by rw [ev]⟩ rfl (Nat.le_of_ble_eq_true rfl) (Nat.le_of_ble_eq_true rfl) dX2_change_81)
      · refine lv_iload_n hx hb dX2_change_48 rfl (lv_at hl 6 rfl) ?_
        refine lv_goto (tgt := 57) hx hb dX2_change_49 (by decide) ?_
        refine lv_istore (lv' := [(7, .int a3), (6, .int (sp a1.toNatClampNeg).2.1), (5, .int (sp a1.toNatClampNeg).1), (4, .ref (ad (4 + a1.toNatClampNeg))), (0, .ref (ad 0)), (1, .int a1), (2, .int a2), (3, .int a3)]) hx hb dX2_change_57 hl (by decide) rfl (fun ls hl => ?_)
        refine lv_aload_n hx hb dX2_change_59 rfl (lv_at hl 4 rfl) ?_
        refine lv_aload hx hb dX2_change_60 (lv_at hl 3 rfl) ?_
        refine lv_aload_n hx hb dX2_change_62 rfl (lv_at hl 4 rfl) ?_
        refine g_get (q := 0) (k := 6) X hK B rfl in_X2 (pl_c hN 0 (by decide)) cf_0 (by decide) lk_X2_25 rfl rfl dX2_change_63 ?_
        refine lv_iload hx hb dX2_change_66 (lv_at hl 2 rfl) ?_
        refine lv_i2l (v := (sp a1.toNatClampNeg).1.toInt64) hx hb dX2_change_68 rfl ?_
        refine lv_iload hx hb dX2_change_69 (lv_at hl 1 rfl) ?_
        refine lv_i2l (v := (sp a1.toNatClampNeg).2.1.toInt64) hx hb dX2_change_71 rfl ?_
        refine lv_iload hx hb dX2_change_72 (lv_at hl 0 rfl) ?_
        refine lv_i2l (v := a3.toInt64) hx hb dX2_change_74 rfl ?_
        refine k_i (k := 2) (n := 12) hA B (u_VN (rest := [.ref (ad (4 + a1.toNatClampNeg)), .ref (ad 0)]) X (c_X1_put l g N ad x sp dy la kn re hN 12 (by decide) ((sp a1.toNatClampNeg).1.toInt64) ((sp a1.toNatClampNeg).2.1.toInt64) a3.toInt64 H.size) mw_X1_put md_X1_put rfl lk_X2_41 ⟨Nat.le_of_ble_eq_true rfl, Nat.le_of_ble_eq_true rfl⟩ hA hK hT B (pl_sp hN (by decide)) (cf_sp (by decide)) rfl rfl hl.1 rfl (Nat.le_of_ble_eq_true rfl) dX2_change_75 ⟨Nat.le_of_ble_eq_true rfl, Nat.le_of_ble_eq_true rfl⟩) (Nat.le_of_ble_eq_true rfl) (Nat.le_of_ble_eq_true rfl) (fun r ad' f' H locs hw B => ?_)
        obtain ⟨rfl, rfl, rfl⟩ := hw
        refine k_i (k := 2) (n := 12) hA B (u_V (rest := []) X (c_X2_actOnCard l g N ad x (v_X1_put sp 12 ((sp a1.toNatClampNeg).1.toInt64) ((sp a1.toNatClampNeg).2.1.toInt64) a3.toInt64).2 dy la kn re hN a1.toNatClampNeg (Nat.lt_of_lt_of_le (xl_X2_cardAt x1) (by decide)) (v_X1_put sp 12 ((sp a1.toNatClampNeg).1.toInt64) ((sp a1.toNatClampNeg).2.1.toInt64) a3.toInt64).1 H.size) mw_X2_actOnCard md_X2_actOnCard rfl lk_X2_45 ⟨Nat.le_of_ble_eq_true rfl, Nat.le_of_ble_eq_true rfl⟩ hA hK hT B (pl_c hN 0 (by decide)) cf_0 rfl rfl hl.1 rfl (Nat.le_of_ble_eq_true rfl) dX2_change_78 ⟨Nat.le_of_ble_eq_true rfl, Nat.le_of_ble_eq_true rfl⟩) (Nat.le_of_ble_eq_true rfl) (Nat.le_of_ble_eq_true rfl) (fun r ad' f' H locs hw B => ?_)
        obtain ⟨rfl, rfl, rfl⟩ := hw
        have ev := (show v_X2_change sp re a1 a2 a3 = ((v_X2_actOnCard (v_X1_put sp 12 ((sp a1.toNatClampNeg).1.toInt64) ((sp a1.toNatClampNeg).2.1.toInt64) a3.toInt64).2 re a1.toNatClampNeg (v_X1_put sp 12 ((sp a1.toNatClampNeg).1.toInt64) ((sp a1.toNatClampNeg).2.1.toInt64) a3.toInt64).1).1, (v_X2_actOnCard (v_X1_put sp 12 ((sp a1.toNatClampNeg).1.toInt64) ((sp a1.toNatClampNeg).2.1.toInt64) a3.toInt64).2 re a1.toNatClampNeg (v_X1_put sp 12 ((sp a1.toNatClampNeg).1.toInt64) ((sp a1.toNatClampNeg).2.1.toInt64) a3.toInt64).1).2.1, (v_X2_actOnCard (v_X1_put sp 12 ((sp a1.toNatClampNeg).1.toInt64) ((sp a1.toNatClampNeg).2.1.toInt64) a3.toInt64).2 re a1.toNatClampNeg (v_X1_put sp 12 ((sp a1.toNatClampNeg).1.toInt64) ((sp a1.toNatClampNeg).2.1.toInt64) a3.toInt64).1).2.2) from by unfold v_X2_change; rw [if_neg c3, if_neg c4, if_pos c5])
        exact vx_ret (rt_i X hr (ad, (cf g ad x (v_X2_actOnCard (v_X1_put sp 12 ((sp a1.toNatClampNeg).1.toInt64) ((sp a1.toNatClampNeg).2.1.toInt64) a3.toInt64).2 re a1.toNatClampNeg (v_X1_put sp 12 ((sp a1.toNatClampNeg).1.toInt64) ((sp a1.toNatClampNeg).2.1.toInt64) a3.toInt64).1).2.1 dy la kn (v_X2_actOnCard (v_X1_put sp 12 ((sp a1.toNatClampNeg).1.toInt64) ((sp a1.toNatClampNeg).2.1.toInt64) a3.toInt64).2 re a1.toNatClampNeg (v_X1_put sp 12 ((sp a1.toNatClampNeg).1.toInt64) ((sp a1.toNatClampNeg).2.1.toInt64) a3.toInt64).1).2.2)) B (PO_of B) ⟨rfl, by unfold x_X2_change; rw [xo_none x1, xo_none x2, if_neg c3, if_neg c4, if_pos c5], by rw [ev], by rw [ev]⟩ rfl (Nat.le_of_ble_eq_true rfl) (Nat.le_of_ble_eq_true rfl) dX2_change_81)
    · refine lv_iload_n hx hb dX2_change_32 rfl (lv_at hl 5 rfl) ?_
      refine lv_goto (tgt := 41) hx hb dX2_change_33 (by decide) ?_
      refine lv_istore (lv' := [(6, .int a3), (5, .int (sp a1.toNatClampNeg).1), (4, .ref (ad (4 + a1.toNatClampNeg))), (0, .ref (ad 0)), (1, .int a1), (2, .int a2), (3, .int a3)]) hx hb dX2_change_41 hl (by decide) rfl (fun ls hl => ?_)
      refine lv_iload_n hx hb dX2_change_43 rfl (lv_at hl 5 rfl) ?_
      refine lv_iconst (v := 2) hx hb dX2_change_44 (by decide) ?_
      refine lv_icmp_ne (tgt := 52) hx hb dX2_change_45 (by decide) (fun c6 => ?_) (fun c6 => ?_)
      · refine lv_aload hx hb dX2_change_52 (lv_at hl 2 rfl) ?_
        refine g_getN (q := (4 + a1.toNatClampNeg)) (k := 2) X hK hT B rfl in_X1 (pl_sp hN (Nat.lt_of_lt_of_le (xl_X2_cardAt x1) (by decide))) (cf_sp (Nat.lt_of_lt_of_le (xl_X2_cardAt x1) (by decide))) (by decide) lk_X2_62 rfl rfl dX2_change_54 ?_
        refine lv_istore (lv' := [(7, .int (sp a1.toNatClampNeg).2.2), (6, .int a3), (5, .int (sp a1.toNatClampNeg).1), (4, .ref (ad (4 + a1.toNatClampNeg))), (0, .ref (ad 0)), (1, .int a1), (2, .int a2), (3, .int a3)]) hx hb dX2_change_57 hl (by decide) rfl (fun ls hl => ?_)
        refine lv_aload_n hx hb dX2_change_59 rfl (lv_at hl 4 rfl) ?_
        refine lv_aload hx hb dX2_change_60 (lv_at hl 3 rfl) ?_
        refine lv_aload_n hx hb dX2_change_62 rfl (lv_at hl 4 rfl) ?_
        refine g_get (q := 0) (k := 6) X hK B rfl in_X2 (pl_c hN 0 (by decide)) cf_0 (by decide) lk_X2_25 rfl rfl dX2_change_63 ?_
        refine lv_iload hx hb dX2_change_66 (lv_at hl 2 rfl) ?_
        refine lv_i2l (v := (sp a1.toNatClampNeg).1.toInt64) hx hb dX2_change_68 rfl ?_
        refine lv_iload hx hb dX2_change_69 (lv_at hl 1 rfl) ?_
        refine lv_i2l (v := a3.toInt64) hx hb dX2_change_71 rfl ?_
        refine lv_iload hx hb dX2_change_72 (lv_at hl 0 rfl) ?_
        refine lv_i2l (v := (sp a1.toNatClampNeg).2.2.toInt64) hx hb dX2_change_74 rfl ?_
        refine k_i (k := 2) (n := 12) hA B (u_VN (rest := [.ref (ad (4 + a1.toNatClampNeg)), .ref (ad 0)]) X (c_X1_put l g N ad x sp dy la kn re hN 12 (by decide) ((sp a1.toNatClampNeg).1.toInt64) a3.toInt64 ((sp a1.toNatClampNeg).2.2.toInt64) H.size) mw_X1_put md_X1_put rfl lk_X2_41 ⟨Nat.le_of_ble_eq_true rfl, Nat.le_of_ble_eq_true rfl⟩ hA hK hT B (pl_sp hN (by decide)) (cf_sp (by decide)) rfl rfl hl.1 rfl (Nat.le_of_ble_eq_true rfl) dX2_change_75 ⟨Nat.le_of_ble_eq_true rfl, Nat.le_of_ble_eq_true rfl⟩) (Nat.le_of_ble_eq_true rfl) (Nat.le_of_ble_eq_true rfl) (fun r ad' f' H locs hw B => ?_)
        obtain ⟨rfl, rfl, rfl⟩ := hw
        refine k_i (k := 2) (n := 12) hA B (u_V (rest := []) X (c_X2_actOnCard l g N ad x (v_X1_put sp 12 ((sp a1.toNatClampNeg).1.toInt64) a3.toInt64 ((sp a1.toNatClampNeg).2.2.toInt64)).2 dy la kn re hN a1.toNatClampNeg (Nat.lt_of_lt_of_le (xl_X2_cardAt x1) (by decide)) (v_X1_put sp 12 ((sp a1.toNatClampNeg).1.toInt64) a3.toInt64 ((sp a1.toNatClampNeg).2.2.toInt64)).1 H.size) mw_X2_actOnCard md_X2_actOnCard rfl lk_X2_45 ⟨Nat.le_of_ble_eq_true rfl, Nat.le_of_ble_eq_true rfl⟩ hA hK hT B (pl_c hN 0 (by decide)) cf_0 rfl rfl hl.1 rfl (Nat.le_of_ble_eq_true rfl) dX2_change_78 ⟨Nat.le_of_ble_eq_true rfl, Nat.le_of_ble_eq_true rfl⟩) (Nat.le_of_ble_eq_true rfl) (Nat.le_of_ble_eq_true rfl) (fun r ad' f' H locs hw B => ?_)
        obtain ⟨rfl, rfl, rfl⟩ := hw
        have ev := (show v_X2_change sp re a1 a2 a3 = ((v_X2_actOnCard (v_X1_put sp 12 ((sp a1.toNatClampNeg).1.toInt64) a3.toInt64 ((sp a1.toNatClampNeg).2.2.toInt64)).2 re a1.toNatClampNeg (v_X1_put sp 12 ((sp a1.toNatClampNeg).1.toInt64) a3.toInt64 ((sp a1.toNatClampNeg).2.2.toInt64)).1).1, (v_X2_actOnCard (v_X1_put sp 12 ((sp a1.toNatClampNeg).1.toInt64) a3.toInt64 ((sp a1.toNatClampNeg).2.2.toInt64)).2 re a1.toNatClampNeg (v_X1_put sp 12 ((sp a1.toNatClampNeg).1.toInt64) a3.toInt64 ((sp a1.toNatClampNeg).2.2.toInt64)).1).2.1, (v_X2_actOnCard (v_X1_put sp 12 ((sp a1.toNatClampNeg).1.toInt64) a3.toInt64 ((sp a1.toNatClampNeg).2.2.toInt64)).2 re a1.toNatClampNeg (v_X1_put sp 12 ((sp a1.toNatClampNeg).1.toInt64) a3.toInt64 ((sp a1.toNatClampNeg).2.2.toInt64)).1).2.2) from by unfold v_X2_change; rw [if_neg c3, if_pos c4, if_neg c6])
        exact vx_ret (rt_i X hr (ad, (cf g ad x (v_X2_actOnCard (v_X1_put sp 12 ((sp a1.toNatClampNeg).1.toInt64) a3.toInt64 ((sp a1.toNatClampNeg).2.2.toInt64)).2 re a1.toNatClampNeg (v_X1_put sp 12 ((sp a1.toNatClampNeg).1.toInt64) a3.toInt64 ((sp a1.toNatClampNeg).2.2.toInt64)).1).2.1 dy la kn (v_X2_actOnCard (v_X1_put sp 12 ((sp a1.toNatClampNeg).1.toInt64) a3.toInt64 ((sp a1.toNatClampNeg).2.2.toInt64)).2 re a1.toNatClampNeg (v_X1_put sp 12 ((sp a1.toNatClampNeg).1.toInt64) a3.toInt64 ((sp a1.toNatClampNeg).2.2.toInt64)).1).2.2)) B (PO_of B) ⟨rfl, by unfold x_X2_change; rw [xo_none x1, xo_none x2, if_neg c3, if_pos c4, if_neg c6], by rw [ev], by rw [ev]⟩ rfl (Nat.le_of_ble_eq_true rfl) (Nat.le_of_ble_eq_true rfl) dX2_change_81)
      · refine lv_iload_n hx hb dX2_change_48 rfl (lv_at hl 6 rfl) ?_
        refine lv_goto (tgt := 57) hx hb dX2_change_49 (by decide) ?_
        refine lv_istore (lv' := [(7, .int a3), (6, .int a3), (5, .int (sp a1.toNatClampNeg).1), (4, .ref (ad (4 + a1.toNatClampNeg))), (0, .ref (ad 0)), (1, .int a1), (2, .int a2), (3, .int a3)]) hx hb dX2_change_57 hl (by decide) rfl (fun ls hl => ?_)
        refine lv_aload_n hx hb dX2_change_59 rfl (lv_at hl 4 rfl) ?_
        refine lv_aload hx hb dX2_change_60 (lv_at hl 3 rfl) ?_
        refine lv_aload_n hx hb dX2_change_62 rfl (lv_at hl 4 rfl) ?_
        refine g_get (q := 0) (k := 6) X hK B rfl in_X2 (pl_c hN 0 (by decide)) cf_0 (by decide) lk_X2_25 rfl rfl dX2_change_63 ?_
        refine lv_iload hx hb dX2_change_66 (lv_at hl 2 rfl) ?_
        refine lv_i2l (v := (sp a1.toNatClampNeg).1.toInt64) hx hb dX2_change_68 rfl ?_
        refine lv_iload hx hb dX2_change_69 (lv_at hl 1 rfl) ?_
        refine lv_i2l (v := a3.toInt64) hx hb dX2_change_71 rfl ?_
        refine lv_iload hx hb dX2_change_72 (lv_at hl 0 rfl) ?_
        refine lv_i2l (v := a3.toInt64) hx hb dX2_change_74 rfl ?_
        refine k_i (k := 2) (n := 12) hA B (u_VN (rest := [.ref (ad (4 + a1.toNatClampNeg)), .ref (ad 0)]) X (c_X1_put l g N ad x sp dy la kn re hN 12 (by decide) ((sp a1.toNatClampNeg).1.toInt64) a3.toInt64 a3.toInt64 H.size) mw_X1_put md_X1_put rfl lk_X2_41 ⟨Nat.le_of_ble_eq_true rfl, Nat.le_of_ble_eq_true rfl⟩ hA hK hT B (pl_sp hN (by decide)) (cf_sp (by decide)) rfl rfl hl.1 rfl (Nat.le_of_ble_eq_true rfl) dX2_change_75 ⟨Nat.le_of_ble_eq_true rfl, Nat.le_of_ble_eq_true rfl⟩) (Nat.le_of_ble_eq_true rfl) (Nat.le_of_ble_eq_true rfl) (fun r ad' f' H locs hw B => ?_)
        obtain ⟨rfl, rfl, rfl⟩ := hw
        refine k_i (k := 2) (n := 12) hA B (u_V (rest := []) X (c_X2_actOnCard l g N ad x (v_X1_put sp 12 ((sp a1.toNatClampNeg).1.toInt64) a3.toInt64 a3.toInt64).2 dy la kn re hN a1.toNatClampNeg (Nat.lt_of_lt_of_le (xl_X2_cardAt x1) (by decide)) (v_X1_put sp 12 ((sp a1.toNatClampNeg).1.toInt64) a3.toInt64 a3.toInt64).1 H.size) mw_X2_actOnCard md_X2_actOnCard rfl lk_X2_45 ⟨Nat.le_of_ble_eq_true rfl, Nat.le_of_ble_eq_true rfl⟩ hA hK hT B (pl_c hN 0 (by decide)) cf_0 rfl rfl hl.1 rfl (Nat.le_of_ble_eq_true rfl) dX2_change_78 ⟨Nat.le_of_ble_eq_true rfl, Nat.le_of_ble_eq_true rfl⟩) (Nat.le_of_ble_eq_true rfl) (Nat.le_of_ble_eq_true rfl) (fun r ad' f' H locs hw B => ?_)
        obtain ⟨rfl, rfl, rfl⟩ := hw
        have ev := (show v_X2_change sp re a1 a2 a3 = ((v_X2_actOnCard (v_X1_put sp 12 ((sp a1.toNatClampNeg).1.toInt64) a3.toInt64 a3.toInt64).2 re a1.toNatClampNeg (v_X1_put sp 12 ((sp a1.toNatClampNeg).1.toInt64) a3.toInt64 a3.toInt64).1).1, (v_X2_actOnCard (v_X1_put sp 12 ((sp a1.toNatClampNeg).1.toInt64) a3.toInt64 a3.toInt64).2 re a1.toNatClampNeg (v_X1_put sp 12 ((sp a1.toNatClampNeg).1.toInt64) a3.toInt64 a3.toInt64).1).2.1, (v_X2_actOnCard (v_X1_put sp 12 ((sp a1.toNatClampNeg).1.toInt64) a3.toInt64 a3.toInt64).2 re a1.toNatClampNeg (v_X1_put sp 12 ((sp a1.toNatClampNeg).1.toInt64) a3.toInt64 a3.toInt64).1).2.2) from by unfold v_X2_change; rw [if_neg c3, if_pos c4, if_pos c6])
        exact vx_ret (rt_i X hr (ad, (cf g ad x (v_X2_actOnCard (v_X1_put sp 12 ((sp a1.toNatClampNeg).1.toInt64) a3.toInt64 a3.toInt64).2 re a1.toNatClampNeg (v_X1_put sp 12 ((sp a1.toNatClampNeg).1.toInt64) a3.toInt64 a3.toInt64).1).2.1 dy la kn (v_X2_actOnCard (v_X1_put sp 12 ((sp a1.toNatClampNeg).1.toInt64) a3.toInt64 a3.toInt64).2 re a1.toNatClampNeg (v_X1_put sp 12 ((sp a1.toNatClampNeg).1.toInt64) a3.toInt64 a3.toInt64).1).2.2)) B (PO_of B) ⟨rfl, by unfold x_X2_change; rw [xo_none x1, xo_none x2, if_neg c3, if_pos c4, if_pos c6], by rw [ev], by rw [ev]⟩ rfl (Nat.le_of_ble_eq_true rfl) (Nat.le_of_ble_eq_true rfl) dX2_change_81)
  · refine lv_iload_n hx hb dX2_change_16 rfl (lv_at hl 4 rfl) ?_
    refine lv_goto (tgt := 25) hx hb dX2_change_17 (by decide) ?_
    refine lv_istore (lv' := [(5, .int a3), (4, .ref (ad (4 + a1.toNatClampNeg))), (0, .ref (ad 0)), (1, .int a1), (2, .int a2), (3, .int a3)]) hx hb dX2_change_25 hl (by decide) rfl (fun ls hl => ?_)
    refine lv_iload_n hx hb dX2_change_27 rfl (lv_at hl 4 rfl) ?_
    refine lv_iconst (v := 1) hx hb dX2_change_28 (by decide) ?_
    refine lv_icmp_ne (tgt := 36) hx hb dX2_change_29 (by decide) (fun c7 => ?_) (fun c7 => ?_)
    · refine lv_aload hx hb dX2_change_36 (lv_at hl 1 rfl) ?_
      refine g_getN (q := (4 + a1.toNatClampNeg)) (k := 1) X hK hT B rfl in_X1 (pl_sp hN (Nat.lt_of_lt_of_le (xl_X2_cardAt x1) (by decide))) (cf_sp (Nat.lt_of_lt_of_le (xl_X2_cardAt x1) (by decide))) (by decide) lk_X2_59 rfl rfl dX2_change_38 ?_
      refine lv_istore (lv' := [(6, .int (sp a1.toNatClampNeg).2.1), (5, .int a3), (4, .ref (ad (4 + a1.toNatClampNeg))), (0, .ref (ad 0)), (1, .int a1), (2, .int a2), (3, .int a3)]) hx hb dX2_change_41 hl (by decide) rfl (fun ls hl => ?_)
      refine lv_iload_n hx hb dX2_change_43 rfl (lv_at hl 5 rfl) ?_
      refine lv_iconst (v := 2) hx hb dX2_change_44 (by decide) ?_
      refine lv_icmp_ne (tgt := 52) hx hb dX2_change_45 (by decide) (fun c8 => ?_) (fun c8 => ?_)
      · refine lv_aload hx hb dX2_change_52 (lv_at hl 2 rfl) ?_
        refine g_getN (q := (4 + a1.toNatClampNeg)) (k := 2) X hK hT B rfl in_X1 (pl_sp hN (Nat.lt_of_lt_of_le (xl_X2_cardAt x1) (by decide))) (cf_sp (Nat.lt_of_lt_of_le (xl_X2_cardAt x1) (by decide))) (by decide) lk_X2_62 rfl rfl dX2_change_54 ?_
        refine lv_istore (lv' := [(7, .int (sp a1.toNatClampNeg).2.2), (6, .int (sp a1.toNatClampNeg).2.1), (5, .int a3), (4, .ref (ad (4 + a1.toNatClampNeg))), (0, .ref (ad 0)), (1, .int a1), (2, .int a2), (3, .int a3)]) hx hb dX2_change_57 hl (by decide) rfl (fun ls hl => ?_)
        refine lv_aload_n hx hb dX2_change_59 rfl (lv_at hl 4 rfl) ?_
        refine lv_aload hx hb dX2_change_60 (lv_at hl 3 rfl) ?_
        refine lv_aload_n hx hb dX2_change_62 rfl (lv_at hl 4 rfl) ?_
        refine g_get (q := 0) (k := 6) X hK B rfl in_X2 (pl_c hN 0 (by decide)) cf_0 (by decide) lk_X2_25 rfl rfl dX2_change_63 ?_
        refine lv_iload hx hb dX2_change_66 (lv_at hl 2 rfl) ?_
        refine lv_i2l (v := a3.toInt64) hx hb dX2_change_68 rfl ?_
        refine lv_iload hx hb dX2_change_69 (lv_at hl 1 rfl) ?_
        refine lv_i2l (v := (sp a1.toNatClampNeg).2.1.toInt64) hx hb dX2_change_71 rfl ?_
        refine lv_iload hx hb dX2_change_72 (lv_at hl 0 rfl) ?_
        refine lv_i2l (v := (sp a1.toNatClampNeg).2.2.toInt64) hx hb dX2_change_74 rfl ?_
        refine k_i (k := 2) (n := 12) hA B (u_VN (rest := [.ref (ad (4 + a1.toNatClampNeg)), .ref (ad 0)]) X (c_X1_put l g N ad x sp dy la kn re hN 12 (by decide) a3.toInt64 ((sp a1.toNatClampNeg).2.1.toInt64) ((sp a1.toNatClampNeg).2.2.toInt64) H.size) mw_X1_put md_X1_put rfl lk_X2_41 ⟨Nat.le_of_ble_eq_true rfl, Nat.le_of_ble_eq_true rfl⟩ hA hK hT B (pl_sp hN (by decide)) (cf_sp (by decide)) rfl rfl hl.1 rfl (Nat.le_of_ble_eq_true rfl) dX2_change_75 ⟨Nat.le_of_ble_eq_true rfl, Nat.le_of_ble_eq_true rfl⟩) (Nat.le_of_ble_eq_true rfl) (Nat.le_of_ble_eq_true rfl) (fun r ad' f' H locs hw B => ?_)
        obtain ⟨rfl, rfl, rfl⟩ := hw
        refine k_i (k := 2) (n := 12) hA B (u_V (rest := []) X (c_X2_actOnCard l g N ad x (v_X1_put sp 12 a3.toInt64 ((sp a1.toNatClampNeg).2.1.toInt64) ((sp a1.toNatClampNeg).2.2.toInt64)).2 dy la kn re hN a1.toNatClampNeg (Nat.lt_of_lt_of_le (xl_X2_cardAt x1) (by decide)) (v_X1_put sp 12 a3.toInt64 ((sp a1.toNatClampNeg).2.1.toInt64) ((sp a1.toNatClampNeg).2.2.toInt64)).1 H.size) mw_X2_actOnCard md_X2_actOnCard rfl lk_X2_45 ⟨Nat.le_of_ble_eq_true rfl, Nat.le_of_ble_eq_true rfl⟩ hA hK hT B (pl_c hN 0 (by decide)) cf_0 rfl rfl hl.1 rfl (Nat.le_of_ble_eq_true rfl) dX2_change_78 ⟨Nat.le_of_ble_eq_true rfl, Nat.le_of_ble_eq_true rfl⟩) (Nat.le_of_ble_eq_true rfl) (Nat.le_of_ble_eq_true rfl) (fun r ad' f' H locs hw B => ?_)
        obtain ⟨rfl, rfl, rfl⟩ := hw
        have ev := (show v_X2_change sp re a1 a2 a3 = ((v_X2_actOnCard (v_X1_put sp 12 a3.toInt64 ((sp a1.toNatClampNeg).2.1.toInt64) ((sp a1.toNatClampNeg).2.2.toInt64)).2 re a1.toNatClampNeg (v_X1_put sp 12 a3.toInt64 ((sp a1.toNatClampNeg).2.1.toInt64) ((sp a1.toNatClampNeg).2.2.toInt64)).1).1, (v_X2_actOnCard (v_X1_put sp 12 a3.toInt64 ((sp a1.toNatClampNeg).2.1.toInt64) ((sp a1.toNatClampNeg).2.2.toInt64)).2 re a1.toNatClampNeg (v_X1_put sp 12 a3.toInt64 ((sp a1.toNatClampNeg).2.1.toInt64) ((sp a1.toNatClampNeg).2.2.toInt64)).1).2.1, (v_X2_actOnCard (v_X1_put sp 12 a3.toInt64 ((sp a1.toNatClampNeg).2.1.toInt64) ((sp a1.toNatClampNeg).2.2.toInt64)).2 re a1.toNatClampNeg (v_X1_put sp 12 a3.toInt64 ((sp a1.toNatClampNeg).2.1.toInt64) ((sp a1.toNatClampNeg).2.2.toInt64)).1).2.2) from by unfold v_X2_change; rw [if_pos c3, if_neg c7, if_neg c8])
        exact vx_ret (rt_i X hr (ad, (cf g ad x (v_X2_actOnCard (v_X1_put sp 12 a3.toInt64 ((sp a1.toNatClampNeg).2.1.toInt64) ((sp a1.toNatClampNeg).2.2.toInt64)).2 re a1.toNatClampNeg (v_X1_put sp 12 a3.toInt64 ((sp a1.toNatClampNeg).2.1.toInt64) ((sp a1.toNatClampNeg).2.2.toInt64)).1).2.1 dy la kn (v_X2_actOnCard (v_X1_put sp 12 a3.toInt64 ((sp a1.toNatClampNeg).2.1.toInt64) ((sp a1.toNatClampNeg).2.2.toInt64)).2 re a1.toNatClampNeg (v_X1_put sp 12 a3.toInt64 ((sp a1.toNatClampNeg).2.1.toInt64) ((sp a1.toNatClampNeg).2.2.toInt64)).1).2.2)) B (PO_of B) ⟨rfl, by unfold x_X2_change; rw [xo_none x1, xo_none x2, if_pos c3, if_neg c7, if_neg c8], by rw [ev], by rw [ev]⟩ rfl (Nat.le_of_ble_eq_true rfl) (Nat.le_of_ble_eq_true rfl) dX2_change_81)
      · refine lv_iload_n hx hb dX2_change_48 rfl (lv_at hl 6 rfl) ?_
        refine lv_goto (tgt := 57) hx hb dX2_change_49 (by decide) ?_
        refine lv_istore (lv' := [(7, .int a3), (6, .int (sp a1.toNatClampNeg).2.1), (5, .int a3), (4, .ref (ad (4 + a1.toNatClampNeg))), (0, .ref (ad 0)), (1, .int a1), (2, .int a2), (3, .int a3)]) hx hb dX2_change_57 hl (by decide) rfl (fun ls hl => ?_)
        refine lv_aload_n hx hb dX2_change_59 rfl (lv_at hl 4 rfl) ?_
        refine lv_aload hx hb dX2_change_60 (lv_at hl 3 rfl) ?_
        refine lv_aload_n hx hb dX2_change_62 rfl (lv_at hl 4 rfl) ?_
        refine g_get (q := 0) (k := 6) X hK B rfl in_X2 (pl_c hN 0 (by decide)) cf_0 (by decide) lk_X2_25 rfl rfl dX2_change_63 ?_
        refine lv_iload hx hb dX2_change_66 (lv_at hl 2 rfl) ?_
        refine lv_i2l (v := a3.toInt64) hx hb dX2_change_68 rfl ?_
        refine lv_iload hx hb dX2_change_69 (lv_at hl 1 rfl) ?_
        refine lv_i2l (v := (sp a1.toNatClampNeg).2.1.toInt64) hx hb dX2_change_71 rfl ?_
        refine lv_iload hx hb dX2_change_72 (lv_at hl 0 rfl) ?_
        refine lv_i2l (v := a3.toInt64) hx hb dX2_change_74 rfl ?_
        refine k_i (k := 2) (n := 12) hA B (u_VN (rest := [.ref (ad (4 + a1.toNatClampNeg)), .ref (ad 0)]) X (c_X1_put l g N ad x sp dy la kn re hN 12 (by decide) a3.toInt64 ((sp a1.toNatClampNeg).2.1.toInt64) a3.toInt64 H.size) mw_X1_put md_X1_put rfl lk_X2_41 ⟨Nat.le_of_ble_eq_true rfl, Nat.le_of_ble_eq_true rfl⟩ hA hK hT B (pl_sp hN (by decide)) (cf_sp (by decide)) rfl rfl hl.1 rfl (Nat.le_of_ble_eq_true rfl) dX2_change_75 ⟨Nat.le_of_ble_eq_true rfl, Nat.le_of_ble_eq_true rfl⟩) (Nat.le_of_ble_eq_true rfl) (Nat.le_of_ble_eq_true rfl) (fun r ad' f' H locs hw B => ?_)
        obtain ⟨rfl, rfl, rfl⟩ := hw
        refine k_i (k := 2) (n := 12) hA B (u_V (rest := []) X (c_X2_actOnCard l g N ad x (v_X1_put sp 12 a3.toInt64 ((sp a1.toNatClampNeg).2.1.toInt64) a3.toInt64).2 dy la kn re hN a1.toNatClampNeg (Nat.lt_of_lt_of_le (xl_X2_cardAt x1) (by decide)) (v_X1_put sp 12 a3.toInt64 ((sp a1.toNatClampNeg).2.1.toInt64) a3.toInt64).1 H.size) mw_X2_actOnCard md_X2_actOnCard rfl lk_X2_45 ⟨Nat.le_of_ble_eq_true rfl, Nat.le_of_ble_eq_true rfl⟩ hA hK hT B (pl_c hN 0 (by decide)) cf_0 rfl rfl hl.1 rfl (Nat.le_of_ble_eq_true rfl) dX2_change_78 ⟨Nat.le_of_ble_eq_true rfl, Nat.le_of_ble_eq_true rfl⟩) (Nat.le_of_ble_eq_true rfl) (Nat.le_of_ble_eq_true rfl) (fun r ad' f' H locs hw B => ?_)
        obtain ⟨rfl, rfl, rfl⟩ := hw
        have ev := (show v_X2_change sp re a1 a2 a3 = ((v_X2_actOnCard (v_X1_put sp 12 a3.toInt64 ((sp a1.toNatClampNeg).2.1.toInt64) a3.toInt64).2 re a1.toNatClampNeg (v_X1_put sp 12 a3.toInt64 ((sp a1.toNatClampNeg).2.1.toInt64) a3.toInt64).1).1, (v_X2_actOnCard (v_X1_put sp 12 a3.toInt64 ((sp a1.toNatClampNeg).2.1.toInt64) a3.toInt64).2 re a1.toNatClampNeg (v_X1_put sp 12 a3.toInt64 ((sp a1.toNatClampNeg).2.1.toInt64) a3.toInt64).1).2.1, (v_X2_actOnCard (v_X1_put sp 12 a3.toInt64 ((sp a1.toNatClampNeg).2.1.toInt64) a3.toInt64).2 re a1.toNatClampNeg (v_X1_put sp 12 a3.toInt64 ((sp a1.toNatClampNeg).2.1.toInt64) a3.toInt64).1).2.2) from by unfold v_X2_change; rw [if_pos c3, if_neg c7, if_pos c8])
        exact vx_ret (rt_i X hr (ad, (cf g ad x (v_X2_actOnCard (v_X1_put sp 12 a3.toInt64 ((sp a1.toNatClampNeg).2.1.toInt64) a3.toInt64).2 re a1.toNatClampNeg (v_X1_put sp 12 a3.toInt64 ((sp a1.toNatClampNeg).2.1.toInt64) a3.toInt64).1).2.1 dy la kn (v_X2_actOnCard (v_X1_put sp 12 a3.toInt64 ((sp a1.toNatClampNeg).2.1.toInt64) a3.toInt64).2 re a1.toNatClampNeg (v_X1_put sp 12 a3.toInt64 ((sp a1.toNatClampNeg).2.1.toInt64) a3.toInt64).1).2.2)) B (PO_of B) ⟨rfl, by unfold x_X2_change; rw [xo_none x1, xo_none x2, if_pos c3, if_neg c7, if_pos c8], by rw [ev], by rw [ev]⟩ rfl (Nat.le_of_ble_eq_true rfl) (Nat.le_of_ble_eq_true rfl) dX2_change_81)
    · refine lv_iload_n hx hb dX2_change_32 rfl (lv_at hl 5 rfl) ?_
      refine lv_goto (tgt := 41) hx hb dX2_change_33 (by decide) ?_
      refine lv_istore (lv' := [(6, .int a3), (5, .int a3), (4, .ref (ad (4 + a1.toNatClampNeg))), (0, .ref (ad 0)), (1, .int a1), (2, .int a2), (3, .int a3)]) hx hb dX2_change_41 hl (by decide) rfl (fun ls hl => ?_)
      refine lv_iload_n hx hb dX2_change_43 rfl (lv_at hl 5 rfl) ?_
      refine lv_iconst (v := 2) hx hb dX2_change_44 (by decide) ?_
      refine lv_icmp_ne (tgt := 52) hx hb dX2_change_45 (by decide) (fun c9 => ?_) (fun c9 => ?_)
      · refine lv_aload hx hb dX2_change_52 (lv_at hl 2 rfl) ?_
        refine g_getN (q := (4 + a1.toNatClampNeg)) (k := 2) X hK hT B rfl in_X1 (pl_sp hN (Nat.lt_of_lt_of_le (xl_X2_cardAt x1) (by decide))) (cf_sp (Nat.lt_of_lt_of_le (xl_X2_cardAt x1) (by decide))) (by decide) lk_X2_62 rfl rfl dX2_change_54 ?_
        refine lv_istore (lv' := [(7, .int (sp a1.toNatClampNeg).2.2), (6, .int a3), (5, .int a3), (4, .ref (ad (4 + a1.toNatClampNeg))), (0, .ref (ad 0)), (1, .int a1), (2, .int a2), (3, .int a3)]) hx hb dX2_change_57 hl (by decide) rfl (fun ls hl => ?_)
        refine lv_aload_n hx hb dX2_change_59 rfl (lv_at hl 4 rfl) ?_
        refine lv_aload hx hb dX2_change_60 (lv_at hl 3 rfl) ?_
        refine lv_aload_n hx hb dX2_change_62 rfl (lv_at hl 4 rfl) ?_
        refine g_get (q := 0) (k := 6) X hK B rfl in_X2 (pl_c hN 0 (by decide)) cf_0 (by decide) lk_X2_25 rfl rfl dX2_change_63 ?_
        refine lv_iload hx hb dX2_change_66 (lv_at hl 2 rfl) ?_
        refine lv_i2l (v := a3.toInt64) hx hb dX2_change_68 rfl ?_
        refine lv_iload hx hb dX2_change_69 (lv_at hl 1 rfl) ?_
        refine lv_i2l (v := a3.toInt64) hx hb dX2_change_71 rfl ?_
        refine lv_iload hx hb dX2_change_72 (lv_at hl 0 rfl) ?_
        refine lv_i2l (v := (sp a1.toNatClampNeg).2.2.toInt64) hx hb dX2_change_74 rfl ?_
        refine k_i (k := 2) (n := 12) hA B (u_VN (rest := [.ref (ad (4 + a1.toNatClampNeg)), .ref (ad 0)]) X (c_X1_put l g N ad x sp dy la kn re hN 12 (by decide) a3.toInt64 a3.toInt64 ((sp a1.toNatClampNeg).2.2.toInt64) H.size) mw_X1_put md_X1_put rfl lk_X2_41 ⟨Nat.le_of_ble_eq_true rfl, Nat.le_of_ble_eq_true rfl⟩ hA hK hT B (pl_sp hN (by decide)) (cf_sp (by decide)) rfl rfl hl.1 rfl (Nat.le_of_ble_eq_true rfl) dX2_change_75 ⟨Nat.le_of_ble_eq_true rfl, Nat.le_of_ble_eq_true rfl⟩) (Nat.le_of_ble_eq_true rfl) (Nat.le_of_ble_eq_true rfl) (fun r ad' f' H locs hw B => ?_)
        obtain ⟨rfl, rfl, rfl⟩ := hw
        refine k_i (k := 2) (n := 12) hA B (u_V (rest := []) X (c_X2_actOnCard l g N ad x (v_X1_put sp 12 a3.toInt64 a3.toInt64 ((sp a1.toNatClampNeg).2.2.toInt64)).2 dy la kn re hN a1.toNatClampNeg (Nat.lt_of_lt_of_le (xl_X2_cardAt x1) (by decide)) (v_X1_put sp 12 a3.toInt64 a3.toInt64 ((sp a1.toNatClampNeg).2.2.toInt64)).1 H.size) mw_X2_actOnCard md_X2_actOnCard rfl lk_X2_45 ⟨Nat.le_of_ble_eq_true rfl, Nat.le_of_ble_eq_true rfl⟩ hA hK hT B (pl_c hN 0 (by decide)) cf_0 rfl rfl hl.1 rfl (Nat.le_of_ble_eq_true rfl) dX2_change_78 ⟨Nat.le_of_ble_eq_true rfl, Nat.le_of_ble_eq_true rfl⟩) (Nat.le_of_ble_eq_true rfl) (Nat.le_of_ble_eq_true rfl) (fun r ad' f' H locs hw B => ?_)
        obtain ⟨rfl, rfl, rfl⟩ := hw
        have ev := (show v_X2_change sp re a1 a2 a3 = ((v_X2_actOnCard (v_X1_put sp 12 a3.toInt64 a3.toInt64 ((sp a1.toNatClampNeg).2.2.toInt64)).2 re a1.toNatClampNeg (v_X1_put sp 12 a3.toInt64 a3.toInt64 ((sp a1.toNatClampNeg).2.2.toInt64)).1).1, (v_X2_actOnCard (v_X1_put sp 12 a3.toInt64 a3.toInt64 ((sp a1.toNatClampNeg).2.2.toInt64)).2 re a1.toNatClampNeg (v_X1_put sp 12 a3.toInt64 a3.toInt64 ((sp a1.toNatClampNeg).2.2.toInt64)).1).2.1, (v_X2_actOnCard (v_X1_put sp 12 a3.toInt64 a3.toInt64 ((sp a1.toNatClampNeg).2.2.toInt64)).2 re a1.toNatClampNeg (v_X1_put sp 12 a3.toInt64 a3.toInt64 ((sp a1.toNatClampNeg).2.2.toInt64)).1).2.2) from by unfold v_X2_change; rw [if_pos c3, if_pos c7, if_neg c9])
        exact vx_ret (rt_i X hr (ad, (cf g ad x (v_X2_actOnCard (v_X1_put sp 12 a3.toInt64 a3.toInt64 ((sp a1.toNatClampNeg).2.2.toInt64)).2 re a1.toNatClampNeg (v_X1_put sp 12 a3.toInt64 a3.toInt64 ((sp a1.toNatClampNeg).2.2.toInt64)).1).2.1 dy la kn (v_X2_actOnCard (v_X1_put sp 12 a3.toInt64 a3.toInt64 ((sp a1.toNatClampNeg).2.2.toInt64)).2 re a1.toNatClampNeg (v_X1_put sp 12 a3.toInt64 a3.toInt64 ((sp a1.toNatClampNeg).2.2.toInt64)).1).2.2)) B (PO_of B) ⟨rfl, by unfold x_X2_change; rw [xo_none x1, xo_none x2, if_pos c3, if_pos c7, if_neg c9], by rw [ev], by rw [ev]⟩ rfl (Nat.le_of_ble_eq_true rfl) (Nat.le_of_ble_eq_true rfl) dX2_change_81)
      · refine lv_iload_n hx hb dX2_change_48 rfl (lv_at hl 6 rfl) ?_
        refine lv_goto (tgt := 57) hx hb dX2_change_49 (by decide) ?_
        refine lv_istore (lv' := [(7, .int a3), (6, .int a3), (5, .int a3), (4, .ref (ad (4 + a1.toNatClampNeg))), (0, .ref (ad 0)), (1, .int a1), (2, .int a2), (3, .int a3)]) hx hb dX2_change_57 hl (by decide) rfl (fun ls hl => ?_)
        refine lv_aload_n hx hb dX2_change_59 rfl (lv_at hl 4 rfl) ?_
        refine lv_aload hx hb dX2_change_60 (lv_at hl 3 rfl) ?_
        refine lv_aload_n hx hb dX2_change_62 rfl (lv_at hl 4 rfl) ?_
        refine g_get (q := 0) (k := 6) X hK B rfl in_X2 (pl_c hN 0 (by decide)) cf_0 (by decide) lk_X2_25 rfl rfl dX2_change_63 ?_
        refine lv_iload hx hb dX2_change_66 (lv_at hl 2 rfl) ?_
        refine lv_i2l (v := a3.toInt64) hx hb dX2_change_68 rfl ?_
        refine lv_iload hx hb dX2_change_69 (lv_at hl 1 rfl) ?_
        refine lv_i2l (v := a3.toInt64) hx hb dX2_change_71 rfl ?_
        refine lv_iload hx hb dX2_change_72 (lv_at hl 0 rfl) ?_
        refine lv_i2l (v := a3.toInt64) hx hb dX2_change_74 rfl ?_
        refine k_i (k := 2) (n := 12) hA B (u_VN (rest := [.ref (ad (4 + a1.toNatClampNeg)), .ref (ad 0)]) X (c_X1_put l g N ad x sp dy la kn re hN 12 (by decide) a3.toInt64 a3.toInt64 a3.toInt64 H.size) mw_X1_put md_X1_put rfl lk_X2_41 ⟨Nat.le_of_ble_eq_true rfl, Nat.le_of_ble_eq_true rfl⟩ hA hK hT B (pl_sp hN (by decide)) (cf_sp (by decide)) rfl rfl hl.1 rfl (Nat.le_of_ble_eq_true rfl) dX2_change_75 ⟨Nat.le_of_ble_eq_true rfl, Nat.le_of_ble_eq_true rfl⟩) (Nat.le_of_ble_eq_true rfl) (Nat.le_of_ble_eq_true rfl) (fun r ad' f' H locs hw B => ?_)
        obtain ⟨rfl, rfl, rfl⟩ := hw
        refine k_i (k := 2) (n := 12) hA B (u_V (rest := []) X (c_X2_actOnCard l g N ad x (v_X1_put sp 12 a3.toInt64 a3.toInt64 a3.toInt64).2 dy la kn re hN a1.toNatClampNeg (Nat.lt_of_lt_of_le (xl_X2_cardAt x1) (by decide)) (v_X1_put sp 12 a3.toInt64 a3.toInt64 a3.toInt64).1 H.size) mw_X2_actOnCard md_X2_actOnCard rfl lk_X2_45 ⟨Nat.le_of_ble_eq_true rfl, Nat.le_of_ble_eq_true rfl⟩ hA hK hT B (pl_c hN 0 (by decide)) cf_0 rfl rfl hl.1 rfl (Nat.le_of_ble_eq_true rfl) dX2_change_78 ⟨Nat.le_of_ble_eq_true rfl, Nat.le_of_ble_eq_true rfl⟩) (Nat.le_of_ble_eq_true rfl) (Nat.le_of_ble_eq_true rfl) (fun r ad' f' H locs hw B => ?_)
        obtain ⟨rfl, rfl, rfl⟩ := hw
        have ev := (show v_X2_change sp re a1 a2 a3 = ((v_X2_actOnCard (v_X1_put sp 12 a3.toInt64 a3.toInt64 a3.toInt64).2 re a1.toNatClampNeg (v_X1_put sp 12 a3.toInt64 a3.toInt64 a3.toInt64).1).1, (v_X2_actOnCard (v_X1_put sp 12 a3.toInt64 a3.toInt64 a3.toInt64).2 re a1.toNatClampNeg (v_X1_put sp 12 a3.toInt64 a3.toInt64 a3.toInt64).1).2.1, (v_X2_actOnCard (v_X1_put sp 12 a3.toInt64 a3.toInt64 a3.toInt64).2 re a1.toNatClampNeg (v_X1_put sp 12 a3.toInt64 a3.toInt64 a3.toInt64).1).2.2) from by unfold v_X2_change; rw [if_pos c3, if_pos c7, if_pos c9])
        exact vx_ret (rt_i X hr (ad, (cf g ad x (v_X2_actOnCard (v_X1_put sp 12 a3.toInt64 a3.toInt64 a3.toInt64).2 re a1.toNatClampNeg (v_X1_put sp 12 a3.toInt64 a3.toInt64 a3.toInt64).1).2.1 dy la kn (v_X2_actOnCard (v_X1_put sp 12 a3.toInt64 a3.toInt64 a3.toInt64).2 re a1.toNatClampNeg (v_X1_put sp 12 a3.toInt64 a3.toInt64 a3.toInt64).1).2.2)) B (PO_of B) ⟨rfl, by unfold x_X2_change; rw [xo_none x1, xo_none x2, if_pos c3, if_pos c7, if_pos c9], by rw [ev], by rw [ev]⟩ rfl (Nat.le_of_ble_eq_true rfl) (Nat.le_of_ble_eq_true rfl) dX2_change_81)
def v_X2_copy (sp : Nat → TR) (re : Int32) (a1 : Int32) (a2 : Int32) : Int32 × (Nat → TR) × Int32 := ((v_X2_actOnCard (v_X1_putSpan sp 12 a2.toNatClampNeg) re a1.toNatClampNeg 1).1, (v_X2_actOnCard (v_X1_putSpan sp 12 a2.toNatClampNeg) re a1.toNatClampNeg 1).2.1, (v_X2_actOnCard (v_X1_putSpan sp 12 a2.toNatClampNeg) re a1.toNatClampNeg 1).2.2)
def x_X2_copy (a1 : Int32) (a2 : Int32) : Option String := xo (x_X2_cardAt a1) (xo (x_X2_cardAt a2) none)
set_option maxHeartbeats 4000000 in
set_option maxRecDepth 100000 in
theorem c_X2_copy (l : Launch) (hfl : l.stackTraces = false) (g : GG) (N : Nat) (ad : Nat → Nat) (x : Nat → va_E) (sp dy : Nat → TR) (la kn re : Int32) (hN : 23 ≤ N) (a1 : Int32) (a2 : Int32) : XI l yX2_copy cX2_copy 4 (some .int) (rm 2 2 12) g [.ref (ad 0), .int a1, .int a2] N ad (cf g ad x sp dy la kn re) N (fun E => x_X2_copy a1 a2 = some E) (fun r ad' f' => ad = ad' ∧ x_X2_copy a1 a2 = none ∧ (v_X2_copy sp re a1 a2).1 = r ∧ (cf g ad x (v_X2_copy sp re a1 a2).2.1 dy la kn (v_X2_copy sp re a1 a2).2.2) = f') := by
  intro sz
  refine mx_start (by decide) (Nat.le_of_ble_eq_true rfl) ?_
  intro p e s m args below meth c hsz X hr hex hA hK hT H locs B ls hl
  obtain ⟨hx, hb, hml, hown, hts, hlocks⟩ := id X
  have hl : lv_has ls 4 [(0, .ref (ad 0)), (1, .int a1), (2, .int a2)] := hl
  refine lv_aload_n hx hb dX2_copy_0 rfl (lv_at hl 0 rfl) ?_
  refine lv_iload_n hx hb dX2_copy_1 rfl (lv_at hl 1 rfl) ?_
  refine k_xr (k := 1) (n := 6) hex X hsz hA B (ux_V (rest := []) X (c_X2_cardAt l hfl g N ad x sp dy la kn re hN a1 H.size) mw_X2_cardAt md_X2_cardAt rfl lk_X2_37 ⟨Nat.le_of_ble_eq_true rfl, Nat.le_of_ble_eq_true rfl⟩ hA hK hT B (pl_c hN 0 (by decide)) cf_0 rfl rfl hl.1 rfl (Nat.le_of_ble_eq_true rfl) dX2_copy_2 ⟨Nat.le_of_ble_eq_true rfl, Nat.le_of_ble_eq_true rfl⟩) (Nat.le_of_ble_eq_true rfl) (Nat.le_of_ble_eq_true rfl) (Nat.le_of_ble_eq_true rfl) (Nat.le_of_ble_eq_true rfl) (fun E hE => by unfold x_X2_copy; rw [xo_some hE]) (fun r ad' f' H locs hw B => ?_)
  obtain ⟨rfl, x1, rfl, rfl⟩ := hw
  refine lv_astore_n (lv' := [(3, .ref (ad (4 + a1.toNatClampNeg))), (0, .ref (ad 0)), (1, .int a1), (2, .int a2)]) hx hb dX2_copy_5 rfl hl (by decide) rfl (fun ls hl => ?_)
  refine lv_aload_n hx hb dX2_copy_6 rfl (lv_at hl 1 rfl) ?_
  refine g_get (q := 0) (k := 6) X hK B rfl in_X2 (pl_c hN 0 (by decide)) cf_0 (by decide) lk_X2_25 rfl rfl dX2_copy_7 ?_
  refine lv_aload_n hx hb dX2_copy_10 rfl (lv_at hl 1 rfl) ?_
  refine lv_iload_n hx hb dX2_copy_11 rfl (lv_at hl 3 rfl) ?_
  refine k_xr (k := 2) (n := 12) hex X hsz hA B (ux_V (rest := [.ref (ad (4 + 12))]) X (c_X2_cardAt l hfl g N ad x sp dy la kn re hN a2 H.size) mw_X2_cardAt md_X2_cardAt rfl lk_X2_37 ⟨Nat.le_of_ble_eq_true rfl, Nat.le_of_ble_eq_true rfl⟩ hA hK hT B (pl_c hN 0 (by decide)) cf_0 rfl rfl hl.1 rfl (Nat.le_of_ble_eq_true rfl) dX2_copy_12 ⟨Nat.le_of_ble_eq_true rfl, Nat.le_of_ble_eq_true rfl⟩) (Nat.le_of_ble_eq_true rfl) (Nat.le_of_ble_eq_true rfl) (Nat.le_of_ble_eq_true rfl) (Nat.le_of_ble_eq_true rfl) (fun E hE => by unfold x_X2_copy; rw [xo_none x1, xo_some hE]) (fun r ad' f' H locs hw B => ?_)
  obtain ⟨rfl, x2, rfl, rfl⟩ := hw
  refine k_v (k := 2) (n := 12) hA B (u_VN (rest := []) X (c_X1_putSpan l g N ad x sp dy la kn re hN 12 (by decide) a2.toNatClampNeg (Nat.lt_of_lt_of_le (xl_X2_cardAt x2) (by decide)) H.size) mw_X1_putSpan md_X1_putSpan rfl lk_X2_65 ⟨Nat.le_of_ble_eq_true rfl, Nat.le_of_ble_eq_true rfl⟩ hA hK hT B (pl_sp hN (by decide)) (cf_sp (by decide)) rfl rfl hl.1 rfl (Nat.le_of_ble_eq_true rfl) dX2_copy_15 ⟨Nat.le_of_ble_eq_true rfl, Nat.le_of_ble_eq_true rfl⟩) (Nat.le_of_ble_eq_true rfl) (Nat.le_of_ble_eq_true rfl) (fun ad' f' H locs hw B => ?_)
  obtain ⟨rfl, rfl⟩ := hw
  refine lv_aload_n hx hb dX2_copy_18 rfl (lv_at hl 1 rfl) ?_
  refine lv_aload_n hx hb dX2_copy_19 rfl (lv_at hl 0 rfl) ?_
  refine lv_iconst (v := 1) hx hb dX2_copy_20 (by decide) ?_
  refine k_i (k := 2) (n := 12) hA B (u_V (rest := []) X (c_X2_actOnCard l g N ad x (v_X1_putSpan sp 12 a2.toNatClampNeg) dy la kn re hN a1.toNatClampNeg (Nat.lt_of_lt_of_le (xl_X2_cardAt x1) (by decide)) 1 H.size) mw_X2_actOnCard md_X2_actOnCard rfl lk_X2_45 ⟨Nat.le_of_ble_eq_true rfl, Nat.le_of_ble_eq_true rfl⟩ hA hK hT B (pl_c hN 0 (by decide)) cf_0 rfl rfl hl.1 rfl (Nat.le_of_ble_eq_true rfl) dX2_copy_21 ⟨Nat.le_of_ble_eq_true rfl, Nat.le_of_ble_eq_true rfl⟩) (Nat.le_of_ble_eq_true rfl) (Nat.le_of_ble_eq_true rfl) (fun r ad' f' H locs hw B => ?_)
  obtain ⟨rfl, rfl, rfl⟩ := hw
  have ev := (show v_X2_copy sp re a1 a2 = ((v_X2_actOnCard (v_X1_putSpan sp 12 a2.toNatClampNeg) re a1.toNatClampNeg 1).1, (v_X2_actOnCard (v_X1_putSpan sp 12 a2.toNatClampNeg) re a1.toNatClampNeg 1).2.1, (v_X2_actOnCard (v_X1_putSpan sp 12 a2.toNatClampNeg) re a1.toNatClampNeg 1).2.2) from rfl)
  exact vx_ret (rt_i X hr (ad, (cf g ad x (v_X2_actOnCard (v_X1_putSpan sp 12 a2.toNatClampNeg) re a1.toNatClampNeg 1).2.1 dy la kn (v_X2_actOnCard (v_X1_putSpan sp 12 a2.toNatClampNeg) re a1.toNatClampNeg 1).2.2)) B (PO_of B) ⟨rfl, by unfold x_X2_copy; rw [xo_none x1, xo_none x2], by rw [ev], by rw [ev]⟩ rfl (Nat.le_of_ble_eq_true rfl) (Nat.le_of_ble_eq_true rfl) dX2_copy_24)
def v_X2_swap (sp : Nat → TR) (re : Int32) (a1 : Int32) (a2 : Int32) : Int32 × (Nat → TR) × Int32 := ((v_X2_actOnCard (v_X1_putSpan (v_X1_putSpan sp 12 a2.toNatClampNeg) a2.toNatClampNeg a1.toNatClampNeg) re a1.toNatClampNeg 1).1, (v_X2_actOnCard (v_X1_putSpan (v_X1_putSpan sp 12 a2.toNatClampNeg) a2.toNatClampNeg a1.toNatClampNeg) re a1.toNatClampNeg 1).2.1, (v_X2_actOnCard (v_X1_putSpan (v_X1_putSpan sp 12 a2.toNatClampNeg) a2.toNatClampNeg a1.toNatClampNeg) re a1.toNatClampNeg 1).2.2)
def x_X2_swap (a1 : Int32) (a2 : Int32) : Option String := xo (x_X2_cardAt a1) (xo (x_X2_cardAt a2) none)
set_option maxHeartbeats 4000000 in
set_option maxRecDepth 100000 in
theorem c_X2_swap (l : Launch) (hfl : l.stackTraces = false) (g : GG) (N : Nat) (ad : Nat → Nat) (x : Nat → va_E) (sp dy : Nat → TR) (la kn re : Int32) (hN : 23 ≤ N) (a1 : Int32) (a2 : Int32) : XI l yX2_swap cX2_swap 5 (some .int) (rm 2 2 12) g [.ref (ad 0), .int a1, .int a2] N ad (cf g ad x sp dy la kn re) N (fun E => x_X2_swap a1 a2 = some E) (fun r ad' f' => ad = ad' ∧ x_X2_swap a1 a2 = none ∧ (v_X2_swap sp re a1 a2).1 = r ∧ (cf g ad x (v_X2_swap sp re a1 a2).2.1 dy la kn (v_X2_swap sp re a1 a2).2.2) = f') := by
  intro sz
  refine mx_start (by decide) (Nat.le_of_ble_eq_true rfl) ?_
  intro p e s m args below meth c hsz X hr hex hA hK hT H locs B ls hl
  obtain ⟨hx, hb, hml, hown, hts, hlocks⟩ := id X
  have hl : lv_has ls 5 [(0, .ref (ad 0)), (1, .int a1), (2, .int a2)] := hl
  refine lv_aload_n hx hb dX2_swap_0 rfl (lv_at hl 0 rfl) ?_
  refine lv_iload_n hx hb dX2_swap_1 rfl (lv_at hl 1 rfl) ?_
  refine k_xr (k := 1) (n := 6) hex X hsz hA B (ux_V (rest := []) X (c_X2_cardAt l hfl g N ad x sp dy la kn re hN a1 H.size) mw_X2_cardAt md_X2_cardAt rfl lk_X2_37 ⟨Nat.le_of_ble_eq_true rfl, Nat.le_of_ble_eq_true rfl⟩ hA hK hT B (pl_c hN 0 (by decide)) cf_0 rfl rfl hl.1 rfl (Nat.le_of_ble_eq_true rfl) dX2_swap_2 ⟨Nat.le_of_ble_eq_true rfl, Nat.le_of_ble_eq_true rfl⟩) (Nat.le_of_ble_eq_true rfl) (Nat.le_of_ble_eq_true rfl) (Nat.le_of_ble_eq_true rfl) (Nat.le_of_ble_eq_true rfl) (fun E hE => by unfold x_X2_swap; rw [xo_some hE]) (fun r ad' f' H locs hw B => ?_)
  obtain ⟨rfl, x1, rfl, rfl⟩ := hw
  refine lv_astore_n (lv' := [(3, .ref (ad (4 + a1.toNatClampNeg))), (0, .ref (ad 0)), (1, .int a1), (2, .int a2)]) hx hb dX2_swap_5 rfl hl (by decide) rfl (fun ls hl => ?_)
  refine lv_aload_n hx hb dX2_swap_6 rfl (lv_at hl 1 rfl) ?_
  refine lv_iload_n hx hb dX2_swap_7 rfl (lv_at hl 3 rfl) ?_
  refine k_xr (k := 2) (n := 12) hex X hsz hA B (ux_V (rest := []) X (c_X2_cardAt l hfl g N ad x sp dy la kn re hN a2 H.size) mw_X2_cardAt md_X2_cardAt rfl lk_X2_37 ⟨Nat.le_of_ble_eq_true rfl, Nat.le_of_ble_eq_true rfl⟩ hA hK hT B (pl_c hN 0 (by decide)) cf_0 rfl rfl hl.1 rfl (Nat.le_of_ble_eq_true rfl) dX2_swap_8 ⟨Nat.le_of_ble_eq_true rfl, Nat.le_of_ble_eq_true rfl⟩) (Nat.le_of_ble_eq_true rfl) (Nat.le_of_ble_eq_true rfl) (Nat.le_of_ble_eq_true rfl) (Nat.le_of_ble_eq_true rfl) (fun E hE => by unfold x_X2_swap; rw [xo_none x1, xo_some hE]) (fun r ad' f' H locs hw B => ?_)
  obtain ⟨rfl, x2, rfl, rfl⟩ := hw
  refine lv_astore (lv' := [(4, .ref (ad (4 + a2.toNatClampNeg))), (3, .ref (ad (4 + a1.toNatClampNeg))), (0, .ref (ad 0)), (1, .int a1), (2, .int a2)]) hx hb dX2_swap_11 hl (by decide) rfl (fun ls hl => ?_)
  refine lv_aload_n hx hb dX2_swap_13 rfl (lv_at hl 2 rfl) ?_
  refine g_get (q := 0) (k := 6) X hK B rfl in_X2 (pl_c hN 0 (by decide)) cf_0 (by decide) lk_X2_25 rfl rfl dX2_swap_14 ?_
  refine lv_aload hx hb dX2_swap_17 (lv_at hl 0 rfl) ?_
  refine k_v (k := 2) (n := 12) hA B (u_VN (rest := []) X (c_X1_putSpan l g N ad x sp dy la kn re hN 12 (by decide) a2.toNatClampNeg (Nat.lt_of_lt_of_le (xl_X2_cardAt x2) (by decide)) H.size) mw_X1_putSpan md_X1_putSpan rfl lk_X2_65 ⟨Nat.le_of_ble_eq_true rfl, Nat.le_of_ble_eq_true rfl⟩ hA hK hT B (pl_sp hN (by decide)) (cf_sp (by decide)) rfl rfl hl.1 rfl (Nat.le_of_ble_eq_true rfl) dX2_swap_19 ⟨Nat.le_of_ble_eq_true rfl, Nat.le_of_ble_eq_true rfl⟩) (Nat.le_of_ble_eq_true rfl) (Nat.le_of_ble_eq_true rfl) (fun ad' f' H locs hw B => ?_)
  obtain ⟨rfl, rfl⟩ := hw
  refine lv_aload hx hb dX2_swap_22 (lv_at hl 0 rfl) ?_
  refine lv_aload_n hx hb dX2_swap_24 rfl (lv_at hl 1 rfl) ?_
  refine k_v (k := 2) (n := 12) hA B (u_VN (rest := []) X (c_X1_putSpan l g N ad x (v_X1_putSpan sp 12 a2.toNatClampNeg) dy la kn re hN a2.toNatClampNeg (Nat.lt_of_lt_of_le (xl_X2_cardAt x2) (by decide)) a1.toNatClampNeg (Nat.lt_of_lt_of_le (xl_X2_cardAt x1) (by decide)) H.size) mw_X1_putSpan md_X1_putSpan rfl lk_X2_65 ⟨Nat.le_of_ble_eq_true rfl, Nat.le_of_ble_eq_true rfl⟩ hA hK hT B (pl_sp hN (Nat.lt_of_lt_of_le (xl_X2_cardAt x2) (by decide))) (cf_sp (Nat.lt_of_lt_of_le (xl_X2_cardAt x2) (by decide))) rfl rfl hl.1 rfl (Nat.le_of_ble_eq_true rfl) dX2_swap_25 ⟨Nat.le_of_ble_eq_true rfl, Nat.le_of_ble_eq_true rfl⟩) (Nat.le_of_ble_eq_true rfl) (Nat.le_of_ble_eq_true rfl) (fun ad' f' H locs hw B => ?_)
  obtain ⟨rfl, rfl⟩ := hw
  refine lv_aload_n hx hb dX2_swap_28 rfl (lv_at hl 2 rfl) ?_
  refine lv_aload_n hx hb dX2_swap_29 rfl (lv_at hl 1 rfl) ?_
  refine lv_iconst (v := 1) hx hb dX2_swap_30 (by decide) ?_
  refine k_i (k := 2) (n := 12) hA B (u_V (rest := []) X (c_X2_actOnCard l g N ad x (v_X1_putSpan (v_X1_putSpan sp 12 a2.toNatClampNeg) a2.toNatClampNeg a1.toNatClampNeg) dy la kn re hN a1.toNatClampNeg (Nat.lt_of_lt_of_le (xl_X2_cardAt x1) (by decide)) 1 H.size) mw_X2_actOnCard md_X2_actOnCard rfl lk_X2_45 ⟨Nat.le_of_ble_eq_true rfl, Nat.le_of_ble_eq_true rfl⟩ hA hK hT B (pl_c hN 0 (by decide)) cf_0 rfl rfl hl.1 rfl (Nat.le_of_ble_eq_true rfl) dX2_swap_31 ⟨Nat.le_of_ble_eq_true rfl, Nat.le_of_ble_eq_true rfl⟩) (Nat.le_of_ble_eq_true rfl) (Nat.le_of_ble_eq_true rfl) (fun r ad' f' H locs hw B => ?_)
  obtain ⟨rfl, rfl, rfl⟩ := hw
  have ev := (show v_X2_swap sp re a1 a2 = ((v_X2_actOnCard (v_X1_putSpan (v_X1_putSpan sp 12 a2.toNatClampNeg) a2.toNatClampNeg a1.toNatClampNeg) re a1.toNatClampNeg 1).1, (v_X2_actOnCard (v_X1_putSpan (v_X1_putSpan sp 12 a2.toNatClampNeg) a2.toNatClampNeg a1.toNatClampNeg) re a1.toNatClampNeg 1).2.1, (v_X2_actOnCard (v_X1_putSpan (v_X1_putSpan sp 12 a2.toNatClampNeg) a2.toNatClampNeg a1.toNatClampNeg) re a1.toNatClampNeg 1).2.2) from rfl)
  exact vx_ret (rt_i X hr (ad, (cf g ad x (v_X2_actOnCard (v_X1_putSpan (v_X1_putSpan sp 12 a2.toNatClampNeg) a2.toNatClampNeg a1.toNatClampNeg) re a1.toNatClampNeg 1).2.1 dy la kn (v_X2_actOnCard (v_X1_putSpan (v_X1_putSpan sp 12 a2.toNatClampNeg) a2.toNatClampNeg a1.toNatClampNeg) re a1.toNatClampNeg 1).2.2)) B (PO_of B) ⟨rfl, by unfold x_X2_swap; rw [xo_none x1, xo_none x2], by rw [ev], by rw [ev]⟩ rfl (Nat.le_of_ble_eq_true rfl) (Nat.le_of_ble_eq_true rfl) dX2_swap_34)
def v_X2_plusYears (sp : Nat → TR) (re : Int32) (a1 : Int32) (a2 : Int32) (a3 : Int32) : Int32 × (Nat → TR) × Int32 := ((v_X2_actOnCard (v_X1_put sp 12 (((sp a1.toNatClampNeg).1.toInt64) + (v_X2_howMany a2 a3)) ((sp a1.toNatClampNeg).2.1.toInt64) ((sp a1.toNatClampNeg).2.2.toInt64)).2 re a1.toNatClampNeg (v_X1_put sp 12 (((sp a1.toNatClampNeg).1.toInt64) + (v_X2_howMany a2 a3)) ((sp a1.toNatClampNeg).2.1.toInt64) ((sp a1.toNatClampNeg).2.2.toInt64)).1).1, (v_X2_actOnCard (v_X1_put sp 12 (((sp a1.toNatClampNeg).1.toInt64) + (v_X2_howMany a2 a3)) ((sp a1.toNatClampNeg).2.1.toInt64) ((sp a1.toNatClampNeg).2.2.toInt64)).2 re a1.toNatClampNeg (v_X1_put sp 12 (((sp a1.toNatClampNeg).1.toInt64) + (v_X2_howMany a2 a3)) ((sp a1.toNatClampNeg).2.1.toInt64) ((sp a1.toNatClampNeg).2.2.toInt64)).1).2.1, (v_X2_actOnCard (v_X1_put sp 12 (((sp a1.toNatClampNeg).1.toInt64) + (v_X2_howMany a2 a3)) ((sp a1.toNatClampNeg).2.1.toInt64) ((sp a1.toNatClampNeg).2.2.toInt64)).2 re a1.toNatClampNeg (v_X1_put sp 12 (((sp a1.toNatClampNeg).1.toInt64) + (v_X2_howMany a2 a3)) ((sp a1.toNatClampNeg).2.1.toInt64) ((sp a1.toNatClampNeg).2.2.toInt64)).1).2.2)
def x_X2_plusYears (a1 : Int32) : Option String := xo (x_X2_cardAt a1) none
set_option maxHeartbeats 4000000 in
set_option maxRecDepth 100000 in
theorem c_X2_plusYears (l : Launch) (hfl : l.stackTraces = false) (g : GG) (N : Nat) (ad : Nat → Nat) (x : Nat → va_E) (sp dy : Nat → TR) (la kn re : Int32) (hN : 23 ≤ N) (a1 : Int32) (a2 : Int32) (a3 : Int32) : XI l yX2_plusYears cX2_plusYears 7 (some .int) (rm 2 1 6) g [.ref (ad 0), .int a1, .int a2, .int a3] N ad (cf g ad x sp dy la kn re) N (fun E => x_X2_plusYears a1 = some E) (fun r ad' f' => ad = ad' ∧ x_X2_plusYears a1 = none ∧ (v_X2_plusYears sp re a1 a2 a3).1 = r ∧ (cf g ad x (v_X2_plusYears sp re a1 a2 a3).2.1 dy la kn (v_X2_plusYears sp re a1 a2 a3).2.2) = f') := by
  intro sz
  refine mx_start (by decide) (Nat.le_of_ble_eq_true rfl) ?_
  intro p e s m args below meth c hsz X hr hex hA hK hT H locs B ls hl
  obtain ⟨hx, hb, hml, hown, hts, hlocks⟩ := id X
  have hl : lv_has ls 7 [(0, .ref (ad 0)), (1, .int a1), (2, .int a2), (3, .int a3)] := hl
  refine lv_aload_n hx hb dX2_plusYears_0 rfl (lv_at hl 0 rfl) ?_
  refine lv_iload_n hx hb dX2_plusYears_1 rfl (lv_at hl 1 rfl) ?_
  refine k_xr (k := 1) (n := 6) hex X hsz hA B (ux_V (rest := []) X (c_X2_cardAt l hfl g N ad x sp dy la kn re hN a1 H.size) mw_X2_cardAt md_X2_cardAt rfl lk_X2_37 ⟨Nat.le_of_ble_eq_true rfl, Nat.le_of_ble_eq_true rfl⟩ hA hK hT B (pl_c hN 0 (by decide)) cf_0 rfl rfl hl.1 rfl (Nat.le_of_ble_eq_true rfl) dX2_plusYears_2 ⟨Nat.le_of_ble_eq_true rfl, Nat.le_of_ble_eq_true rfl⟩) (Nat.le_of_ble_eq_true rfl) (Nat.le_of_ble_eq_true rfl) (Nat.le_of_ble_eq_true rfl) (Nat.le_of_ble_eq_true rfl) (fun E hE => by unfold x_X2_plusYears; rw [xo_some hE]) (fun r ad' f' H locs hw B => ?_)
  obtain ⟨rfl, x1, rfl, rfl⟩ := hw
  refine lv_astore (lv' := [(4, .ref (ad (4 + a1.toNatClampNeg))), (0, .ref (ad 0)), (1, .int a1), (2, .int a2), (3, .int a3)]) hx hb dX2_plusYears_5 hl (by decide) rfl (fun ls hl => ?_)
  refine lv_iload_n hx hb dX2_plusYears_7 rfl (lv_at hl 3 rfl) ?_
  refine lv_iload_n hx hb dX2_plusYears_8 rfl (lv_at hl 4 rfl) ?_
  refine k_l (k := 1) (n := 6) hA B (u_S (rest := []) X (c_X2_howMany l g N ad x sp dy la kn re hN a2 a3 H.size) mw_X2_howMany md_X2_howMany rfl lk_X2_69 ⟨Nat.le_of_ble_eq_true rfl, Nat.le_of_ble_eq_true rfl⟩ hA hK hT B hl.1 rfl (Nat.le_of_ble_eq_true rfl) dX2_plusYears_9 ⟨Nat.le_of_ble_eq_true rfl, Nat.le_of_ble_eq_true rfl⟩) (Nat.le_of_ble_eq_true rfl) (Nat.le_of_ble_eq_true rfl) (fun r ad' f' H locs hw B => ?_)
  obtain ⟨rfl, rfl, rfl⟩ := hw
  refine lv_lstore (lv' := [(5, .long (v_X2_howMany a2 a3)), (4, .ref (ad (4 + a1.toNatClampNeg))), (0, .ref (ad 0)), (1, .int a1), (2, .int a2), (3, .int a3)]) hx hb dX2_plusYears_12 hl (by decide) rfl (fun ls hl => ?_)
  refine lv_aload_n hx hb dX2_plusYears_14 rfl (lv_at hl 2 rfl) ?_
  refine lv_aload hx hb dX2_plusYears_15 (lv_at hl 1 rfl) ?_
  refine lv_aload_n hx hb dX2_plusYears_17 rfl (lv_at hl 2 rfl) ?_
  refine g_get (q := 0) (k := 6) X hK B rfl in_X2 (pl_c hN 0 (by decide)) cf_0 (by decide) lk_X2_25 rfl rfl dX2_plusYears_18 ?_
  refine lv_aload hx hb dX2_plusYears_21 (lv_at hl 1 rfl) ?_
  refine g_getN (q := (4 + a1.toNatClampNeg)) (k := 0) X hK hT B rfl in_X1 (pl_sp hN (Nat.lt_of_lt_of_le (xl_X2_cardAt x1) (by decide))) (cf_sp (Nat.lt_of_lt_of_le (xl_X2_cardAt x1) (by decide))) (by decide) lk_X2_55 rfl rfl dX2_plusYears_23 ?_
  refine lv_i2l (v := (sp a1.toNatClampNeg).1.toInt64) hx hb dX2_plusYears_26 rfl ?_
  refine lv_lload hx hb dX2_plusYears_27 (lv_at hl 0 rfl) ?_
  refine lv_ladd hx hb dX2_plusYears_29 ?_
  refine lv_aload hx hb dX2_plusYears_30 (lv_at hl 1 rfl) ?_
  refine g_getN (q := (4 + a1.toNatClampNeg)) (k := 1) X hK hT B rfl in_X1 (pl_sp hN (Nat.lt_of_lt_of_le (xl_X2_cardAt x1) (by decide))) (cf_sp (Nat.lt_of_lt_of_le (xl_X2_cardAt x1) (by decide))) (by decide) lk_X2_59 rfl rfl dX2_plusYears_32 ?_
  refine lv_i2l (v := (sp a1.toNatClampNeg).2.1.toInt64) hx hb dX2_plusYears_35 rfl ?_
  refine lv_aload hx hb dX2_plusYears_36 (lv_at hl 1 rfl) ?_
  refine g_getN (q := (4 + a1.toNatClampNeg)) (k := 2) X hK hT B rfl in_X1 (pl_sp hN (Nat.lt_of_lt_of_le (xl_X2_cardAt x1) (by decide))) (cf_sp (Nat.lt_of_lt_of_le (xl_X2_cardAt x1) (by decide))) (by decide) lk_X2_62 rfl rfl dX2_plusYears_38 ?_
  refine lv_i2l (v := (sp a1.toNatClampNeg).2.2.toInt64) hx hb dX2_plusYears_41 rfl ?_
  refine k_i (k := 1) (n := 6) hA B (u_VN (rest := [.ref (ad (4 + a1.toNatClampNeg)), .ref (ad 0)]) X (c_X1_put l g N ad x sp dy la kn re hN 12 (by decide) (((sp a1.toNatClampNeg).1.toInt64) + (v_X2_howMany a2 a3)) ((sp a1.toNatClampNeg).2.1.toInt64) ((sp a1.toNatClampNeg).2.2.toInt64) H.size) mw_X1_put md_X1_put rfl lk_X2_41 ⟨Nat.le_of_ble_eq_true rfl, Nat.le_of_ble_eq_true rfl⟩ hA hK hT B (pl_sp hN (by decide)) (cf_sp (by decide)) rfl rfl hl.1 rfl (Nat.le_of_ble_eq_true rfl) dX2_plusYears_42 ⟨Nat.le_of_ble_eq_true rfl, Nat.le_of_ble_eq_true rfl⟩) (Nat.le_of_ble_eq_true rfl) (Nat.le_of_ble_eq_true rfl) (fun r ad' f' H locs hw B => ?_)
  obtain ⟨rfl, rfl, rfl⟩ := hw
  refine k_i (k := 1) (n := 6) hA B (u_V (rest := []) X (c_X2_actOnCard l g N ad x (v_X1_put sp 12 (((sp a1.toNatClampNeg).1.toInt64) + (v_X2_howMany a2 a3)) ((sp a1.toNatClampNeg).2.1.toInt64) ((sp a1.toNatClampNeg).2.2.toInt64)).2 dy la kn re hN a1.toNatClampNeg (Nat.lt_of_lt_of_le (xl_X2_cardAt x1) (by decide)) (v_X1_put sp 12 (((sp a1.toNatClampNeg).1.toInt64) + (v_X2_howMany a2 a3)) ((sp a1.toNatClampNeg).2.1.toInt64) ((sp a1.toNatClampNeg).2.2.toInt64)).1 H.size) mw_X2_actOnCard md_X2_actOnCard rfl lk_X2_45 ⟨Nat.le_of_ble_eq_true rfl, Nat.le_of_ble_eq_true rfl⟩ hA hK hT B (pl_c hN 0 (by decide)) cf_0 rfl rfl hl.1 rfl (Nat.le_of_ble_eq_true rfl) dX2_plusYears_45 ⟨Nat.le_of_ble_eq_true rfl, Nat.le_of_ble_eq_true rfl⟩) (Nat.le_of_ble_eq_true rfl) (Nat.le_of_ble_eq_true rfl) (fun r ad' f' H locs hw B => ?_)
  obtain ⟨rfl, rfl, rfl⟩ := hw
  have ev := (show v_X2_plusYears sp re a1 a2 a3 = ((v_X2_actOnCard (v_X1_put sp 12 (((sp a1.toNatClampNeg).1.toInt64) + (v_X2_howMany a2 a3)) ((sp a1.toNatClampNeg).2.1.toInt64) ((sp a1.toNatClampNeg).2.2.toInt64)).2 re a1.toNatClampNeg (v_X1_put sp 12 (((sp a1.toNatClampNeg).1.toInt64) + (v_X2_howMany a2 a3)) ((sp a1.toNatClampNeg).2.1.toInt64) ((sp a1.toNatClampNeg).2.2.toInt64)).1).1, (v_X2_actOnCard (v_X1_put sp 12 (((sp a1.toNatClampNeg).1.toInt64) + (v_X2_howMany a2 a3)) ((sp a1.toNatClampNeg).2.1.toInt64) ((sp a1.toNatClampNeg).2.2.toInt64)).2 re a1.toNatClampNeg (v_X1_put sp 12 (((sp a1.toNatClampNeg).1.toInt64) + (v_X2_howMany a2 a3)) ((sp a1.toNatClampNeg).2.1.toInt64) ((sp a1.toNatClampNeg).2.2.toInt64)).1).2.1, (v_X2_actOnCard (v_X1_put sp 12 (((sp a1.toNatClampNeg).1.toInt64) + (v_X2_howMany a2 a3)) ((sp a1.toNatClampNeg).2.1.toInt64) ((sp a1.toNatClampNeg).2.2.toInt64)).2 re a1.toNatClampNeg (v_X1_put sp 12 (((sp a1.toNatClampNeg).1.toInt64) + (v_X2_howMany a2 a3)) ((sp a1.toNatClampNeg).2.1.toInt64) ((sp a1.toNatClampNeg).2.2.toInt64)).1).2.2) from rfl)
  exact vx_ret (rt_i X hr (ad, (cf g ad x (v_X2_actOnCard (v_X1_put sp 12 (((sp a1.toNatClampNeg).1.toInt64) + (v_X2_howMany a2 a3)) ((sp a1.toNatClampNeg).2.1.toInt64) ((sp a1.toNatClampNeg).2.2.toInt64)).2 re a1.toNatClampNeg (v_X1_put sp 12 (((sp a1.toNatClampNeg).1.toInt64) + (v_X2_howMany a2 a3)) ((sp a1.toNatClampNeg).2.1.toInt64) ((sp a1.toNatClampNeg).2.2.toInt64)).1).2.1 dy la kn (v_X2_actOnCard (v_X1_put sp 12 (((sp a1.toNatClampNeg).1.toInt64) + (v_X2_howMany a2 a3)) ((sp a1.toNatClampNeg).2.1.toInt64) ((sp a1.toNatClampNeg).2.2.toInt64)).2 re a1.toNatClampNeg (v_X1_put sp 12 (((sp a1.toNatClampNeg).1.toInt64) + (v_X2_howMany a2 a3)) ((sp a1.toNatClampNeg).2.1.toInt64) ((sp a1.toNatClampNeg).2.2.toInt64)).1).2.2)) B (PO_of B) ⟨rfl, by unfold x_X2_plusYears; rw [xo_none x1], by rw [ev], by rw [ev]⟩ rfl (Nat.le_of_ble_eq_true rfl) (Nat.le_of_ble_eq_true rfl) dX2_plusYears_48)
def v_X2_plusMonths (sp : Nat → TR) (re : Int32) (a1 : Int32) (a2 : Int32) (a3 : Int32) : Int32 × (Nat → TR) × Int32 := ((v_X2_actOnCard (v_X1_put sp 12 ((sp a1.toNatClampNeg).1.toInt64) (((sp a1.toNatClampNeg).2.1.toInt64) + (v_X2_howMany a2 a3)) ((sp a1.toNatClampNeg).2.2.toInt64)).2 re a1.toNatClampNeg (v_X1_put sp 12 ((sp a1.toNatClampNeg).1.toInt64) (((sp a1.toNatClampNeg).2.1.toInt64) + (v_X2_howMany a2 a3)) ((sp a1.toNatClampNeg).2.2.toInt64)).1).1, (v_X2_actOnCard (v_X1_put sp 12 ((sp a1.toNatClampNeg).1.toInt64) (((sp a1.toNatClampNeg).2.1.toInt64) + (v_X2_howMany a2 a3)) ((sp a1.toNatClampNeg).2.2.toInt64)).2 re a1.toNatClampNeg (v_X1_put sp 12 ((sp a1.toNatClampNeg).1.toInt64) (((sp a1.toNatClampNeg).2.1.toInt64) + (v_X2_howMany a2 a3)) ((sp a1.toNatClampNeg).2.2.toInt64)).1).2.1, (v_X2_actOnCard (v_X1_put sp 12 ((sp a1.toNatClampNeg).1.toInt64) (((sp a1.toNatClampNeg).2.1.toInt64) + (v_X2_howMany a2 a3)) ((sp a1.toNatClampNeg).2.2.toInt64)).2 re a1.toNatClampNeg (v_X1_put sp 12 ((sp a1.toNatClampNeg).1.toInt64) (((sp a1.toNatClampNeg).2.1.toInt64) + (v_X2_howMany a2 a3)) ((sp a1.toNatClampNeg).2.2.toInt64)).1).2.2)
def x_X2_plusMonths (a1 : Int32) : Option String := xo (x_X2_cardAt a1) none
set_option maxHeartbeats 4000000 in
set_option maxRecDepth 100000 in
theorem c_X2_plusMonths (l : Launch) (hfl : l.stackTraces = false) (g : GG) (N : Nat) (ad : Nat → Nat) (x : Nat → va_E) (sp dy : Nat → TR) (la kn re : Int32) (hN : 23 ≤ N) (a1 : Int32) (a2 : Int32) (a3 : Int32) : XI l yX2_plusMonths cX2_plusMonths 7 (some .int) (rm 2 1 6) g [.ref (ad 0), .int a1, .int a2, .int a3] N ad (cf g ad x sp dy la kn re) N (fun E => x_X2_plusMonths a1 = some E) (fun r ad' f' => ad = ad' ∧ x_X2_plusMonths a1 = none ∧ (v_X2_plusMonths sp re a1 a2 a3).1 = r ∧ (cf g ad x (v_X2_plusMonths sp re a1 a2 a3).2.1 dy la kn (v_X2_plusMonths sp re a1 a2 a3).2.2) = f') := by
  intro sz
  refine mx_start (by decide) (Nat.le_of_ble_eq_true rfl) ?_
  intro p e s m args below meth c hsz X hr hex hA hK hT H locs B ls hl
  obtain ⟨hx, hb, hml, hown, hts, hlocks⟩ := id X
  have hl : lv_has ls 7 [(0, .ref (ad 0)), (1, .int a1), (2, .int a2), (3, .int a3)] := hl
  refine lv_aload_n hx hb dX2_plusMonths_0 rfl (lv_at hl 0 rfl) ?_
  refine lv_iload_n hx hb dX2_plusMonths_1 rfl (lv_at hl 1 rfl) ?_
  refine k_xr (k := 1) (n := 6) hex X hsz hA B (ux_V (rest := []) X (c_X2_cardAt l hfl g N ad x sp dy la kn re hN a1 H.size) mw_X2_cardAt md_X2_cardAt rfl lk_X2_37 ⟨Nat.le_of_ble_eq_true rfl, Nat.le_of_ble_eq_true rfl⟩ hA hK hT B (pl_c hN 0 (by decide)) cf_0 rfl rfl hl.1 rfl (Nat.le_of_ble_eq_true rfl) dX2_plusMonths_2 ⟨Nat.le_of_ble_eq_true rfl, Nat.le_of_ble_eq_true rfl⟩) (Nat.le_of_ble_eq_true rfl) (Nat.le_of_ble_eq_true rfl) (Nat.le_of_ble_eq_true rfl) (Nat.le_of_ble_eq_true rfl) (fun E hE => by unfold x_X2_plusMonths; rw [xo_some hE]) (fun r ad' f' H locs hw B => ?_)
  obtain ⟨rfl, x1, rfl, rfl⟩ := hw
  refine lv_astore (lv' := [(4, .ref (ad (4 + a1.toNatClampNeg))), (0, .ref (ad 0)), (1, .int a1), (2, .int a2), (3, .int a3)]) hx hb dX2_plusMonths_5 hl (by decide) rfl (fun ls hl => ?_)
  refine lv_iload_n hx hb dX2_plusMonths_7 rfl (lv_at hl 3 rfl) ?_
  refine lv_iload_n hx hb dX2_plusMonths_8 rfl (lv_at hl 4 rfl) ?_
  refine k_l (k := 1) (n := 6) hA B (u_S (rest := []) X (c_X2_howMany l g N ad x sp dy la kn re hN a2 a3 H.size) mw_X2_howMany md_X2_howMany rfl lk_X2_69 ⟨Nat.le_of_ble_eq_true rfl, Nat.le_of_ble_eq_true rfl⟩ hA hK hT B hl.1 rfl (Nat.le_of_ble_eq_true rfl) dX2_plusMonths_9 ⟨Nat.le_of_ble_eq_true rfl, Nat.le_of_ble_eq_true rfl⟩) (Nat.le_of_ble_eq_true rfl) (Nat.le_of_ble_eq_true rfl) (fun r ad' f' H locs hw B => ?_)
  obtain ⟨rfl, rfl, rfl⟩ := hw
  refine lv_lstore (lv' := [(5, .long (v_X2_howMany a2 a3)), (4, .ref (ad (4 + a1.toNatClampNeg))), (0, .ref (ad 0)), (1, .int a1), (2, .int a2), (3, .int a3)]) hx hb dX2_plusMonths_12 hl (by decide) rfl (fun ls hl => ?_)
  refine lv_aload_n hx hb dX2_plusMonths_14 rfl (lv_at hl 2 rfl) ?_
  refine lv_aload hx hb dX2_plusMonths_15 (lv_at hl 1 rfl) ?_
  refine lv_aload_n hx hb dX2_plusMonths_17 rfl (lv_at hl 2 rfl) ?_
  refine g_get (q := 0) (k := 6) X hK B rfl in_X2 (pl_c hN 0 (by decide)) cf_0 (by decide) lk_X2_25 rfl rfl dX2_plusMonths_18 ?_
  refine lv_aload hx hb dX2_plusMonths_21 (lv_at hl 1 rfl) ?_
  refine g_getN (q := (4 + a1.toNatClampNeg)) (k := 0) X hK hT B rfl in_X1 (pl_sp hN (Nat.lt_of_lt_of_le (xl_X2_cardAt x1) (by decide))) (cf_sp (Nat.lt_of_lt_of_le (xl_X2_cardAt x1) (by decide))) (by decide) lk_X2_55 rfl rfl dX2_plusMonths_23 ?_
  refine lv_i2l (v := (sp a1.toNatClampNeg).1.toInt64) hx hb dX2_plusMonths_26 rfl ?_
  refine lv_aload hx hb dX2_plusMonths_27 (lv_at hl 1 rfl) ?_
  refine g_getN (q := (4 + a1.toNatClampNeg)) (k := 1) X hK hT B rfl in_X1 (pl_sp hN (Nat.lt_of_lt_of_le (xl_X2_cardAt x1) (by decide))) (cf_sp (Nat.lt_of_lt_of_le (xl_X2_cardAt x1) (by decide))) (by decide) lk_X2_59 rfl rfl dX2_plusMonths_29 ?_
  refine lv_i2l (v := (sp a1.toNatClampNeg).2.1.toInt64) hx hb dX2_plusMonths_32 rfl ?_
  refine lv_lload hx hb dX2_plusMonths_33 (lv_at hl 0 rfl) ?_
  refine lv_ladd hx hb dX2_plusMonths_35 ?_
  refine lv_aload hx hb dX2_plusMonths_36 (lv_at hl 1 rfl) ?_
  refine g_getN (q := (4 + a1.toNatClampNeg)) (k := 2) X hK hT B rfl in_X1 (pl_sp hN (Nat.lt_of_lt_of_le (xl_X2_cardAt x1) (by decide))) (cf_sp (Nat.lt_of_lt_of_le (xl_X2_cardAt x1) (by decide))) (by decide) lk_X2_62 rfl rfl dX2_plusMonths_38 ?_
  refine lv_i2l (v := (sp a1.toNatClampNeg).2.2.toInt64) hx hb dX2_plusMonths_41 rfl ?_
  refine k_i (k := 1) (n := 6) hA B (u_VN (rest := [.ref (ad (4 + a1.toNatClampNeg)), .ref (ad 0)]) X (c_X1_put l g N ad x sp dy la kn re hN 12 (by decide) ((sp a1.toNatClampNeg).1.toInt64) (((sp a1.toNatClampNeg).2.1.toInt64) + (v_X2_howMany a2 a3)) ((sp a1.toNatClampNeg).2.2.toInt64) H.size) mw_X1_put md_X1_put rfl lk_X2_41 ⟨Nat.le_of_ble_eq_true rfl, Nat.le_of_ble_eq_true rfl⟩ hA hK hT B (pl_sp hN (by decide)) (cf_sp (by decide)) rfl rfl hl.1 rfl (Nat.le_of_ble_eq_true rfl) dX2_plusMonths_42 ⟨Nat.le_of_ble_eq_true rfl, Nat.le_of_ble_eq_true rfl⟩) (Nat.le_of_ble_eq_true rfl) (Nat.le_of_ble_eq_true rfl) (fun r ad' f' H locs hw B => ?_)
  obtain ⟨rfl, rfl, rfl⟩ := hw
  refine k_i (k := 1) (n := 6) hA B (u_V (rest := []) X (c_X2_actOnCard l g N ad x (v_X1_put sp 12 ((sp a1.toNatClampNeg).1.toInt64) (((sp a1.toNatClampNeg).2.1.toInt64) + (v_X2_howMany a2 a3)) ((sp a1.toNatClampNeg).2.2.toInt64)).2 dy la kn re hN a1.toNatClampNeg (Nat.lt_of_lt_of_le (xl_X2_cardAt x1) (by decide)) (v_X1_put sp 12 ((sp a1.toNatClampNeg).1.toInt64) (((sp a1.toNatClampNeg).2.1.toInt64) + (v_X2_howMany a2 a3)) ((sp a1.toNatClampNeg).2.2.toInt64)).1 H.size) mw_X2_actOnCard md_X2_actOnCard rfl lk_X2_45 ⟨Nat.le_of_ble_eq_true rfl, Nat.le_of_ble_eq_true rfl⟩ hA hK hT B (pl_c hN 0 (by decide)) cf_0 rfl rfl hl.1 rfl (Nat.le_of_ble_eq_true rfl) dX2_plusMonths_45 ⟨Nat.le_of_ble_eq_true rfl, Nat.le_of_ble_eq_true rfl⟩) (Nat.le_of_ble_eq_true rfl) (Nat.le_of_ble_eq_true rfl) (fun r ad' f' H locs hw B => ?_)
  obtain ⟨rfl, rfl, rfl⟩ := hw
  have ev := (show v_X2_plusMonths sp re a1 a2 a3 = ((v_X2_actOnCard (v_X1_put sp 12 ((sp a1.toNatClampNeg).1.toInt64) (((sp a1.toNatClampNeg).2.1.toInt64) + (v_X2_howMany a2 a3)) ((sp a1.toNatClampNeg).2.2.toInt64)).2 re a1.toNatClampNeg (v_X1_put sp 12 ((sp a1.toNatClampNeg).1.toInt64) (((sp a1.toNatClampNeg).2.1.toInt64) + (v_X2_howMany a2 a3)) ((sp a1.toNatClampNeg).2.2.toInt64)).1).1, (v_X2_actOnCard (v_X1_put sp 12 ((sp a1.toNatClampNeg).1.toInt64) (((sp a1.toNatClampNeg).2.1.toInt64) + (v_X2_howMany a2 a3)) ((sp a1.toNatClampNeg).2.2.toInt64)).2 re a1.toNatClampNeg (v_X1_put sp 12 ((sp a1.toNatClampNeg).1.toInt64) (((sp a1.toNatClampNeg).2.1.toInt64) + (v_X2_howMany a2 a3)) ((sp a1.toNatClampNeg).2.2.toInt64)).1).2.1, (v_X2_actOnCard (v_X1_put sp 12 ((sp a1.toNatClampNeg).1.toInt64) (((sp a1.toNatClampNeg).2.1.toInt64) + (v_X2_howMany a2 a3)) ((sp a1.toNatClampNeg).2.2.toInt64)).2 re a1.toNatClampNeg (v_X1_put sp 12 ((sp a1.toNatClampNeg).1.toInt64) (((sp a1.toNatClampNeg).2.1.toInt64) + (v_X2_howMany a2 a3)) ((sp a1.toNatClampNeg).2.2.toInt64)).1).2.2) from rfl)
  exact vx_ret (rt_i X hr (ad, (cf g ad x (v_X2_actOnCard (v_X1_put sp 12 ((sp a1.toNatClampNeg).1.toInt64) (((sp a1.toNatClampNeg).2.1.toInt64) + (v_X2_howMany a2 a3)) ((sp a1.toNatClampNeg).2.2.toInt64)).2 re a1.toNatClampNeg (v_X1_put sp 12 ((sp a1.toNatClampNeg).1.toInt64) (((sp a1.toNatClampNeg).2.1.toInt64) + (v_X2_howMany a2 a3)) ((sp a1.toNatClampNeg).2.2.toInt64)).1).2.1 dy la kn (v_X2_actOnCard (v_X1_put sp 12 ((sp a1.toNatClampNeg).1.toInt64) (((sp a1.toNatClampNeg).2.1.toInt64) + (v_X2_howMany a2 a3)) ((sp a1.toNatClampNeg).2.2.toInt64)).2 re a1.toNatClampNeg (v_X1_put sp 12 ((sp a1.toNatClampNeg).1.toInt64) (((sp a1.toNatClampNeg).2.1.toInt64) + (v_X2_howMany a2 a3)) ((sp a1.toNatClampNeg).2.2.toInt64)).1).2.2)) B (PO_of B) ⟨rfl, by unfold x_X2_plusMonths; rw [xo_none x1], by rw [ev], by rw [ev]⟩ rfl (Nat.le_of_ble_eq_true rfl) (Nat.le_of_ble_eq_true rfl) dX2_plusMonths_48)
def v_X2_plusDays (sp : Nat → TR) (re : Int32) (a1 : Int32) (a2 : Int32) (a3 : Int32) : Int32 × (Nat → TR) × Int32 := ((v_X2_actOnCard (v_X1_put sp 12 ((sp a1.toNatClampNeg).1.toInt64) ((sp a1.toNatClampNeg).2.1.toInt64) (((sp a1.toNatClampNeg).2.2.toInt64) + (v_X2_howMany a2 a3))).2 re a1.toNatClampNeg (v_X1_put sp 12 ((sp a1.toNatClampNeg).1.toInt64) ((sp a1.toNatClampNeg).2.1.toInt64) (((sp a1.toNatClampNeg).2.2.toInt64) + (v_X2_howMany a2 a3))).1).1, (v_X2_actOnCard (v_X1_put sp 12 ((sp a1.toNatClampNeg).1.toInt64) ((sp a1.toNatClampNeg).2.1.toInt64) (((sp a1.toNatClampNeg).2.2.toInt64) + (v_X2_howMany a2 a3))).2 re a1.toNatClampNeg (v_X1_put sp 12 ((sp a1.toNatClampNeg).1.toInt64) ((sp a1.toNatClampNeg).2.1.toInt64) (((sp a1.toNatClampNeg).2.2.toInt64) + (v_X2_howMany a2 a3))).1).2.1, (v_X2_actOnCard (v_X1_put sp 12 ((sp a1.toNatClampNeg).1.toInt64) ((sp a1.toNatClampNeg).2.1.toInt64) (((sp a1.toNatClampNeg).2.2.toInt64) + (v_X2_howMany a2 a3))).2 re a1.toNatClampNeg (v_X1_put sp 12 ((sp a1.toNatClampNeg).1.toInt64) ((sp a1.toNatClampNeg).2.1.toInt64) (((sp a1.toNatClampNeg).2.2.toInt64) + (v_X2_howMany a2 a3))).1).2.2)
def x_X2_plusDays (a1 : Int32) : Option String := xo (x_X2_cardAt a1) none
set_option maxHeartbeats 4000000 in
set_option maxRecDepth 100000 in
theorem c_X2_plusDays (l : Launch) (hfl : l.stackTraces = false) (g : GG) (N : Nat) (ad : Nat → Nat) (x : Nat → va_E) (sp dy : Nat → TR) (la kn re : Int32) (hN : 23 ≤ N) (a1 : Int32) (a2 : Int32) (a3 : Int32) : XI l yX2_plusDays cX2_plusDays 7 (some .int) (rm 2 1 6) g [.ref (ad 0), .int a1, .int a2, .int a3] N ad (cf g ad x sp dy la kn re) N (fun E => x_X2_plusDays a1 = some E) (fun r ad' f' => ad = ad' ∧ x_X2_plusDays a1 = none ∧ (v_X2_plusDays sp re a1 a2 a3).1 = r ∧ (cf g ad x (v_X2_plusDays sp re a1 a2 a3).2.1 dy la kn (v_X2_plusDays sp re a1 a2 a3).2.2) = f') := by
  intro sz
  refine mx_start (by decide) (Nat.le_of_ble_eq_true rfl) ?_
  intro p e s m args below meth c hsz X hr hex hA hK hT H locs B ls hl
  obtain ⟨hx, hb, hml, hown, hts, hlocks⟩ := id X
  have hl : lv_has ls 7 [(0, .ref (ad 0)), (1, .int a1), (2, .int a2), (3, .int a3)] := hl
  refine lv_aload_n hx hb dX2_plusDays_0 rfl (lv_at hl 0 rfl) ?_
  refine lv_iload_n hx hb dX2_plusDays_1 rfl (lv_at hl 1 rfl) ?_
  refine k_xr (k := 1) (n := 6) hex X hsz hA B (ux_V (rest := []) X (c_X2_cardAt l hfl g N ad x sp dy la kn re hN a1 H.size) mw_X2_cardAt md_X2_cardAt rfl lk_X2_37 ⟨Nat.le_of_ble_eq_true rfl, Nat.le_of_ble_eq_true rfl⟩ hA hK hT B (pl_c hN 0 (by decide)) cf_0 rfl rfl hl.1 rfl (Nat.le_of_ble_eq_true rfl) dX2_plusDays_2 ⟨Nat.le_of_ble_eq_true rfl, Nat.le_of_ble_eq_true rfl⟩) (Nat.le_of_ble_eq_true rfl) (Nat.le_of_ble_eq_true rfl) (Nat.le_of_ble_eq_true rfl) (Nat.le_of_ble_eq_true rfl) (fun E hE => by unfold x_X2_plusDays; rw [xo_some hE]) (fun r ad' f' H locs hw B => ?_)
  obtain ⟨rfl, x1, rfl, rfl⟩ := hw
  refine lv_astore (lv' := [(4, .ref (ad (4 + a1.toNatClampNeg))), (0, .ref (ad 0)), (1, .int a1), (2, .int a2), (3, .int a3)]) hx hb dX2_plusDays_5 hl (by decide) rfl (fun ls hl => ?_)
  refine lv_iload_n hx hb dX2_plusDays_7 rfl (lv_at hl 3 rfl) ?_
  refine lv_iload_n hx hb dX2_plusDays_8 rfl (lv_at hl 4 rfl) ?_
  refine k_l (k := 1) (n := 6) hA B (u_S (rest := []) X (c_X2_howMany l g N ad x sp dy la kn re hN a2 a3 H.size) mw_X2_howMany md_X2_howMany rfl lk_X2_69 ⟨Nat.le_of_ble_eq_true rfl, Nat.le_of_ble_eq_true rfl⟩ hA hK hT B hl.1 rfl (Nat.le_of_ble_eq_true rfl) dX2_plusDays_9 ⟨Nat.le_of_ble_eq_true rfl, Nat.le_of_ble_eq_true rfl⟩) (Nat.le_of_ble_eq_true rfl) (Nat.le_of_ble_eq_true rfl) (fun r ad' f' H locs hw B => ?_)
  obtain ⟨rfl, rfl, rfl⟩ := hw
  refine lv_lstore (lv' := [(5, .long (v_X2_howMany a2 a3)), (4, .ref (ad (4 + a1.toNatClampNeg))), (0, .ref (ad 0)), (1, .int a1), (2, .int a2), (3, .int a3)]) hx hb dX2_plusDays_12 hl (by decide) rfl (fun ls hl => ?_)
  refine lv_aload_n hx hb dX2_plusDays_14 rfl (lv_at hl 2 rfl) ?_
  refine lv_aload hx hb dX2_plusDays_15 (lv_at hl 1 rfl) ?_
  refine lv_aload_n hx hb dX2_plusDays_17 rfl (lv_at hl 2 rfl) ?_
  refine g_get (q := 0) (k := 6) X hK B rfl in_X2 (pl_c hN 0 (by decide)) cf_0 (by decide) lk_X2_25 rfl rfl dX2_plusDays_18 ?_
  refine lv_aload hx hb dX2_plusDays_21 (lv_at hl 1 rfl) ?_
  refine g_getN (q := (4 + a1.toNatClampNeg)) (k := 0) X hK hT B rfl in_X1 (pl_sp hN (Nat.lt_of_lt_of_le (xl_X2_cardAt x1) (by decide))) (cf_sp (Nat.lt_of_lt_of_le (xl_X2_cardAt x1) (by decide))) (by decide) lk_X2_55 rfl rfl dX2_plusDays_23 ?_
  refine lv_i2l (v := (sp a1.toNatClampNeg).1.toInt64) hx hb dX2_plusDays_26 rfl ?_
  refine lv_aload hx hb dX2_plusDays_27 (lv_at hl 1 rfl) ?_
  refine g_getN (q := (4 + a1.toNatClampNeg)) (k := 1) X hK hT B rfl in_X1 (pl_sp hN (Nat.lt_of_lt_of_le (xl_X2_cardAt x1) (by decide))) (cf_sp (Nat.lt_of_lt_of_le (xl_X2_cardAt x1) (by decide))) (by decide) lk_X2_59 rfl rfl dX2_plusDays_29 ?_
  refine lv_i2l (v := (sp a1.toNatClampNeg).2.1.toInt64) hx hb dX2_plusDays_32 rfl ?_
  refine lv_aload hx hb dX2_plusDays_33 (lv_at hl 1 rfl) ?_
  refine g_getN (q := (4 + a1.toNatClampNeg)) (k := 2) X hK hT B rfl in_X1 (pl_sp hN (Nat.lt_of_lt_of_le (xl_X2_cardAt x1) (by decide))) (cf_sp (Nat.lt_of_lt_of_le (xl_X2_cardAt x1) (by decide))) (by decide) lk_X2_62 rfl rfl dX2_plusDays_35 ?_
  refine lv_i2l (v := (sp a1.toNatClampNeg).2.2.toInt64) hx hb dX2_plusDays_38 rfl ?_
  refine lv_lload hx hb dX2_plusDays_39 (lv_at hl 0 rfl) ?_
  refine lv_ladd hx hb dX2_plusDays_41 ?_
  refine k_i (k := 1) (n := 6) hA B (u_VN (rest := [.ref (ad (4 + a1.toNatClampNeg)), .ref (ad 0)]) X (c_X1_put l g N ad x sp dy la kn re hN 12 (by decide) ((sp a1.toNatClampNeg).1.toInt64) ((sp a1.toNatClampNeg).2.1.toInt64) (((sp a1.toNatClampNeg).2.2.toInt64) + (v_X2_howMany a2 a3)) H.size) mw_X1_put md_X1_put rfl lk_X2_41 ⟨Nat.le_of_ble_eq_true rfl, Nat.le_of_ble_eq_true rfl⟩ hA hK hT B (pl_sp hN (by decide)) (cf_sp (by decide)) rfl rfl hl.1 rfl (Nat.le_of_ble_eq_true rfl) dX2_plusDays_42 ⟨Nat.le_of_ble_eq_true rfl, Nat.le_of_ble_eq_true rfl⟩) (Nat.le_of_ble_eq_true rfl) (Nat.le_of_ble_eq_true rfl) (fun r ad' f' H locs hw B => ?_)
  obtain ⟨rfl, rfl, rfl⟩ := hw
  refine k_i (k := 1) (n := 6) hA B (u_V (rest := []) X (c_X2_actOnCard l g N ad x (v_X1_put sp 12 ((sp a1.toNatClampNeg).1.toInt64) ((sp a1.toNatClampNeg).2.1.toInt64) (((sp a1.toNatClampNeg).2.2.toInt64) + (v_X2_howMany a2 a3))).2 dy la kn re hN a1.toNatClampNeg (Nat.lt_of_lt_of_le (xl_X2_cardAt x1) (by decide)) (v_X1_put sp 12 ((sp a1.toNatClampNeg).1.toInt64) ((sp a1.toNatClampNeg).2.1.toInt64) (((sp a1.toNatClampNeg).2.2.toInt64) + (v_X2_howMany a2 a3))).1 H.size) mw_X2_actOnCard md_X2_actOnCard rfl lk_X2_45 ⟨Nat.le_of_ble_eq_true rfl, Nat.le_of_ble_eq_true rfl⟩ hA hK hT B (pl_c hN 0 (by decide)) cf_0 rfl rfl hl.1 rfl (Nat.le_of_ble_eq_true rfl) dX2_plusDays_45 ⟨Nat.le_of_ble_eq_true rfl, Nat.le_of_ble_eq_true rfl⟩) (Nat.le_of_ble_eq_true rfl) (Nat.le_of_ble_eq_true rfl) (fun r ad' f' H locs hw B => ?_)
  obtain ⟨rfl, rfl, rfl⟩ := hw
  have ev := (show v_X2_plusDays sp re a1 a2 a3 = ((v_X2_actOnCard (v_X1_put sp 12 ((sp a1.toNatClampNeg).1.toInt64) ((sp a1.toNatClampNeg).2.1.toInt64) (((sp a1.toNatClampNeg).2.2.toInt64) + (v_X2_howMany a2 a3))).2 re a1.toNatClampNeg (v_X1_put sp 12 ((sp a1.toNatClampNeg).1.toInt64) ((sp a1.toNatClampNeg).2.1.toInt64) (((sp a1.toNatClampNeg).2.2.toInt64) + (v_X2_howMany a2 a3))).1).1, (v_X2_actOnCard (v_X1_put sp 12 ((sp a1.toNatClampNeg).1.toInt64) ((sp a1.toNatClampNeg).2.1.toInt64) (((sp a1.toNatClampNeg).2.2.toInt64) + (v_X2_howMany a2 a3))).2 re a1.toNatClampNeg (v_X1_put sp 12 ((sp a1.toNatClampNeg).1.toInt64) ((sp a1.toNatClampNeg).2.1.toInt64) (((sp a1.toNatClampNeg).2.2.toInt64) + (v_X2_howMany a2 a3))).1).2.1, (v_X2_actOnCard (v_X1_put sp 12 ((sp a1.toNatClampNeg).1.toInt64) ((sp a1.toNatClampNeg).2.1.toInt64) (((sp a1.toNatClampNeg).2.2.toInt64) + (v_X2_howMany a2 a3))).2 re a1.toNatClampNeg (v_X1_put sp 12 ((sp a1.toNatClampNeg).1.toInt64) ((sp a1.toNatClampNeg).2.1.toInt64) (((sp a1.toNatClampNeg).2.2.toInt64) + (v_X2_howMany a2 a3))).1).2.2) from rfl)
  exact vx_ret (rt_i X hr (ad, (cf g ad x (v_X2_actOnCard (v_X1_put sp 12 ((sp a1.toNatClampNeg).1.toInt64) ((sp a1.toNatClampNeg).2.1.toInt64) (((sp a1.toNatClampNeg).2.2.toInt64) + (v_X2_howMany a2 a3))).2 re a1.toNatClampNeg (v_X1_put sp 12 ((sp a1.toNatClampNeg).1.toInt64) ((sp a1.toNatClampNeg).2.1.toInt64) (((sp a1.toNatClampNeg).2.2.toInt64) + (v_X2_howMany a2 a3))).1).2.1 dy la kn (v_X2_actOnCard (v_X1_put sp 12 ((sp a1.toNatClampNeg).1.toInt64) ((sp a1.toNatClampNeg).2.1.toInt64) (((sp a1.toNatClampNeg).2.2.toInt64) + (v_X2_howMany a2 a3))).2 re a1.toNatClampNeg (v_X1_put sp 12 ((sp a1.toNatClampNeg).1.toInt64) ((sp a1.toNatClampNeg).2.1.toInt64) (((sp a1.toNatClampNeg).2.2.toInt64) + (v_X2_howMany a2 a3))).1).2.2)) B (PO_of B) ⟨rfl, by unfold x_X2_plusDays; rw [xo_none x1], by rw [ev], by rw [ev]⟩ rfl (Nat.le_of_ble_eq_true rfl) (Nat.le_of_ble_eq_true rfl) dX2_plusDays_48)
def v_X2_minusYears (sp : Nat → TR) (re : Int32) (a1 : Int32) (a2 : Int32) (a3 : Int32) : Int32 × (Nat → TR) × Int32 := ((v_X2_actOnCard (v_X1_put sp 12 (((sp a1.toNatClampNeg).1.toInt64) - (v_X2_howMany a2 a3)) ((sp a1.toNatClampNeg).2.1.toInt64) ((sp a1.toNatClampNeg).2.2.toInt64)).2 re a1.toNatClampNeg (v_X1_put sp 12 (((sp a1.toNatClampNeg).1.toInt64) - (v_X2_howMany a2 a3)) ((sp a1.toNatClampNeg).2.1.toInt64) ((sp a1.toNatClampNeg).2.2.toInt64)).1).1, (v_X2_actOnCard (v_X1_put sp 12 (((sp a1.toNatClampNeg).1.toInt64) - (v_X2_howMany a2 a3)) ((sp a1.toNatClampNeg).2.1.toInt64) ((sp a1.toNatClampNeg).2.2.toInt64)).2 re a1.toNatClampNeg (v_X1_put sp 12 (((sp a1.toNatClampNeg).1.toInt64) - (v_X2_howMany a2 a3)) ((sp a1.toNatClampNeg).2.1.toInt64) ((sp a1.toNatClampNeg).2.2.toInt64)).1).2.1, (v_X2_actOnCard (v_X1_put sp 12 (((sp a1.toNatClampNeg).1.toInt64) - (v_X2_howMany a2 a3)) ((sp a1.toNatClampNeg).2.1.toInt64) ((sp a1.toNatClampNeg).2.2.toInt64)).2 re a1.toNatClampNeg (v_X1_put sp 12 (((sp a1.toNatClampNeg).1.toInt64) - (v_X2_howMany a2 a3)) ((sp a1.toNatClampNeg).2.1.toInt64) ((sp a1.toNatClampNeg).2.2.toInt64)).1).2.2)
def x_X2_minusYears (a1 : Int32) : Option String := xo (x_X2_cardAt a1) none
set_option maxHeartbeats 4000000 in
set_option maxRecDepth 100000 in
theorem c_X2_minusYears (l : Launch) (hfl : l.stackTraces = false) (g : GG) (N : Nat) (ad : Nat → Nat) (x : Nat → va_E) (sp dy : Nat → TR) (la kn re : Int32) (hN : 23 ≤ N) (a1 : Int32) (a2 : Int32) (a3 : Int32) : XI l yX2_minusYears cX2_minusYears 7 (some .int) (rm 2 1 6) g [.ref (ad 0), .int a1, .int a2, .int a3] N ad (cf g ad x sp dy la kn re) N (fun E => x_X2_minusYears a1 = some E) (fun r ad' f' => ad = ad' ∧ x_X2_minusYears a1 = none ∧ (v_X2_minusYears sp re a1 a2 a3).1 = r ∧ (cf g ad x (v_X2_minusYears sp re a1 a2 a3).2.1 dy la kn (v_X2_minusYears sp re a1 a2 a3).2.2) = f') := by
  intro sz
  refine mx_start (by decide) (Nat.le_of_ble_eq_true rfl) ?_
  intro p e s m args below meth c hsz X hr hex hA hK hT H locs B ls hl
  obtain ⟨hx, hb, hml, hown, hts, hlocks⟩ := id X
  have hl : lv_has ls 7 [(0, .ref (ad 0)), (1, .int a1), (2, .int a2), (3, .int a3)] := hl
  refine lv_aload_n hx hb dX2_minusYears_0 rfl (lv_at hl 0 rfl) ?_
  refine lv_iload_n hx hb dX2_minusYears_1 rfl (lv_at hl 1 rfl) ?_
  refine k_xr (k := 1) (n := 6) hex X hsz hA B (ux_V (rest := []) X (c_X2_cardAt l hfl g N ad x sp dy la kn re hN a1 H.size) mw_X2_cardAt md_X2_cardAt rfl lk_X2_37 ⟨Nat.le_of_ble_eq_true rfl, Nat.le_of_ble_eq_true rfl⟩ hA hK hT B (pl_c hN 0 (by decide)) cf_0 rfl rfl hl.1 rfl (Nat.le_of_ble_eq_true rfl) dX2_minusYears_2 ⟨Nat.le_of_ble_eq_true rfl, Nat.le_of_ble_eq_true rfl⟩) (Nat.le_of_ble_eq_true rfl) (Nat.le_of_ble_eq_true rfl) (Nat.le_of_ble_eq_true rfl) (Nat.le_of_ble_eq_true rfl) (fun E hE => by unfold x_X2_minusYears; rw [xo_some hE]) (fun r ad' f' H locs hw B => ?_)
  obtain ⟨rfl, x1, rfl, rfl⟩ := hw
  refine lv_astore (lv' := [(4, .ref (ad (4 + a1.toNatClampNeg))), (0, .ref (ad 0)), (1, .int a1), (2, .int a2), (3, .int a3)]) hx hb dX2_minusYears_5 hl (by decide) rfl (fun ls hl => ?_)
  refine lv_iload_n hx hb dX2_minusYears_7 rfl (lv_at hl 3 rfl) ?_
  refine lv_iload_n hx hb dX2_minusYears_8 rfl (lv_at hl 4 rfl) ?_
  refine k_l (k := 1) (n := 6) hA B (u_S (rest := []) X (c_X2_howMany l g N ad x sp dy la kn re hN a2 a3 H.size) mw_X2_howMany md_X2_howMany rfl lk_X2_69 ⟨Nat.le_of_ble_eq_true rfl, Nat.le_of_ble_eq_true rfl⟩ hA hK hT B hl.1 rfl (Nat.le_of_ble_eq_true rfl) dX2_minusYears_9 ⟨Nat.le_of_ble_eq_true rfl, Nat.le_of_ble_eq_true rfl⟩) (Nat.le_of_ble_eq_true rfl) (Nat.le_of_ble_eq_true rfl) (fun r ad' f' H locs hw B => ?_)
  obtain ⟨rfl, rfl, rfl⟩ := hw
  refine lv_lstore (lv' := [(5, .long (v_X2_howMany a2 a3)), (4, .ref (ad (4 + a1.toNatClampNeg))), (0, .ref (ad 0)), (1, .int a1), (2, .int a2), (3, .int a3)]) hx hb dX2_minusYears_12 hl (by decide) rfl (fun ls hl => ?_)
  refine lv_aload_n hx hb dX2_minusYears_14 rfl (lv_at hl 2 rfl) ?_
  refine lv_aload hx hb dX2_minusYears_15 (lv_at hl 1 rfl) ?_
  refine lv_aload_n hx hb dX2_minusYears_17 rfl (lv_at hl 2 rfl) ?_
  refine g_get (q := 0) (k := 6) X hK B rfl in_X2 (pl_c hN 0 (by decide)) cf_0 (by decide) lk_X2_25 rfl rfl dX2_minusYears_18 ?_
  refine lv_aload hx hb dX2_minusYears_21 (lv_at hl 1 rfl) ?_
  refine g_getN (q := (4 + a1.toNatClampNeg)) (k := 0) X hK hT B rfl in_X1 (pl_sp hN (Nat.lt_of_lt_of_le (xl_X2_cardAt x1) (by decide))) (cf_sp (Nat.lt_of_lt_of_le (xl_X2_cardAt x1) (by decide))) (by decide) lk_X2_55 rfl rfl dX2_minusYears_23 ?_
  refine lv_i2l (v := (sp a1.toNatClampNeg).1.toInt64) hx hb dX2_minusYears_26 rfl ?_
  refine lv_lload hx hb dX2_minusYears_27 (lv_at hl 0 rfl) ?_
  refine lv_lsub hx hb dX2_minusYears_29 ?_
  refine lv_aload hx hb dX2_minusYears_30 (lv_at hl 1 rfl) ?_
  refine g_getN (q := (4 + a1.toNatClampNeg)) (k := 1) X hK hT B rfl in_X1 (pl_sp hN (Nat.lt_of_lt_of_le (xl_X2_cardAt x1) (by decide))) (cf_sp (Nat.lt_of_lt_of_le (xl_X2_cardAt x1) (by decide))) (by decide) lk_X2_59 rfl rfl dX2_minusYears_32 ?_
  refine lv_i2l (v := (sp a1.toNatClampNeg).2.1.toInt64) hx hb dX2_minusYears_35 rfl ?_
  refine lv_aload hx hb dX2_minusYears_36 (lv_at hl 1 rfl) ?_
  refine g_getN (q := (4 + a1.toNatClampNeg)) (k := 2) X hK hT B rfl in_X1 (pl_sp hN (Nat.lt_of_lt_of_le (xl_X2_cardAt x1) (by decide))) (cf_sp (Nat.lt_of_lt_of_le (xl_X2_cardAt x1) (by decide))) (by decide) lk_X2_62 rfl rfl dX2_minusYears_38 ?_
  refine lv_i2l (v := (sp a1.toNatClampNeg).2.2.toInt64) hx hb dX2_minusYears_41 rfl ?_
  refine k_i (k := 1) (n := 6) hA B (u_VN (rest := [.ref (ad (4 + a1.toNatClampNeg)), .ref (ad 0)]) X (c_X1_put l g N ad x sp dy la kn re hN 12 (by decide) (((sp a1.toNatClampNeg).1.toInt64) - (v_X2_howMany a2 a3)) ((sp a1.toNatClampNeg).2.1.toInt64) ((sp a1.toNatClampNeg).2.2.toInt64) H.size) mw_X1_put md_X1_put rfl lk_X2_41 ⟨Nat.le_of_ble_eq_true rfl, Nat.le_of_ble_eq_true rfl⟩ hA hK hT B (pl_sp hN (by decide)) (cf_sp (by decide)) rfl rfl hl.1 rfl (Nat.le_of_ble_eq_true rfl) dX2_minusYears_42 ⟨Nat.le_of_ble_eq_true rfl, Nat.le_of_ble_eq_true rfl⟩) (Nat.le_of_ble_eq_true rfl) (Nat.le_of_ble_eq_true rfl) (fun r ad' f' H locs hw B => ?_)
  obtain ⟨rfl, rfl, rfl⟩ := hw
  refine k_i (k := 1) (n := 6) hA B (u_V (rest := []) X (c_X2_actOnCard l g N ad x (v_X1_put sp 12 (((sp a1.toNatClampNeg).1.toInt64) - (v_X2_howMany a2 a3)) ((sp a1.toNatClampNeg).2.1.toInt64) ((sp a1.toNatClampNeg).2.2.toInt64)).2 dy la kn re hN a1.toNatClampNeg (Nat.lt_of_lt_of_le (xl_X2_cardAt x1) (by decide)) (v_X1_put sp 12 (((sp a1.toNatClampNeg).1.toInt64) - (v_X2_howMany a2 a3)) ((sp a1.toNatClampNeg).2.1.toInt64) ((sp a1.toNatClampNeg).2.2.toInt64)).1 H.size) mw_X2_actOnCard md_X2_actOnCard rfl lk_X2_45 ⟨Nat.le_of_ble_eq_true rfl, Nat.le_of_ble_eq_true rfl⟩ hA hK hT B (pl_c hN 0 (by decide)) cf_0 rfl rfl hl.1 rfl (Nat.le_of_ble_eq_true rfl) dX2_minusYears_45 ⟨Nat.le_of_ble_eq_true rfl, Nat.le_of_ble_eq_true rfl⟩) (Nat.le_of_ble_eq_true rfl) (Nat.le_of_ble_eq_true rfl) (fun r ad' f' H locs hw B => ?_)
  obtain ⟨rfl, rfl, rfl⟩ := hw
  have ev := (show v_X2_minusYears sp re a1 a2 a3 = ((v_X2_actOnCard (v_X1_put sp 12 (((sp a1.toNatClampNeg).1.toInt64) - (v_X2_howMany a2 a3)) ((sp a1.toNatClampNeg).2.1.toInt64) ((sp a1.toNatClampNeg).2.2.toInt64)).2 re a1.toNatClampNeg (v_X1_put sp 12 (((sp a1.toNatClampNeg).1.toInt64) - (v_X2_howMany a2 a3)) ((sp a1.toNatClampNeg).2.1.toInt64) ((sp a1.toNatClampNeg).2.2.toInt64)).1).1, (v_X2_actOnCard (v_X1_put sp 12 (((sp a1.toNatClampNeg).1.toInt64) - (v_X2_howMany a2 a3)) ((sp a1.toNatClampNeg).2.1.toInt64) ((sp a1.toNatClampNeg).2.2.toInt64)).2 re a1.toNatClampNeg (v_X1_put sp 12 (((sp a1.toNatClampNeg).1.toInt64) - (v_X2_howMany a2 a3)) ((sp a1.toNatClampNeg).2.1.toInt64) ((sp a1.toNatClampNeg).2.2.toInt64)).1).2.1, (v_X2_actOnCard (v_X1_put sp 12 (((sp a1.toNatClampNeg).1.toInt64) - (v_X2_howMany a2 a3)) ((sp a1.toNatClampNeg).2.1.toInt64) ((sp a1.toNatClampNeg).2.2.toInt64)).2 re a1.toNatClampNeg (v_X1_put sp 12 (((sp a1.toNatClampNeg).1.toInt64) - (v_X2_howMany a2 a3)) ((sp a1.toNatClampNeg).2.1.toInt64) ((sp a1.toNatClampNeg).2.2.toInt64)).1).2.2) from rfl)
  exact vx_ret (rt_i X hr (ad, (cf g ad x (v_X2_actOnCard (v_X1_put sp 12 (((sp a1.toNatClampNeg).1.toInt64) - (v_X2_howMany a2 a3)) ((sp a1.toNatClampNeg).2.1.toInt64) ((sp a1.toNatClampNeg).2.2.toInt64)).2 re a1.toNatClampNeg (v_X1_put sp 12 (((sp a1.toNatClampNeg).1.toInt64) - (v_X2_howMany a2 a3)) ((sp a1.toNatClampNeg).2.1.toInt64) ((sp a1.toNatClampNeg).2.2.toInt64)).1).2.1 dy la kn (v_X2_actOnCard (v_X1_put sp 12 (((sp a1.toNatClampNeg).1.toInt64) - (v_X2_howMany a2 a3)) ((sp a1.toNatClampNeg).2.1.toInt64) ((sp a1.toNatClampNeg).2.2.toInt64)).2 re a1.toNatClampNeg (v_X1_put sp 12 (((sp a1.toNatClampNeg).1.toInt64) - (v_X2_howMany a2 a3)) ((sp a1.toNatClampNeg).2.1.toInt64) ((sp a1.toNatClampNeg).2.2.toInt64)).1).2.2)) B (PO_of B) ⟨rfl, by unfold x_X2_minusYears; rw [xo_none x1], by rw [ev], by rw [ev]⟩ rfl (Nat.le_of_ble_eq_true rfl) (Nat.le_of_ble_eq_true rfl) dX2_minusYears_48)
def v_X2_minusMonths (sp : Nat → TR) (re : Int32) (a1 : Int32) (a2 : Int32) (a3 : Int32) : Int32 × (Nat → TR) × Int32 := ((v_X2_actOnCard (v_X1_put sp 12 ((sp a1.toNatClampNeg).1.toInt64) (((sp a1.toNatClampNeg).2.1.toInt64) - (v_X2_howMany a2 a3)) ((sp a1.toNatClampNeg).2.2.toInt64)).2 re a1.toNatClampNeg (v_X1_put sp 12 ((sp a1.toNatClampNeg).1.toInt64) (((sp a1.toNatClampNeg).2.1.toInt64) - (v_X2_howMany a2 a3)) ((sp a1.toNatClampNeg).2.2.toInt64)).1).1, (v_X2_actOnCard (v_X1_put sp 12 ((sp a1.toNatClampNeg).1.toInt64) (((sp a1.toNatClampNeg).2.1.toInt64) - (v_X2_howMany a2 a3)) ((sp a1.toNatClampNeg).2.2.toInt64)).2 re a1.toNatClampNeg (v_X1_put sp 12 ((sp a1.toNatClampNeg).1.toInt64) (((sp a1.toNatClampNeg).2.1.toInt64) - (v_X2_howMany a2 a3)) ((sp a1.toNatClampNeg).2.2.toInt64)).1).2.1, (v_X2_actOnCard (v_X1_put sp 12 ((sp a1.toNatClampNeg).1.toInt64) (((sp a1.toNatClampNeg).2.1.toInt64) - (v_X2_howMany a2 a3)) ((sp a1.toNatClampNeg).2.2.toInt64)).2 re a1.toNatClampNeg (v_X1_put sp 12 ((sp a1.toNatClampNeg).1.toInt64) (((sp a1.toNatClampNeg).2.1.toInt64) - (v_X2_howMany a2 a3)) ((sp a1.toNatClampNeg).2.2.toInt64)).1).2.2)
def x_X2_minusMonths (a1 : Int32) : Option String := xo (x_X2_cardAt a1) none
set_option maxHeartbeats 4000000 in
set_option maxRecDepth 100000 in
theorem c_X2_minusMonths (l : Launch) (hfl : l.stackTraces = false) (g : GG) (N : Nat) (ad : Nat → Nat) (x : Nat → va_E) (sp dy : Nat → TR) (la kn re : Int32) (hN : 23 ≤ N) (a1 : Int32) (a2 : Int32) (a3 : Int32) : XI l yX2_minusMonths cX2_minusMonths 7 (some .int) (rm 2 1 6) g [.ref (ad 0), .int a1, .int a2, .int a3] N ad (cf g ad x sp dy la kn re) N (fun E => x_X2_minusMonths a1 = some E) (fun r ad' f' => ad = ad' ∧ x_X2_minusMonths a1 = none ∧ (v_X2_minusMonths sp re a1 a2 a3).1 = r ∧ (cf g ad x (v_X2_minusMonths sp re a1 a2 a3).2.1 dy la kn (v_X2_minusMonths sp re a1 a2 a3).2.2) = f') := by
  intro sz
  refine mx_start (by decide) (Nat.le_of_ble_eq_true rfl) ?_
  intro p e s m args below meth c hsz X hr hex hA hK hT H locs B ls hl
  obtain ⟨hx, hb, hml, hown, hts, hlocks⟩ := id X
  have hl : lv_has ls 7 [(0, .ref (ad 0)), (1, .int a1), (2, .int a2), (3, .int a3)] := hl
  refine lv_aload_n hx hb dX2_minusMonths_0 rfl (lv_at hl 0 rfl) ?_
  refine lv_iload_n hx hb dX2_minusMonths_1 rfl (lv_at hl 1 rfl) ?_
  refine k_xr (k := 1) (n := 6) hex X hsz hA B (ux_V (rest := []) X (c_X2_cardAt l hfl g N ad x sp dy la kn re hN a1 H.size) mw_X2_cardAt md_X2_cardAt rfl lk_X2_37 ⟨Nat.le_of_ble_eq_true rfl, Nat.le_of_ble_eq_true rfl⟩ hA hK hT B (pl_c hN 0 (by decide)) cf_0 rfl rfl hl.1 rfl (Nat.le_of_ble_eq_true rfl) dX2_minusMonths_2 ⟨Nat.le_of_ble_eq_true rfl, Nat.le_of_ble_eq_true rfl⟩) (Nat.le_of_ble_eq_true rfl) (Nat.le_of_ble_eq_true rfl) (Nat.le_of_ble_eq_true rfl) (Nat.le_of_ble_eq_true rfl) (fun E hE => by unfold x_X2_minusMonths; rw [xo_some hE]) (fun r ad' f' H locs hw B => ?_)
  obtain ⟨rfl, x1, rfl, rfl⟩ := hw
  refine lv_astore (lv' := [(4, .ref (ad (4 + a1.toNatClampNeg))), (0, .ref (ad 0)), (1, .int a1), (2, .int a2), (3, .int a3)]) hx hb dX2_minusMonths_5 hl (by decide) rfl (fun ls hl => ?_)
  refine lv_iload_n hx hb dX2_minusMonths_7 rfl (lv_at hl 3 rfl) ?_
  refine lv_iload_n hx hb dX2_minusMonths_8 rfl (lv_at hl 4 rfl) ?_
  refine k_l (k := 1) (n := 6) hA B (u_S (rest := []) X (c_X2_howMany l g N ad x sp dy la kn re hN a2 a3 H.size) mw_X2_howMany md_X2_howMany rfl lk_X2_69 ⟨Nat.le_of_ble_eq_true rfl, Nat.le_of_ble_eq_true rfl⟩ hA hK hT B hl.1 rfl (Nat.le_of_ble_eq_true rfl) dX2_minusMonths_9 ⟨Nat.le_of_ble_eq_true rfl, Nat.le_of_ble_eq_true rfl⟩) (Nat.le_of_ble_eq_true rfl) (Nat.le_of_ble_eq_true rfl) (fun r ad' f' H locs hw B => ?_)
  obtain ⟨rfl, rfl, rfl⟩ := hw
  refine lv_lstore (lv' := [(5, .long (v_X2_howMany a2 a3)), (4, .ref (ad (4 + a1.toNatClampNeg))), (0, .ref (ad 0)), (1, .int a1), (2, .int a2), (3, .int a3)]) hx hb dX2_minusMonths_12 hl (by decide) rfl (fun ls hl => ?_)
  refine lv_aload_n hx hb dX2_minusMonths_14 rfl (lv_at hl 2 rfl) ?_
  refine lv_aload hx hb dX2_minusMonths_15 (lv_at hl 1 rfl) ?_
  refine lv_aload_n hx hb dX2_minusMonths_17 rfl (lv_at hl 2 rfl) ?_
  refine g_get (q := 0) (k := 6) X hK B rfl in_X2 (pl_c hN 0 (by decide)) cf_0 (by decide) lk_X2_25 rfl rfl dX2_minusMonths_18 ?_
  refine lv_aload hx hb dX2_minusMonths_21 (lv_at hl 1 rfl) ?_
  refine g_getN (q := (4 + a1.toNatClampNeg)) (k := 0) X hK hT B rfl in_X1 (pl_sp hN (Nat.lt_of_lt_of_le (xl_X2_cardAt x1) (by decide))) (cf_sp (Nat.lt_of_lt_of_le (xl_X2_cardAt x1) (by decide))) (by decide) lk_X2_55 rfl rfl dX2_minusMonths_23 ?_
  refine lv_i2l (v := (sp a1.toNatClampNeg).1.toInt64) hx hb dX2_minusMonths_26 rfl ?_
  refine lv_aload hx hb dX2_minusMonths_27 (lv_at hl 1 rfl) ?_
  refine g_getN (q := (4 + a1.toNatClampNeg)) (k := 1) X hK hT B rfl in_X1 (pl_sp hN (Nat.lt_of_lt_of_le (xl_X2_cardAt x1) (by decide))) (cf_sp (Nat.lt_of_lt_of_le (xl_X2_cardAt x1) (by decide))) (by decide) lk_X2_59 rfl rfl dX2_minusMonths_29 ?_
  refine lv_i2l (v := (sp a1.toNatClampNeg).2.1.toInt64) hx hb dX2_minusMonths_32 rfl ?_
  refine lv_lload hx hb dX2_minusMonths_33 (lv_at hl 0 rfl) ?_
  refine lv_lsub hx hb dX2_minusMonths_35 ?_
  refine lv_aload hx hb dX2_minusMonths_36 (lv_at hl 1 rfl) ?_
  refine g_getN (q := (4 + a1.toNatClampNeg)) (k := 2) X hK hT B rfl in_X1 (pl_sp hN (Nat.lt_of_lt_of_le (xl_X2_cardAt x1) (by decide))) (cf_sp (Nat.lt_of_lt_of_le (xl_X2_cardAt x1) (by decide))) (by decide) lk_X2_62 rfl rfl dX2_minusMonths_38 ?_
  refine lv_i2l (v := (sp a1.toNatClampNeg).2.2.toInt64) hx hb dX2_minusMonths_41 rfl ?_
  refine k_i (k := 1) (n := 6) hA B (u_VN (rest := [.ref (ad (4 + a1.toNatClampNeg)), .ref (ad 0)]) X (c_X1_put l g N ad x sp dy la kn re hN 12 (by decide) ((sp a1.toNatClampNeg).1.toInt64) (((sp a1.toNatClampNeg).2.1.toInt64) - (v_X2_howMany a2 a3)) ((sp a1.toNatClampNeg).2.2.toInt64) H.size) mw_X1_put md_X1_put rfl lk_X2_41 ⟨Nat.le_of_ble_eq_true rfl, Nat.le_of_ble_eq_true rfl⟩ hA hK hT B (pl_sp hN (by decide)) (cf_sp (by decide)) rfl rfl hl.1 rfl (Nat.le_of_ble_eq_true rfl) dX2_minusMonths_42 ⟨Nat.le_of_ble_eq_true rfl, Nat.le_of_ble_eq_true rfl⟩) (Nat.le_of_ble_eq_true rfl) (Nat.le_of_ble_eq_true rfl) (fun r ad' f' H locs hw B => ?_)
  obtain ⟨rfl, rfl, rfl⟩ := hw
  refine k_i (k := 1) (n := 6) hA B (u_V (rest := []) X (c_X2_actOnCard l g N ad x (v_X1_put sp 12 ((sp a1.toNatClampNeg).1.toInt64) (((sp a1.toNatClampNeg).2.1.toInt64) - (v_X2_howMany a2 a3)) ((sp a1.toNatClampNeg).2.2.toInt64)).2 dy la kn re hN a1.toNatClampNeg (Nat.lt_of_lt_of_le (xl_X2_cardAt x1) (by decide)) (v_X1_put sp 12 ((sp a1.toNatClampNeg).1.toInt64) (((sp a1.toNatClampNeg).2.1.toInt64) - (v_X2_howMany a2 a3)) ((sp a1.toNatClampNeg).2.2.toInt64)).1 H.size) mw_X2_actOnCard md_X2_actOnCard rfl lk_X2_45 ⟨Nat.le_of_ble_eq_true rfl, Nat.le_of_ble_eq_true rfl⟩ hA hK hT B (pl_c hN 0 (by decide)) cf_0 rfl rfl hl.1 rfl (Nat.le_of_ble_eq_true rfl) dX2_minusMonths_45 ⟨Nat.le_of_ble_eq_true rfl, Nat.le_of_ble_eq_true rfl⟩) (Nat.le_of_ble_eq_true rfl) (Nat.le_of_ble_eq_true rfl) (fun r ad' f' H locs hw B => ?_)
  obtain ⟨rfl, rfl, rfl⟩ := hw
  have ev := (show v_X2_minusMonths sp re a1 a2 a3 = ((v_X2_actOnCard (v_X1_put sp 12 ((sp a1.toNatClampNeg).1.toInt64) (((sp a1.toNatClampNeg).2.1.toInt64) - (v_X2_howMany a2 a3)) ((sp a1.toNatClampNeg).2.2.toInt64)).2 re a1.toNatClampNeg (v_X1_put sp 12 ((sp a1.toNatClampNeg).1.toInt64) (((sp a1.toNatClampNeg).2.1.toInt64) - (v_X2_howMany a2 a3)) ((sp a1.toNatClampNeg).2.2.toInt64)).1).1, (v_X2_actOnCard (v_X1_put sp 12 ((sp a1.toNatClampNeg).1.toInt64) (((sp a1.toNatClampNeg).2.1.toInt64) - (v_X2_howMany a2 a3)) ((sp a1.toNatClampNeg).2.2.toInt64)).2 re a1.toNatClampNeg (v_X1_put sp 12 ((sp a1.toNatClampNeg).1.toInt64) (((sp a1.toNatClampNeg).2.1.toInt64) - (v_X2_howMany a2 a3)) ((sp a1.toNatClampNeg).2.2.toInt64)).1).2.1, (v_X2_actOnCard (v_X1_put sp 12 ((sp a1.toNatClampNeg).1.toInt64) (((sp a1.toNatClampNeg).2.1.toInt64) - (v_X2_howMany a2 a3)) ((sp a1.toNatClampNeg).2.2.toInt64)).2 re a1.toNatClampNeg (v_X1_put sp 12 ((sp a1.toNatClampNeg).1.toInt64) (((sp a1.toNatClampNeg).2.1.toInt64) - (v_X2_howMany a2 a3)) ((sp a1.toNatClampNeg).2.2.toInt64)).1).2.2) from rfl)
  exact vx_ret (rt_i X hr (ad, (cf g ad x (v_X2_actOnCard (v_X1_put sp 12 ((sp a1.toNatClampNeg).1.toInt64) (((sp a1.toNatClampNeg).2.1.toInt64) - (v_X2_howMany a2 a3)) ((sp a1.toNatClampNeg).2.2.toInt64)).2 re a1.toNatClampNeg (v_X1_put sp 12 ((sp a1.toNatClampNeg).1.toInt64) (((sp a1.toNatClampNeg).2.1.toInt64) - (v_X2_howMany a2 a3)) ((sp a1.toNatClampNeg).2.2.toInt64)).1).2.1 dy la kn (v_X2_actOnCard (v_X1_put sp 12 ((sp a1.toNatClampNeg).1.toInt64) (((sp a1.toNatClampNeg).2.1.toInt64) - (v_X2_howMany a2 a3)) ((sp a1.toNatClampNeg).2.2.toInt64)).2 re a1.toNatClampNeg (v_X1_put sp 12 ((sp a1.toNatClampNeg).1.toInt64) (((sp a1.toNatClampNeg).2.1.toInt64) - (v_X2_howMany a2 a3)) ((sp a1.toNatClampNeg).2.2.toInt64)).1).2.2)) B (PO_of B) ⟨rfl, by unfold x_X2_minusMonths; rw [xo_none x1], by rw [ev], by rw [ev]⟩ rfl (Nat.le_of_ble_eq_true rfl) (Nat.le_of_ble_eq_true rfl) dX2_minusMonths_48)
def v_X2_minusDays (sp : Nat → TR) (re : Int32) (a1 : Int32) (a2 : Int32) (a3 : Int32) : Int32 × (Nat → TR) × Int32 := ((v_X2_actOnCard (v_X1_put sp 12 ((sp a1.toNatClampNeg).1.toInt64) ((sp a1.toNatClampNeg).2.1.toInt64) (((sp a1.toNatClampNeg).2.2.toInt64) - (v_X2_howMany a2 a3))).2 re a1.toNatClampNeg (v_X1_put sp 12 ((sp a1.toNatClampNeg).1.toInt64) ((sp a1.toNatClampNeg).2.1.toInt64) (((sp a1.toNatClampNeg).2.2.toInt64) - (v_X2_howMany a2 a3))).1).1, (v_X2_actOnCard (v_X1_put sp 12 ((sp a1.toNatClampNeg).1.toInt64) ((sp a1.toNatClampNeg).2.1.toInt64) (((sp a1.toNatClampNeg).2.2.toInt64) - (v_X2_howMany a2 a3))).2 re a1.toNatClampNeg (v_X1_put sp 12 ((sp a1.toNatClampNeg).1.toInt64) ((sp a1.toNatClampNeg).2.1.toInt64) (((sp a1.toNatClampNeg).2.2.toInt64) - (v_X2_howMany a2 a3))).1).2.1, (v_X2_actOnCard (v_X1_put sp 12 ((sp a1.toNatClampNeg).1.toInt64) ((sp a1.toNatClampNeg).2.1.toInt64) (((sp a1.toNatClampNeg).2.2.toInt64) - (v_X2_howMany a2 a3))).2 re a1.toNatClampNeg (v_X1_put sp 12 ((sp a1.toNatClampNeg).1.toInt64) ((sp a1.toNatClampNeg).2.1.toInt64) (((sp a1.toNatClampNeg).2.2.toInt64) - (v_X2_howMany a2 a3))).1).2.2)
def x_X2_minusDays (a1 : Int32) : Option String := xo (x_X2_cardAt a1) none
set_option maxHeartbeats 4000000 in
set_option maxRecDepth 100000 in
theorem c_X2_minusDays (l : Launch) (hfl : l.stackTraces = false) (g : GG) (N : Nat) (ad : Nat → Nat) (x : Nat → va_E) (sp dy : Nat → TR) (la kn re : Int32) (hN : 23 ≤ N) (a1 : Int32) (a2 : Int32) (a3 : Int32) : XI l yX2_minusDays cX2_minusDays 7 (some .int) (rm 2 1 6) g [.ref (ad 0), .int a1, .int a2, .int a3] N ad (cf g ad x sp dy la kn re) N (fun E => x_X2_minusDays a1 = some E) (fun r ad' f' => ad = ad' ∧ x_X2_minusDays a1 = none ∧ (v_X2_minusDays sp re a1 a2 a3).1 = r ∧ (cf g ad x (v_X2_minusDays sp re a1 a2 a3).2.1 dy la kn (v_X2_minusDays sp re a1 a2 a3).2.2) = f') := by
  intro sz
  refine mx_start (by decide) (Nat.le_of_ble_eq_true rfl) ?_
  intro p e s m args below meth c hsz X hr hex hA hK hT H locs B ls hl
  obtain ⟨hx, hb, hml, hown, hts, hlocks⟩ := id X
  have hl : lv_has ls 7 [(0, .ref (ad 0)), (1, .int a1), (2, .int a2), (3, .int a3)] := hl
  refine lv_aload_n hx hb dX2_minusDays_0 rfl (lv_at hl 0 rfl) ?_
  refine lv_iload_n hx hb dX2_minusDays_1 rfl (lv_at hl 1 rfl) ?_
  refine k_xr (k := 1) (n := 6) hex X hsz hA B (ux_V (rest := []) X (c_X2_cardAt l hfl g N ad x sp dy la kn re hN a1 H.size) mw_X2_cardAt md_X2_cardAt rfl lk_X2_37 ⟨Nat.le_of_ble_eq_true rfl, Nat.le_of_ble_eq_true rfl⟩ hA hK hT B (pl_c hN 0 (by decide)) cf_0 rfl rfl hl.1 rfl (Nat.le_of_ble_eq_true rfl) dX2_minusDays_2 ⟨Nat.le_of_ble_eq_true rfl, Nat.le_of_ble_eq_true rfl⟩) (Nat.le_of_ble_eq_true rfl) (Nat.le_of_ble_eq_true rfl) (Nat.le_of_ble_eq_true rfl) (Nat.le_of_ble_eq_true rfl) (fun E hE => by unfold x_X2_minusDays; rw [xo_some hE]) (fun r ad' f' H locs hw B => ?_)
  obtain ⟨rfl, x1, rfl, rfl⟩ := hw
  refine lv_astore (lv' := [(4, .ref (ad (4 + a1.toNatClampNeg))), (0, .ref (ad 0)), (1, .int a1), (2, .int a2), (3, .int a3)]) hx hb dX2_minusDays_5 hl (by decide) rfl (fun ls hl => ?_)
  refine lv_iload_n hx hb dX2_minusDays_7 rfl (lv_at hl 3 rfl) ?_
  refine lv_iload_n hx hb dX2_minusDays_8 rfl (lv_at hl 4 rfl) ?_
  refine k_l (k := 1) (n := 6) hA B (u_S (rest := []) X (c_X2_howMany l g N ad x sp dy la kn re hN a2 a3 H.size) mw_X2_howMany md_X2_howMany rfl lk_X2_69 ⟨Nat.le_of_ble_eq_true rfl, Nat.le_of_ble_eq_true rfl⟩ hA hK hT B hl.1 rfl (Nat.le_of_ble_eq_true rfl) dX2_minusDays_9 ⟨Nat.le_of_ble_eq_true rfl, Nat.le_of_ble_eq_true rfl⟩) (Nat.le_of_ble_eq_true rfl) (Nat.le_of_ble_eq_true rfl) (fun r ad' f' H locs hw B => ?_)
  obtain ⟨rfl, rfl, rfl⟩ := hw
  refine lv_lstore (lv' := [(5, .long (v_X2_howMany a2 a3)), (4, .ref (ad (4 + a1.toNatClampNeg))), (0, .ref (ad 0)), (1, .int a1), (2, .int a2), (3, .int a3)]) hx hb dX2_minusDays_12 hl (by decide) rfl (fun ls hl => ?_)
  refine lv_aload_n hx hb dX2_minusDays_14 rfl (lv_at hl 2 rfl) ?_
  refine lv_aload hx hb dX2_minusDays_15 (lv_at hl 1 rfl) ?_
  refine lv_aload_n hx hb dX2_minusDays_17 rfl (lv_at hl 2 rfl) ?_
  refine g_get (q := 0) (k := 6) X hK B rfl in_X2 (pl_c hN 0 (by decide)) cf_0 (by decide) lk_X2_25 rfl rfl dX2_minusDays_18 ?_
  refine lv_aload hx hb dX2_minusDays_21 (lv_at hl 1 rfl) ?_
  refine g_getN (q := (4 + a1.toNatClampNeg)) (k := 0) X hK hT B rfl in_X1 (pl_sp hN (Nat.lt_of_lt_of_le (xl_X2_cardAt x1) (by decide))) (cf_sp (Nat.lt_of_lt_of_le (xl_X2_cardAt x1) (by decide))) (by decide) lk_X2_55 rfl rfl dX2_minusDays_23 ?_
  refine lv_i2l (v := (sp a1.toNatClampNeg).1.toInt64) hx hb dX2_minusDays_26 rfl ?_
  refine lv_aload hx hb dX2_minusDays_27 (lv_at hl 1 rfl) ?_
  refine g_getN (q := (4 + a1.toNatClampNeg)) (k := 1) X hK hT B rfl in_X1 (pl_sp hN (Nat.lt_of_lt_of_le (xl_X2_cardAt x1) (by decide))) (cf_sp (Nat.lt_of_lt_of_le (xl_X2_cardAt x1) (by decide))) (by decide) lk_X2_59 rfl rfl dX2_minusDays_29 ?_
  refine lv_i2l (v := (sp a1.toNatClampNeg).2.1.toInt64) hx hb dX2_minusDays_32 rfl ?_
  refine lv_aload hx hb dX2_minusDays_33 (lv_at hl 1 rfl) ?_
  refine g_getN (q := (4 + a1.toNatClampNeg)) (k := 2) X hK hT B rfl in_X1 (pl_sp hN (Nat.lt_of_lt_of_le (xl_X2_cardAt x1) (by decide))) (cf_sp (Nat.lt_of_lt_of_le (xl_X2_cardAt x1) (by decide))) (by decide) lk_X2_62 rfl rfl dX2_minusDays_35 ?_
  refine lv_i2l (v := (sp a1.toNatClampNeg).2.2.toInt64) hx hb dX2_minusDays_38 rfl ?_
  refine lv_lload hx hb dX2_minusDays_39 (lv_at hl 0 rfl) ?_
  refine lv_lsub hx hb dX2_minusDays_41 ?_
  refine k_i (k := 1) (n := 6) hA B (u_VN (rest := [.ref (ad (4 + a1.toNatClampNeg)), .ref (ad 0)]) X (c_X1_put l g N ad x sp dy la kn re hN 12 (by decide) ((sp a1.toNatClampNeg).1.toInt64) ((sp a1.toNatClampNeg).2.1.toInt64) (((sp a1.toNatClampNeg).2.2.toInt64) - (v_X2_howMany a2 a3)) H.size) mw_X1_put md_X1_put rfl lk_X2_41 ⟨Nat.le_of_ble_eq_true rfl, Nat.le_of_ble_eq_true rfl⟩ hA hK hT B (pl_sp hN (by decide)) (cf_sp (by decide)) rfl rfl hl.1 rfl (Nat.le_of_ble_eq_true rfl) dX2_minusDays_42 ⟨Nat.le_of_ble_eq_true rfl, Nat.le_of_ble_eq_true rfl⟩) (Nat.le_of_ble_eq_true rfl) (Nat.le_of_ble_eq_true rfl) (fun r ad' f' H locs hw B => ?_)
  obtain ⟨rfl, rfl, rfl⟩ := hw
  refine k_i (k := 1) (n := 6) hA B (u_V (rest := []) X (c_X2_actOnCard l g N ad x (v_X1_put sp 12 ((sp a1.toNatClampNeg).1.toInt64) ((sp a1.toNatClampNeg).2.1.toInt64) (((sp a1.toNatClampNeg).2.2.toInt64) - (v_X2_howMany a2 a3))).2 dy la kn re hN a1.toNatClampNeg (Nat.lt_of_lt_of_le (xl_X2_cardAt x1) (by decide)) (v_X1_put sp 12 ((sp a1.toNatClampNeg).1.toInt64) ((sp a1.toNatClampNeg).2.1.toInt64) (((sp a1.toNatClampNeg).2.2.toInt64) - (v_X2_howMany a2 a3))).1 H.size) mw_X2_actOnCard md_X2_actOnCard rfl lk_X2_45 ⟨Nat.le_of_ble_eq_true rfl, Nat.le_of_ble_eq_true rfl⟩ hA hK hT B (pl_c hN 0 (by decide)) cf_0 rfl rfl hl.1 rfl (Nat.le_of_ble_eq_true rfl) dX2_minusDays_45 ⟨Nat.le_of_ble_eq_true rfl, Nat.le_of_ble_eq_true rfl⟩) (Nat.le_of_ble_eq_true rfl) (Nat.le_of_ble_eq_true rfl) (fun r ad' f' H locs hw B => ?_)
  obtain ⟨rfl, rfl, rfl⟩ := hw
  have ev := (show v_X2_minusDays sp re a1 a2 a3 = ((v_X2_actOnCard (v_X1_put sp 12 ((sp a1.toNatClampNeg).1.toInt64) ((sp a1.toNatClampNeg).2.1.toInt64) (((sp a1.toNatClampNeg).2.2.toInt64) - (v_X2_howMany a2 a3))).2 re a1.toNatClampNeg (v_X1_put sp 12 ((sp a1.toNatClampNeg).1.toInt64) ((sp a1.toNatClampNeg).2.1.toInt64) (((sp a1.toNatClampNeg).2.2.toInt64) - (v_X2_howMany a2 a3))).1).1, (v_X2_actOnCard (v_X1_put sp 12 ((sp a1.toNatClampNeg).1.toInt64) ((sp a1.toNatClampNeg).2.1.toInt64) (((sp a1.toNatClampNeg).2.2.toInt64) - (v_X2_howMany a2 a3))).2 re a1.toNatClampNeg (v_X1_put sp 12 ((sp a1.toNatClampNeg).1.toInt64) ((sp a1.toNatClampNeg).2.1.toInt64) (((sp a1.toNatClampNeg).2.2.toInt64) - (v_X2_howMany a2 a3))).1).2.1, (v_X2_actOnCard (v_X1_put sp 12 ((sp a1.toNatClampNeg).1.toInt64) ((sp a1.toNatClampNeg).2.1.toInt64) (((sp a1.toNatClampNeg).2.2.toInt64) - (v_X2_howMany a2 a3))).2 re a1.toNatClampNeg (v_X1_put sp 12 ((sp a1.toNatClampNeg).1.toInt64) ((sp a1.toNatClampNeg).2.1.toInt64) (((sp a1.toNatClampNeg).2.2.toInt64) - (v_X2_howMany a2 a3))).1).2.2) from rfl)
  exact vx_ret (rt_i X hr (ad, (cf g ad x (v_X2_actOnCard (v_X1_put sp 12 ((sp a1.toNatClampNeg).1.toInt64) ((sp a1.toNatClampNeg).2.1.toInt64) (((sp a1.toNatClampNeg).2.2.toInt64) - (v_X2_howMany a2 a3))).2 re a1.toNatClampNeg (v_X1_put sp 12 ((sp a1.toNatClampNeg).1.toInt64) ((sp a1.toNatClampNeg).2.1.toInt64) (((sp a1.toNatClampNeg).2.2.toInt64) - (v_X2_howMany a2 a3))).1).2.1 dy la kn (v_X2_actOnCard (v_X1_put sp 12 ((sp a1.toNatClampNeg).1.toInt64) ((sp a1.toNatClampNeg).2.1.toInt64) (((sp a1.toNatClampNeg).2.2.toInt64) - (v_X2_howMany a2 a3))).2 re a1.toNatClampNeg (v_X1_put sp 12 ((sp a1.toNatClampNeg).1.toInt64) ((sp a1.toNatClampNeg).2.1.toInt64) (((sp a1.toNatClampNeg).2.2.toInt64) - (v_X2_howMany a2 a3))).1).2.2)) B (PO_of B) ⟨rfl, by unfold x_X2_minusDays; rw [xo_none x1], by rw [ev], by rw [ev]⟩ rfl (Nat.le_of_ble_eq_true rfl) (Nat.le_of_ble_eq_true rfl) dX2_minusDays_48)
def v_X2_plus (sp : Nat → TR) (re : Int32) (a1 : Int32) (a2 : Int32) : Int32 × (Nat → TR) × Int32 := ((v_X2_actOnCard (v_X1_putSum sp 12 a1.toNatClampNeg a2.toNatClampNeg).2 re a1.toNatClampNeg (v_X1_putSum sp 12 a1.toNatClampNeg a2.toNatClampNeg).1).1, (v_X2_actOnCard (v_X1_putSum sp 12 a1.toNatClampNeg a2.toNatClampNeg).2 re a1.toNatClampNeg (v_X1_putSum sp 12 a1.toNatClampNeg a2.toNatClampNeg).1).2.1, (v_X2_actOnCard (v_X1_putSum sp 12 a1.toNatClampNeg a2.toNatClampNeg).2 re a1.toNatClampNeg (v_X1_putSum sp 12 a1.toNatClampNeg a2.toNatClampNeg).1).2.2)
def x_X2_plus (a1 : Int32) (a2 : Int32) : Option String := xo (x_X2_cardAt a1) (xo (x_X2_cardAt a2) none)
set_option maxHeartbeats 4000000 in
set_option maxRecDepth 100000 in
theorem c_X2_plus (l : Launch) (hfl : l.stackTraces = false) (g : GG) (N : Nat) (ad : Nat → Nat) (x : Nat → va_E) (sp dy : Nat → TR) (la kn re : Int32) (hN : 23 ≤ N) (a1 : Int32) (a2 : Int32) : XI l yX2_plus cX2_plus 4 (some .int) (rm 3 2 12) g [.ref (ad 0), .int a1, .int a2] N ad (cf g ad x sp dy la kn re) N (fun E => x_X2_plus a1 a2 = some E) (fun r ad' f' => ad = ad' ∧ x_X2_plus a1 a2 = none ∧ (v_X2_plus sp re a1 a2).1 = r ∧ (cf g ad x (v_X2_plus sp re a1 a2).2.1 dy la kn (v_X2_plus sp re a1 a2).2.2) = f') := by
  intro sz
  refine mx_start (by decide) (Nat.le_of_ble_eq_true rfl) ?_
  intro p e s m args below meth c hsz X hr hex hA hK hT H locs B ls hl
  obtain ⟨hx, hb, hml, hown, hts, hlocks⟩ := id X
  have hl : lv_has ls 4 [(0, .ref (ad 0)), (1, .int a1), (2, .int a2)] := hl
  refine lv_aload_n hx hb dX2_plus_0 rfl (lv_at hl 0 rfl) ?_
  refine lv_iload_n hx hb dX2_plus_1 rfl (lv_at hl 1 rfl) ?_
  refine k_xr (k := 1) (n := 6) hex X hsz hA B (ux_V (rest := []) X (c_X2_cardAt l hfl g N ad x sp dy la kn re hN a1 H.size) mw_X2_cardAt md_X2_cardAt rfl lk_X2_37 ⟨Nat.le_of_ble_eq_true rfl, Nat.le_of_ble_eq_true rfl⟩ hA hK hT B (pl_c hN 0 (by decide)) cf_0 rfl rfl hl.1 rfl (Nat.le_of_ble_eq_true rfl) dX2_plus_2 ⟨Nat.le_of_ble_eq_true rfl, Nat.le_of_ble_eq_true rfl⟩) (Nat.le_of_ble_eq_true rfl) (Nat.le_of_ble_eq_true rfl) (Nat.le_of_ble_eq_true rfl) (Nat.le_of_ble_eq_true rfl) (fun E hE => by unfold x_X2_plus; rw [xo_some hE]) (fun r ad' f' H locs hw B => ?_)
  obtain ⟨rfl, x1, rfl, rfl⟩ := hw
  refine lv_astore_n (lv' := [(3, .ref (ad (4 + a1.toNatClampNeg))), (0, .ref (ad 0)), (1, .int a1), (2, .int a2)]) hx hb dX2_plus_5 rfl hl (by decide) rfl (fun ls hl => ?_)
  refine lv_aload_n hx hb dX2_plus_6 rfl (lv_at hl 1 rfl) ?_
  refine lv_aload_n hx hb dX2_plus_7 rfl (lv_at hl 0 rfl) ?_
  refine lv_aload_n hx hb dX2_plus_8 rfl (lv_at hl 1 rfl) ?_
  refine g_get (q := 0) (k := 6) X hK B rfl in_X2 (pl_c hN 0 (by decide)) cf_0 (by decide) lk_X2_25 rfl rfl dX2_plus_9 ?_
  refine lv_aload_n hx hb dX2_plus_12 rfl (lv_at hl 0 rfl) ?_
  refine lv_aload_n hx hb dX2_plus_13 rfl (lv_at hl 1 rfl) ?_
  refine lv_iload_n hx hb dX2_plus_14 rfl (lv_at hl 3 rfl) ?_
  refine k_xr (k := 2) (n := 12) hex X hsz hA B (ux_V (rest := [.ref (ad (4 + a1.toNatClampNeg)), .ref (ad (4 + 12)), .ref (ad (4 + a1.toNatClampNeg)), .ref (ad 0)]) X (c_X2_cardAt l hfl g N ad x sp dy la kn re hN a2 H.size) mw_X2_cardAt md_X2_cardAt rfl lk_X2_37 ⟨Nat.le_of_ble_eq_true rfl, Nat.le_of_ble_eq_true rfl⟩ hA hK hT B (pl_c hN 0 (by decide)) cf_0 rfl rfl hl.1 rfl (Nat.le_of_ble_eq_true rfl) dX2_plus_15 ⟨Nat.le_of_ble_eq_true rfl, Nat.le_of_ble_eq_true rfl⟩) (Nat.le_of_ble_eq_true rfl) (Nat.le_of_ble_eq_true rfl) (Nat.le_of_ble_eq_true rfl) (Nat.le_of_ble_eq_true rfl) (fun E hE => by unfold x_X2_plus; rw [xo_none x1, xo_some hE]) (fun r ad' f' H locs hw B => ?_)
  obtain ⟨rfl, x2, rfl, rfl⟩ := hw
  refine k_i (k := 2) (n := 12) hA B (u_VN (rest := [.ref (ad (4 + a1.toNatClampNeg)), .ref (ad 0)]) X (c_X1_putSum l g N ad x sp dy la kn re hN 12 (by decide) a1.toNatClampNeg (Nat.lt_of_lt_of_le (xl_X2_cardAt x1) (by decide)) a2.toNatClampNeg (Nat.lt_of_lt_of_le (xl_X2_cardAt x2) (by decide)) H.size) mw_X1_putSum md_X1_putSum rfl lk_X2_73 ⟨Nat.le_of_ble_eq_true rfl, Nat.le_of_ble_eq_true rfl⟩ hA hK hT B (pl_sp hN (by decide)) (cf_sp (by decide)) rfl rfl hl.1 rfl (Nat.le_of_ble_eq_true rfl) dX2_plus_18 ⟨Nat.le_of_ble_eq_true rfl, Nat.le_of_ble_eq_true rfl⟩) (Nat.le_of_ble_eq_true rfl) (Nat.le_of_ble_eq_true rfl) (fun r ad' f' H locs hw B => ?_)
  obtain ⟨rfl, rfl, rfl⟩ := hw
  refine k_i (k := 2) (n := 12) hA B (u_V (rest := []) X (c_X2_actOnCard l g N ad x (v_X1_putSum sp 12 a1.toNatClampNeg a2.toNatClampNeg).2 dy la kn re hN a1.toNatClampNeg (Nat.lt_of_lt_of_le (xl_X2_cardAt x1) (by decide)) (v_X1_putSum sp 12 a1.toNatClampNeg a2.toNatClampNeg).1 H.size) mw_X2_actOnCard md_X2_actOnCard rfl lk_X2_45 ⟨Nat.le_of_ble_eq_true rfl, Nat.le_of_ble_eq_true rfl⟩ hA hK hT B (pl_c hN 0 (by decide)) cf_0 rfl rfl hl.1 rfl (Nat.le_of_ble_eq_true rfl) dX2_plus_21 ⟨Nat.le_of_ble_eq_true rfl, Nat.le_of_ble_eq_true rfl⟩) (Nat.le_of_ble_eq_true rfl) (Nat.le_of_ble_eq_true rfl) (fun r ad' f' H locs hw B => ?_)
  obtain ⟨rfl, rfl, rfl⟩ := hw
  have ev := (show v_X2_plus sp re a1 a2 = ((v_X2_actOnCard (v_X1_putSum sp 12 a1.toNatClampNeg a2.toNatClampNeg).2 re a1.toNatClampNeg (v_X1_putSum sp 12 a1.toNatClampNeg a2.toNatClampNeg).1).1, (v_X2_actOnCard (v_X1_putSum sp 12 a1.toNatClampNeg a2.toNatClampNeg).2 re a1.toNatClampNeg (v_X1_putSum sp 12 a1.toNatClampNeg a2.toNatClampNeg).1).2.1, (v_X2_actOnCard (v_X1_putSum sp 12 a1.toNatClampNeg a2.toNatClampNeg).2 re a1.toNatClampNeg (v_X1_putSum sp 12 a1.toNatClampNeg a2.toNatClampNeg).1).2.2) from rfl)
  exact vx_ret (rt_i X hr (ad, (cf g ad x (v_X2_actOnCard (v_X1_putSum sp 12 a1.toNatClampNeg a2.toNatClampNeg).2 re a1.toNatClampNeg (v_X1_putSum sp 12 a1.toNatClampNeg a2.toNatClampNeg).1).2.1 dy la kn (v_X2_actOnCard (v_X1_putSum sp 12 a1.toNatClampNeg a2.toNatClampNeg).2 re a1.toNatClampNeg (v_X1_putSum sp 12 a1.toNatClampNeg a2.toNatClampNeg).1).2.2)) B (PO_of B) ⟨rfl, by unfold x_X2_plus; rw [xo_none x1, xo_none x2], by rw [ev], by rw [ev]⟩ rfl (Nat.le_of_ble_eq_true rfl) (Nat.le_of_ble_eq_true rfl) dX2_plus_24)
def v_X2_minus (sp : Nat → TR) (re : Int32) (a1 : Int32) (a2 : Int32) : Int32 × (Nat → TR) × Int32 := ((v_X2_actOnCard (v_X1_putDifference sp 12 a1.toNatClampNeg a2.toNatClampNeg).2 re a1.toNatClampNeg (v_X1_putDifference sp 12 a1.toNatClampNeg a2.toNatClampNeg).1).1, (v_X2_actOnCard (v_X1_putDifference sp 12 a1.toNatClampNeg a2.toNatClampNeg).2 re a1.toNatClampNeg (v_X1_putDifference sp 12 a1.toNatClampNeg a2.toNatClampNeg).1).2.1, (v_X2_actOnCard (v_X1_putDifference sp 12 a1.toNatClampNeg a2.toNatClampNeg).2 re a1.toNatClampNeg (v_X1_putDifference sp 12 a1.toNatClampNeg a2.toNatClampNeg).1).2.2)
def x_X2_minus (a1 : Int32) (a2 : Int32) : Option String := xo (x_X2_cardAt a1) (xo (x_X2_cardAt a2) none)
set_option maxHeartbeats 4000000 in
set_option maxRecDepth 100000 in
theorem c_X2_minus (l : Launch) (hfl : l.stackTraces = false) (g : GG) (N : Nat) (ad : Nat → Nat) (x : Nat → va_E) (sp dy : Nat → TR) (la kn re : Int32) (hN : 23 ≤ N) (a1 : Int32) (a2 : Int32) : XI l yX2_minus cX2_minus 4 (some .int) (rm 3 2 12) g [.ref (ad 0), .int a1, .int a2] N ad (cf g ad x sp dy la kn re) N (fun E => x_X2_minus a1 a2 = some E) (fun r ad' f' => ad = ad' ∧ x_X2_minus a1 a2 = none ∧ (v_X2_minus sp re a1 a2).1 = r ∧ (cf g ad x (v_X2_minus sp re a1 a2).2.1 dy la kn (v_X2_minus sp re a1 a2).2.2) = f') := by
  intro sz
  refine mx_start (by decide) (Nat.le_of_ble_eq_true rfl) ?_
  intro p e s m args below meth c hsz X hr hex hA hK hT H locs B ls hl
  obtain ⟨hx, hb, hml, hown, hts, hlocks⟩ := id X
  have hl : lv_has ls 4 [(0, .ref (ad 0)), (1, .int a1), (2, .int a2)] := hl
  refine lv_aload_n hx hb dX2_minus_0 rfl (lv_at hl 0 rfl) ?_
  refine lv_iload_n hx hb dX2_minus_1 rfl (lv_at hl 1 rfl) ?_
  refine k_xr (k := 1) (n := 6) hex X hsz hA B (ux_V (rest := []) X (c_X2_cardAt l hfl g N ad x sp dy la kn re hN a1 H.size) mw_X2_cardAt md_X2_cardAt rfl lk_X2_37 ⟨Nat.le_of_ble_eq_true rfl, Nat.le_of_ble_eq_true rfl⟩ hA hK hT B (pl_c hN 0 (by decide)) cf_0 rfl rfl hl.1 rfl (Nat.le_of_ble_eq_true rfl) dX2_minus_2 ⟨Nat.le_of_ble_eq_true rfl, Nat.le_of_ble_eq_true rfl⟩) (Nat.le_of_ble_eq_true rfl) (Nat.le_of_ble_eq_true rfl) (Nat.le_of_ble_eq_true rfl) (Nat.le_of_ble_eq_true rfl) (fun E hE => by unfold x_X2_minus; rw [xo_some hE]) (fun r ad' f' H locs hw B => ?_)
  obtain ⟨rfl, x1, rfl, rfl⟩ := hw
  refine lv_astore_n (lv' := [(3, .ref (ad (4 + a1.toNatClampNeg))), (0, .ref (ad 0)), (1, .int a1), (2, .int a2)]) hx hb dX2_minus_5 rfl hl (by decide) rfl (fun ls hl => ?_)
  refine lv_aload_n hx hb dX2_minus_6 rfl (lv_at hl 1 rfl) ?_
  refine lv_aload_n hx hb dX2_minus_7 rfl (lv_at hl 0 rfl) ?_
  refine lv_aload_n hx hb dX2_minus_8 rfl (lv_at hl 1 rfl) ?_
  refine g_get (q := 0) (k := 6) X hK B rfl in_X2 (pl_c hN 0 (by decide)) cf_0 (by decide) lk_X2_25 rfl rfl dX2_minus_9 ?_
  refine lv_aload_n hx hb dX2_minus_12 rfl (lv_at hl 0 rfl) ?_
  refine lv_aload_n hx hb dX2_minus_13 rfl (lv_at hl 1 rfl) ?_
  refine lv_iload_n hx hb dX2_minus_14 rfl (lv_at hl 3 rfl) ?_
  refine k_xr (k := 2) (n := 12) hex X hsz hA B (ux_V (rest := [.ref (ad (4 + a1.toNatClampNeg)), .ref (ad (4 + 12)), .ref (ad (4 + a1.toNatClampNeg)), .ref (ad 0)]) X (c_X2_cardAt l hfl g N ad x sp dy la kn re hN a2 H.size) mw_X2_cardAt md_X2_cardAt rfl lk_X2_37 ⟨Nat.le_of_ble_eq_true rfl, Nat.le_of_ble_eq_true rfl⟩ hA hK hT B (pl_c hN 0 (by decide)) cf_0 rfl rfl hl.1 rfl (Nat.le_of_ble_eq_true rfl) dX2_minus_15 ⟨Nat.le_of_ble_eq_true rfl, Nat.le_of_ble_eq_true rfl⟩) (Nat.le_of_ble_eq_true rfl) (Nat.le_of_ble_eq_true rfl) (Nat.le_of_ble_eq_true rfl) (Nat.le_of_ble_eq_true rfl) (fun E hE => by unfold x_X2_minus; rw [xo_none x1, xo_some hE]) (fun r ad' f' H locs hw B => ?_)
  obtain ⟨rfl, x2, rfl, rfl⟩ := hw
  refine k_i (k := 2) (n := 12) hA B (u_VN (rest := [.ref (ad (4 + a1.toNatClampNeg)), .ref (ad 0)]) X (c_X1_putDifference l g N ad x sp dy la kn re hN 12 (by decide) a1.toNatClampNeg (Nat.lt_of_lt_of_le (xl_X2_cardAt x1) (by decide)) a2.toNatClampNeg (Nat.lt_of_lt_of_le (xl_X2_cardAt x2) (by decide)) H.size) mw_X1_putDifference md_X1_putDifference rfl lk_X2_77 ⟨Nat.le_of_ble_eq_true rfl, Nat.le_of_ble_eq_true rfl⟩ hA hK hT B (pl_sp hN (by decide)) (cf_sp (by decide)) rfl rfl hl.1 rfl (Nat.le_of_ble_eq_true rfl) dX2_minus_18 ⟨Nat.le_of_ble_eq_true rfl, Nat.le_of_ble_eq_true rfl⟩) (Nat.le_of_ble_eq_true rfl) (Nat.le_of_ble_eq_true rfl) (fun r ad' f' H locs hw B => ?_)
  obtain ⟨rfl, rfl, rfl⟩ := hw
  refine k_i (k := 2) (n := 12) hA B (u_V (rest := []) X (c_X2_actOnCard l g N ad x (v_X1_putDifference sp 12 a1.toNatClampNeg a2.toNatClampNeg).2 dy la kn re hN a1.toNatClampNeg (Nat.lt_of_lt_of_le (xl_X2_cardAt x1) (by decide)) (v_X1_putDifference sp 12 a1.toNatClampNeg a2.toNatClampNeg).1 H.size) mw_X2_actOnCard md_X2_actOnCard rfl lk_X2_45 ⟨Nat.le_of_ble_eq_true rfl, Nat.le_of_ble_eq_true rfl⟩ hA hK hT B (pl_c hN 0 (by decide)) cf_0 rfl rfl hl.1 rfl (Nat.le_of_ble_eq_true rfl) dX2_minus_21 ⟨Nat.le_of_ble_eq_true rfl, Nat.le_of_ble_eq_true rfl⟩) (Nat.le_of_ble_eq_true rfl) (Nat.le_of_ble_eq_true rfl) (fun r ad' f' H locs hw B => ?_)
  obtain ⟨rfl, rfl, rfl⟩ := hw
  have ev := (show v_X2_minus sp re a1 a2 = ((v_X2_actOnCard (v_X1_putDifference sp 12 a1.toNatClampNeg a2.toNatClampNeg).2 re a1.toNatClampNeg (v_X1_putDifference sp 12 a1.toNatClampNeg a2.toNatClampNeg).1).1, (v_X2_actOnCard (v_X1_putDifference sp 12 a1.toNatClampNeg a2.toNatClampNeg).2 re a1.toNatClampNeg (v_X1_putDifference sp 12 a1.toNatClampNeg a2.toNatClampNeg).1).2.1, (v_X2_actOnCard (v_X1_putDifference sp 12 a1.toNatClampNeg a2.toNatClampNeg).2 re a1.toNatClampNeg (v_X1_putDifference sp 12 a1.toNatClampNeg a2.toNatClampNeg).1).2.2) from rfl)
  exact vx_ret (rt_i X hr (ad, (cf g ad x (v_X2_actOnCard (v_X1_putDifference sp 12 a1.toNatClampNeg a2.toNatClampNeg).2 re a1.toNatClampNeg (v_X1_putDifference sp 12 a1.toNatClampNeg a2.toNatClampNeg).1).2.1 dy la kn (v_X2_actOnCard (v_X1_putDifference sp 12 a1.toNatClampNeg a2.toNatClampNeg).2 re a1.toNatClampNeg (v_X1_putDifference sp 12 a1.toNatClampNeg a2.toNatClampNeg).1).2.2)) B (PO_of B) ⟨rfl, by unfold x_X2_minus; rw [xo_none x1, xo_none x2], by rw [ev], by rw [ev]⟩ rfl (Nat.le_of_ble_eq_true rfl) (Nat.le_of_ble_eq_true rfl) dX2_minus_24)
def v_X2_multipliedBy (sp : Nat → TR) (re : Int32) (a1 : Int32) (a2 : Int32) : Int32 × (Nat → TR) × Int32 := ((v_X2_actOnCard (v_X1_putTimes sp 12 a1.toNatClampNeg a2.toInt64).2 re a1.toNatClampNeg (v_X1_putTimes sp 12 a1.toNatClampNeg a2.toInt64).1).1, (v_X2_actOnCard (v_X1_putTimes sp 12 a1.toNatClampNeg a2.toInt64).2 re a1.toNatClampNeg (v_X1_putTimes sp 12 a1.toNatClampNeg a2.toInt64).1).2.1, (v_X2_actOnCard (v_X1_putTimes sp 12 a1.toNatClampNeg a2.toInt64).2 re a1.toNatClampNeg (v_X1_putTimes sp 12 a1.toNatClampNeg a2.toInt64).1).2.2)
def x_X2_multipliedBy (a1 : Int32) : Option String := xo (x_X2_cardAt a1) none
set_option maxHeartbeats 4000000 in
set_option maxRecDepth 100000 in
theorem c_X2_multipliedBy (l : Launch) (hfl : l.stackTraces = false) (g : GG) (N : Nat) (ad : Nat → Nat) (x : Nat → va_E) (sp dy : Nat → TR) (la kn re : Int32) (hN : 23 ≤ N) (a1 : Int32) (a2 : Int32) : XI l yX2_multipliedBy cX2_multipliedBy 4 (some .int) (rm 3 1 6) g [.ref (ad 0), .int a1, .int a2] N ad (cf g ad x sp dy la kn re) N (fun E => x_X2_multipliedBy a1 = some E) (fun r ad' f' => ad = ad' ∧ x_X2_multipliedBy a1 = none ∧ (v_X2_multipliedBy sp re a1 a2).1 = r ∧ (cf g ad x (v_X2_multipliedBy sp re a1 a2).2.1 dy la kn (v_X2_multipliedBy sp re a1 a2).2.2) = f') := by
  intro sz
  refine mx_start (by decide) (Nat.le_of_ble_eq_true rfl) ?_
  intro p e s m args below meth c hsz X hr hex hA hK hT H locs B ls hl
  obtain ⟨hx, hb, hml, hown, hts, hlocks⟩ := id X
  have hl : lv_has ls 4 [(0, .ref (ad 0)), (1, .int a1), (2, .int a2)] := hl
  refine lv_aload_n hx hb dX2_multipliedBy_0 rfl (lv_at hl 0 rfl) ?_
  refine lv_iload_n hx hb dX2_multipliedBy_1 rfl (lv_at hl 1 rfl) ?_
  refine k_xr (k := 1) (n := 6) hex X hsz hA B (ux_V (rest := []) X (c_X2_cardAt l hfl g N ad x sp dy la kn re hN a1 H.size) mw_X2_cardAt md_X2_cardAt rfl lk_X2_37 ⟨Nat.le_of_ble_eq_true rfl, Nat.le_of_ble_eq_true rfl⟩ hA hK hT B (pl_c hN 0 (by decide)) cf_0 rfl rfl hl.1 rfl (Nat.le_of_ble_eq_true rfl) dX2_multipliedBy_2 ⟨Nat.le_of_ble_eq_true rfl, Nat.le_of_ble_eq_true rfl⟩) (Nat.le_of_ble_eq_true rfl) (Nat.le_of_ble_eq_true rfl) (Nat.le_of_ble_eq_true rfl) (Nat.le_of_ble_eq_true rfl) (fun E hE => by unfold x_X2_multipliedBy; rw [xo_some hE]) (fun r ad' f' H locs hw B => ?_)
  obtain ⟨rfl, x1, rfl, rfl⟩ := hw
  refine lv_astore_n (lv' := [(3, .ref (ad (4 + a1.toNatClampNeg))), (0, .ref (ad 0)), (1, .int a1), (2, .int a2)]) hx hb dX2_multipliedBy_5 rfl hl (by decide) rfl (fun ls hl => ?_)
  refine lv_aload_n hx hb dX2_multipliedBy_6 rfl (lv_at hl 1 rfl) ?_
  refine lv_aload_n hx hb dX2_multipliedBy_7 rfl (lv_at hl 0 rfl) ?_
  refine lv_aload_n hx hb dX2_multipliedBy_8 rfl (lv_at hl 1 rfl) ?_
  refine g_get (q := 0) (k := 6) X hK B rfl in_X2 (pl_c hN 0 (by decide)) cf_0 (by decide) lk_X2_25 rfl rfl dX2_multipliedBy_9 ?_
  refine lv_aload_n hx hb dX2_multipliedBy_12 rfl (lv_at hl 0 rfl) ?_
  refine lv_iload_n hx hb dX2_multipliedBy_13 rfl (lv_at hl 3 rfl) ?_
  refine lv_i2l (v := a2.toInt64) hx hb dX2_multipliedBy_14 rfl ?_
  refine k_i (k := 1) (n := 6) hA B (u_VN (rest := [.ref (ad (4 + a1.toNatClampNeg)), .ref (ad 0)]) X (c_X1_putTimes l g N ad x sp dy la kn re hN 12 (by decide) a1.toNatClampNeg (Nat.lt_of_lt_of_le (xl_X2_cardAt x1) (by decide)) a2.toInt64 H.size) mw_X1_putTimes md_X1_putTimes rfl lk_X2_80 ⟨Nat.le_of_ble_eq_true rfl, Nat.le_of_ble_eq_true rfl⟩ hA hK hT B (pl_sp hN (by decide)) (cf_sp (by decide)) rfl rfl hl.1 rfl (Nat.le_of_ble_eq_true rfl) dX2_multipliedBy_15 ⟨Nat.le_of_ble_eq_true rfl, Nat.le_of_ble_eq_true rfl⟩) (Nat.le_of_ble_eq_true rfl) (Nat.le_of_ble_eq_true rfl) (fun r ad' f' H locs hw B => ?_)
  obtain ⟨rfl, rfl, rfl⟩ := hw
  refine k_i (k := 1) (n := 6) hA B (u_V (rest := []) X (c_X2_actOnCard l g N ad x (v_X1_putTimes sp 12 a1.toNatClampNeg a2.toInt64).2 dy la kn re hN a1.toNatClampNeg (Nat.lt_of_lt_of_le (xl_X2_cardAt x1) (by decide)) (v_X1_putTimes sp 12 a1.toNatClampNeg a2.toInt64).1 H.size) mw_X2_actOnCard md_X2_actOnCard rfl lk_X2_45 ⟨Nat.le_of_ble_eq_true rfl, Nat.le_of_ble_eq_true rfl⟩ hA hK hT B (pl_c hN 0 (by decide)) cf_0 rfl rfl hl.1 rfl (Nat.le_of_ble_eq_true rfl) dX2_multipliedBy_18 ⟨Nat.le_of_ble_eq_true rfl, Nat.le_of_ble_eq_true rfl⟩) (Nat.le_of_ble_eq_true rfl) (Nat.le_of_ble_eq_true rfl) (fun r ad' f' H locs hw B => ?_)
  obtain ⟨rfl, rfl, rfl⟩ := hw
  have ev := (show v_X2_multipliedBy sp re a1 a2 = ((v_X2_actOnCard (v_X1_putTimes sp 12 a1.toNatClampNeg a2.toInt64).2 re a1.toNatClampNeg (v_X1_putTimes sp 12 a1.toNatClampNeg a2.toInt64).1).1, (v_X2_actOnCard (v_X1_putTimes sp 12 a1.toNatClampNeg a2.toInt64).2 re a1.toNatClampNeg (v_X1_putTimes sp 12 a1.toNatClampNeg a2.toInt64).1).2.1, (v_X2_actOnCard (v_X1_putTimes sp 12 a1.toNatClampNeg a2.toInt64).2 re a1.toNatClampNeg (v_X1_putTimes sp 12 a1.toNatClampNeg a2.toInt64).1).2.2) from rfl)
  exact vx_ret (rt_i X hr (ad, (cf g ad x (v_X2_actOnCard (v_X1_putTimes sp 12 a1.toNatClampNeg a2.toInt64).2 re a1.toNatClampNeg (v_X1_putTimes sp 12 a1.toNatClampNeg a2.toInt64).1).2.1 dy la kn (v_X2_actOnCard (v_X1_putTimes sp 12 a1.toNatClampNeg a2.toInt64).2 re a1.toNatClampNeg (v_X1_putTimes sp 12 a1.toNatClampNeg a2.toInt64).1).2.2)) B (PO_of B) ⟨rfl, by unfold x_X2_multipliedBy; rw [xo_none x1], by rw [ev], by rw [ev]⟩ rfl (Nat.le_of_ble_eq_true rfl) (Nat.le_of_ble_eq_true rfl) dX2_multipliedBy_21)
def v_X2_negated (sp : Nat → TR) (re : Int32) (a1 : Int32) : Int32 × (Nat → TR) × Int32 := ((v_X2_actOnCard (v_X1_putOpposite sp 12 a1.toNatClampNeg).2 re a1.toNatClampNeg (v_X1_putOpposite sp 12 a1.toNatClampNeg).1).1, (v_X2_actOnCard (v_X1_putOpposite sp 12 a1.toNatClampNeg).2 re a1.toNatClampNeg (v_X1_putOpposite sp 12 a1.toNatClampNeg).1).2.1, (v_X2_actOnCard (v_X1_putOpposite sp 12 a1.toNatClampNeg).2 re a1.toNatClampNeg (v_X1_putOpposite sp 12 a1.toNatClampNeg).1).2.2)
def x_X2_negated (a1 : Int32) : Option String := xo (x_X2_cardAt a1) none
set_option maxHeartbeats 4000000 in
set_option maxRecDepth 100000 in
theorem c_X2_negated (l : Launch) (hfl : l.stackTraces = false) (g : GG) (N : Nat) (ad : Nat → Nat) (x : Nat → va_E) (sp dy : Nat → TR) (la kn re : Int32) (hN : 23 ≤ N) (a1 : Int32) : XI l yX2_negated cX2_negated 3 (some .int) (rm 4 1 6) g [.ref (ad 0), .int a1] N ad (cf g ad x sp dy la kn re) N (fun E => x_X2_negated a1 = some E) (fun r ad' f' => ad = ad' ∧ x_X2_negated a1 = none ∧ (v_X2_negated sp re a1).1 = r ∧ (cf g ad x (v_X2_negated sp re a1).2.1 dy la kn (v_X2_negated sp re a1).2.2) = f') := by
  intro sz
  refine mx_start (by decide) (Nat.le_of_ble_eq_true rfl) ?_
  intro p e s m args below meth c hsz X hr hex hA hK hT H locs B ls hl
  obtain ⟨hx, hb, hml, hown, hts, hlocks⟩ := id X
  have hl : lv_has ls 3 [(0, .ref (ad 0)), (1, .int a1)] := hl
  refine lv_aload_n hx hb dX2_negated_0 rfl (lv_at hl 0 rfl) ?_
  refine lv_iload_n hx hb dX2_negated_1 rfl (lv_at hl 1 rfl) ?_
  refine k_xr (k := 1) (n := 6) hex X hsz hA B (ux_V (rest := []) X (c_X2_cardAt l hfl g N ad x sp dy la kn re hN a1 H.size) mw_X2_cardAt md_X2_cardAt rfl lk_X2_37 ⟨Nat.le_of_ble_eq_true rfl, Nat.le_of_ble_eq_true rfl⟩ hA hK hT B (pl_c hN 0 (by decide)) cf_0 rfl rfl hl.1 rfl (Nat.le_of_ble_eq_true rfl) dX2_negated_2 ⟨Nat.le_of_ble_eq_true rfl, Nat.le_of_ble_eq_true rfl⟩) (Nat.le_of_ble_eq_true rfl) (Nat.le_of_ble_eq_true rfl) (Nat.le_of_ble_eq_true rfl) (Nat.le_of_ble_eq_true rfl) (fun E hE => by unfold x_X2_negated; rw [xo_some hE]) (fun r ad' f' H locs hw B => ?_)
  obtain ⟨rfl, x1, rfl, rfl⟩ := hw
  refine lv_astore_n (lv' := [(2, .ref (ad (4 + a1.toNatClampNeg))), (0, .ref (ad 0)), (1, .int a1)]) hx hb dX2_negated_5 rfl hl (by decide) rfl (fun ls hl => ?_)
  refine lv_aload_n hx hb dX2_negated_6 rfl (lv_at hl 1 rfl) ?_
  refine lv_aload_n hx hb dX2_negated_7 rfl (lv_at hl 0 rfl) ?_
  refine lv_aload_n hx hb dX2_negated_8 rfl (lv_at hl 1 rfl) ?_
  refine g_get (q := 0) (k := 6) X hK B rfl in_X2 (pl_c hN 0 (by decide)) cf_0 (by decide) lk_X2_25 rfl rfl dX2_negated_9 ?_
  refine lv_aload_n hx hb dX2_negated_12 rfl (lv_at hl 0 rfl) ?_
  refine k_i (k := 1) (n := 6) hA B (u_VN (rest := [.ref (ad (4 + a1.toNatClampNeg)), .ref (ad 0)]) X (c_X1_putOpposite l g N ad x sp dy la kn re hN 12 (by decide) a1.toNatClampNeg (Nat.lt_of_lt_of_le (xl_X2_cardAt x1) (by decide)) H.size) mw_X1_putOpposite md_X1_putOpposite rfl lk_X2_84 ⟨Nat.le_of_ble_eq_true rfl, Nat.le_of_ble_eq_true rfl⟩ hA hK hT B (pl_sp hN (by decide)) (cf_sp (by decide)) rfl rfl hl.1 rfl (Nat.le_of_ble_eq_true rfl) dX2_negated_13 ⟨Nat.le_of_ble_eq_true rfl, Nat.le_of_ble_eq_true rfl⟩) (Nat.le_of_ble_eq_true rfl) (Nat.le_of_ble_eq_true rfl) (fun r ad' f' H locs hw B => ?_)
  obtain ⟨rfl, rfl, rfl⟩ := hw
  refine k_i (k := 1) (n := 6) hA B (u_V (rest := []) X (c_X2_actOnCard l g N ad x (v_X1_putOpposite sp 12 a1.toNatClampNeg).2 dy la kn re hN a1.toNatClampNeg (Nat.lt_of_lt_of_le (xl_X2_cardAt x1) (by decide)) (v_X1_putOpposite sp 12 a1.toNatClampNeg).1 H.size) mw_X2_actOnCard md_X2_actOnCard rfl lk_X2_45 ⟨Nat.le_of_ble_eq_true rfl, Nat.le_of_ble_eq_true rfl⟩ hA hK hT B (pl_c hN 0 (by decide)) cf_0 rfl rfl hl.1 rfl (Nat.le_of_ble_eq_true rfl) dX2_negated_16 ⟨Nat.le_of_ble_eq_true rfl, Nat.le_of_ble_eq_true rfl⟩) (Nat.le_of_ble_eq_true rfl) (Nat.le_of_ble_eq_true rfl) (fun r ad' f' H locs hw B => ?_)
  obtain ⟨rfl, rfl, rfl⟩ := hw
  have ev := (show v_X2_negated sp re a1 = ((v_X2_actOnCard (v_X1_putOpposite sp 12 a1.toNatClampNeg).2 re a1.toNatClampNeg (v_X1_putOpposite sp 12 a1.toNatClampNeg).1).1, (v_X2_actOnCard (v_X1_putOpposite sp 12 a1.toNatClampNeg).2 re a1.toNatClampNeg (v_X1_putOpposite sp 12 a1.toNatClampNeg).1).2.1, (v_X2_actOnCard (v_X1_putOpposite sp 12 a1.toNatClampNeg).2 re a1.toNatClampNeg (v_X1_putOpposite sp 12 a1.toNatClampNeg).1).2.2) from rfl)
  exact vx_ret (rt_i X hr (ad, (cf g ad x (v_X2_actOnCard (v_X1_putOpposite sp 12 a1.toNatClampNeg).2 re a1.toNatClampNeg (v_X1_putOpposite sp 12 a1.toNatClampNeg).1).2.1 dy la kn (v_X2_actOnCard (v_X1_putOpposite sp 12 a1.toNatClampNeg).2 re a1.toNatClampNeg (v_X1_putOpposite sp 12 a1.toNatClampNeg).1).2.2)) B (PO_of B) ⟨rfl, by unfold x_X2_negated; rw [xo_none x1], by rw [ev], by rw [ev]⟩ rfl (Nat.le_of_ble_eq_true rfl) (Nat.le_of_ble_eq_true rfl) dX2_negated_19)
def v_X2_normalized (sp : Nat → TR) (re : Int32) (a1 : Int32) : Int32 × (Nat → TR) × Int32 := ((v_X2_actOnCard (v_X1_putTidy sp 12 a1.toNatClampNeg).2 re a1.toNatClampNeg (v_X1_putTidy sp 12 a1.toNatClampNeg).1).1, (v_X2_actOnCard (v_X1_putTidy sp 12 a1.toNatClampNeg).2 re a1.toNatClampNeg (v_X1_putTidy sp 12 a1.toNatClampNeg).1).2.1, (v_X2_actOnCard (v_X1_putTidy sp 12 a1.toNatClampNeg).2 re a1.toNatClampNeg (v_X1_putTidy sp 12 a1.toNatClampNeg).1).2.2)
def x_X2_normalized (a1 : Int32) : Option String := xo (x_X2_cardAt a1) none
set_option maxHeartbeats 4000000 in
set_option maxRecDepth 100000 in
theorem c_X2_normalized (l : Launch) (hfl : l.stackTraces = false) (g : GG) (N : Nat) (ad : Nat → Nat) (x : Nat → va_E) (sp dy : Nat → TR) (la kn re : Int32) (hN : 23 ≤ N) (a1 : Int32) : XI l yX2_normalized cX2_normalized 3 (some .int) (rm 3 1 6) g [.ref (ad 0), .int a1] N ad (cf g ad x sp dy la kn re) N (fun E => x_X2_normalized a1 = some E) (fun r ad' f' => ad = ad' ∧ x_X2_normalized a1 = none ∧ (v_X2_normalized sp re a1).1 = r ∧ (cf g ad x (v_X2_normalized sp re a1).2.1 dy la kn (v_X2_normalized sp re a1).2.2) = f') := by
  intro sz
  refine mx_start (by decide) (Nat.le_of_ble_eq_true rfl) ?_
  intro p e s m args below meth c hsz X hr hex hA hK hT H locs B ls hl
  obtain ⟨hx, hb, hml, hown, hts, hlocks⟩ := id X
  have hl : lv_has ls 3 [(0, .ref (ad 0)), (1, .int a1)] := hl
  refine lv_aload_n hx hb dX2_normalized_0 rfl (lv_at hl 0 rfl) ?_
  refine lv_iload_n hx hb dX2_normalized_1 rfl (lv_at hl 1 rfl) ?_
  refine k_xr (k := 1) (n := 6) hex X hsz hA B (ux_V (rest := []) X (c_X2_cardAt l hfl g N ad x sp dy la kn re hN a1 H.size) mw_X2_cardAt md_X2_cardAt rfl lk_X2_37 ⟨Nat.le_of_ble_eq_true rfl, Nat.le_of_ble_eq_true rfl⟩ hA hK hT B (pl_c hN 0 (by decide)) cf_0 rfl rfl hl.1 rfl (Nat.le_of_ble_eq_true rfl) dX2_normalized_2 ⟨Nat.le_of_ble_eq_true rfl, Nat.le_of_ble_eq_true rfl⟩) (Nat.le_of_ble_eq_true rfl) (Nat.le_of_ble_eq_true rfl) (Nat.le_of_ble_eq_true rfl) (Nat.le_of_ble_eq_true rfl) (fun E hE => by unfold x_X2_normalized; rw [xo_some hE]) (fun r ad' f' H locs hw B => ?_)
  obtain ⟨rfl, x1, rfl, rfl⟩ := hw
  refine lv_astore_n (lv' := [(2, .ref (ad (4 + a1.toNatClampNeg))), (0, .ref (ad 0)), (1, .int a1)]) hx hb dX2_normalized_5 rfl hl (by decide) rfl (fun ls hl => ?_)
  refine lv_aload_n hx hb dX2_normalized_6 rfl (lv_at hl 1 rfl) ?_
  refine lv_aload_n hx hb dX2_normalized_7 rfl (lv_at hl 0 rfl) ?_
  refine lv_aload_n hx hb dX2_normalized_8 rfl (lv_at hl 1 rfl) ?_
  refine g_get (q := 0) (k := 6) X hK B rfl in_X2 (pl_c hN 0 (by decide)) cf_0 (by decide) lk_X2_25 rfl rfl dX2_normalized_9 ?_
  refine lv_aload_n hx hb dX2_normalized_12 rfl (lv_at hl 0 rfl) ?_
  refine k_i (k := 1) (n := 6) hA B (u_VN (rest := [.ref (ad (4 + a1.toNatClampNeg)), .ref (ad 0)]) X (c_X1_putTidy l g N ad x sp dy la kn re hN 12 (by decide) a1.toNatClampNeg (Nat.lt_of_lt_of_le (xl_X2_cardAt x1) (by decide)) H.size) mw_X1_putTidy md_X1_putTidy rfl lk_X2_88 ⟨Nat.le_of_ble_eq_true rfl, Nat.le_of_ble_eq_true rfl⟩ hA hK hT B (pl_sp hN (by decide)) (cf_sp (by decide)) rfl rfl hl.1 rfl (Nat.le_of_ble_eq_true rfl) dX2_normalized_13 ⟨Nat.le_of_ble_eq_true rfl, Nat.le_of_ble_eq_true rfl⟩) (Nat.le_of_ble_eq_true rfl) (Nat.le_of_ble_eq_true rfl) (fun r ad' f' H locs hw B => ?_)
  obtain ⟨rfl, rfl, rfl⟩ := hw
  refine k_i (k := 1) (n := 6) hA B (u_V (rest := []) X (c_X2_actOnCard l g N ad x (v_X1_putTidy sp 12 a1.toNatClampNeg).2 dy la kn re hN a1.toNatClampNeg (Nat.lt_of_lt_of_le (xl_X2_cardAt x1) (by decide)) (v_X1_putTidy sp 12 a1.toNatClampNeg).1 H.size) mw_X2_actOnCard md_X2_actOnCard rfl lk_X2_45 ⟨Nat.le_of_ble_eq_true rfl, Nat.le_of_ble_eq_true rfl⟩ hA hK hT B (pl_c hN 0 (by decide)) cf_0 rfl rfl hl.1 rfl (Nat.le_of_ble_eq_true rfl) dX2_normalized_16 ⟨Nat.le_of_ble_eq_true rfl, Nat.le_of_ble_eq_true rfl⟩) (Nat.le_of_ble_eq_true rfl) (Nat.le_of_ble_eq_true rfl) (fun r ad' f' H locs hw B => ?_)
  obtain ⟨rfl, rfl, rfl⟩ := hw
  have ev := (show v_X2_normalized sp re a1 = ((v_X2_actOnCard (v_X1_putTidy sp 12 a1.toNatClampNeg).2 re a1.toNatClampNeg (v_X1_putTidy sp 12 a1.toNatClampNeg).1).1, (v_X2_actOnCard (v_X1_putTidy sp 12 a1.toNatClampNeg).2 re a1.toNatClampNeg (v_X1_putTidy sp 12 a1.toNatClampNeg).1).2.1, (v_X2_actOnCard (v_X1_putTidy sp 12 a1.toNatClampNeg).2 re a1.toNatClampNeg (v_X1_putTidy sp 12 a1.toNatClampNeg).1).2.2) from rfl)
  exact vx_ret (rt_i X hr (ad, (cf g ad x (v_X2_actOnCard (v_X1_putTidy sp 12 a1.toNatClampNeg).2 re a1.toNatClampNeg (v_X1_putTidy sp 12 a1.toNatClampNeg).1).2.1 dy la kn (v_X2_actOnCard (v_X1_putTidy sp 12 a1.toNatClampNeg).2 re a1.toNatClampNeg (v_X1_putTidy sp 12 a1.toNatClampNeg).1).2.2)) B (PO_of B) ⟨rfl, by unfold x_X2_normalized; rw [xo_none x1], by rw [ev], by rw [ev]⟩ rfl (Nat.le_of_ble_eq_true rfl) (Nat.le_of_ble_eq_true rfl) dX2_normalized_19)
def v_X2_lay (sp : Nat → TR) (la : Int32) (re : Int32) (a1 : Int32) : Int32 × (Nat → TR) × Int32 × Int32 := if la < 8 then (la + 1, (v_X1_putSpan sp (4 + la.toNatClampNeg) a1.toNatClampNeg), la + 1, re) else ((v_X2_refuse re).1, sp, la, (v_X2_refuse re).2)
def x_X2_lay (la : Int32) (a1 : Int32) : Option String := xo (x_X2_cardAt a1) (if la < 8 then none else none)
set_option maxHeartbeats 4000000 in
set_option maxRecDepth 100000 in
theorem c_X2_lay (l : Launch) (hfl : l.stackTraces = false) (g : GG) (N : Nat) (ad : Nat → Nat) (x : Nat → va_E) (sp dy : Nat → TR) (la kn re : Int32) (hN : 23 ≤ N) (hla : ¬ la < 0) (hlb : ¬ 8 < la) (a1 : Int32) : XI l yX2_lay cX2_lay 3 (some .int) (rm 2 1 6) g [.ref (ad 0), .int a1] N ad (cf g ad x sp dy la kn re) N (fun E => x_X2_lay la a1 = some E) (fun r ad' f' => ad = ad' ∧ x_X2_lay la a1 = none ∧ (v_X2_lay sp la re a1).1 = r ∧ (cf g ad x (v_X2_lay sp la re a1).2.1 dy (v_X2_lay sp la re a1).2.2.1 kn (v_X2_lay sp la re a1).2.2.2) = f') := by
  intro sz
  refine mx_start (by decide) (Nat.le_of_ble_eq_true rfl) ?_
  intro p e s m args below meth c hsz X hr hex hA hK hT H locs B ls hl
  obtain ⟨hx, hb, hml, hown, hts, hlocks⟩ := id X
  have hl : lv_has ls 3 [(0, .ref (ad 0)), (1, .int a1)] := hl
  refine lv_aload_n hx hb dX2_lay_0 rfl (lv_at hl 0 rfl) ?_
  refine lv_iload_n hx hb dX2_lay_1 rfl (lv_at hl 1 rfl) ?_
  refine k_xr (k := 1) (n := 6) hex X hsz hA B (ux_V (rest := []) X (c_X2_cardAt l hfl g N ad x sp dy la kn re hN a1 H.size) mw_X2_cardAt md_X2_cardAt rfl lk_X2_37 ⟨Nat.le_of_ble_eq_true rfl, Nat.le_of_ble_eq_true rfl⟩ hA hK hT B (pl_c hN 0 (by decide)) cf_0 rfl rfl hl.1 rfl (Nat.le_of_ble_eq_true rfl) dX2_lay_2 ⟨Nat.le_of_ble_eq_true rfl, Nat.le_of_ble_eq_true rfl⟩) (Nat.le_of_ble_eq_true rfl) (Nat.le_of_ble_eq_true rfl) (Nat.le_of_ble_eq_true rfl) (Nat.le_of_ble_eq_true rfl) (fun E hE => by unfold x_X2_lay; rw [xo_some hE]) (fun r ad' f' H locs hw B => ?_)
  obtain ⟨rfl, x1, rfl, rfl⟩ := hw
  refine lv_astore_n (lv' := [(2, .ref (ad (4 + a1.toNatClampNeg))), (0, .ref (ad 0)), (1, .int a1)]) hx hb dX2_lay_5 rfl hl (by decide) rfl (fun ls hl => ?_)
  refine lv_aload_n hx hb dX2_lay_6 rfl (lv_at hl 1 rfl) ?_
  refine g_get (q := 0) (k := 3) X hK B rfl in_X2 (pl_c hN 0 (by decide)) cf_0 (by decide) lk_X2_91 rfl rfl dX2_lay_7 ?_
  refine lv_bipush (v := 8) hx hb dX2_lay_10 (by decide) ?_
  refine lv_icmp_lt (tgt := 20) hx hb dX2_lay_12 (by decide) (fun c2 => ?_) (fun c2 => ?_)
  · refine lv_aload_n hx hb dX2_lay_20 rfl (lv_at hl 1 rfl) ?_
    refine g_get (q := 0) (k := 1) X hK B rfl in_X2 (pl_c hN 0 (by decide)) cf_0 (by decide) lk_X2_15 rfl rfl dX2_lay_21 ?_
    refine lv_aload_n hx hb dX2_lay_24 rfl (lv_at hl 1 rfl) ?_
    refine g_get (q := 0) (k := 3) X hK B rfl in_X2 (pl_c hN 0 (by decide)) cf_0 (by decide) lk_X2_91 rfl rfl dX2_lay_25 ?_
    refine g_aald (q := 2) (t0 := 3) X hK B (pl_c hN 2 (by decide)) cf_2 rfl rfl (ix_in (n := 8) hla (ix_nl c2) rfl) dX2_lay_28 ?_
    have h3 : 4 + la.toNatClampNeg < 14 := by have := (ix_lt (n := 8) hla (ix_nl c2) rfl); omega
    rw [show va_rf (some (ad (8 + la.toNatClampNeg))) = Value.ref (ad (4 + (4 + la.toNatClampNeg))) from by rw [← Nat.add_assoc]; rfl]
    refine lv_aload_n hx hb dX2_lay_29 rfl (lv_at hl 0 rfl) ?_
    refine k_v (k := 1) (n := 6) hA B (u_VN (rest := []) X (c_X1_putSpan l g N ad x sp dy la kn re hN (4 + la.toNatClampNeg) h3 a1.toNatClampNeg (Nat.lt_of_lt_of_le (xl_X2_cardAt x1) (by decide)) H.size) mw_X1_putSpan md_X1_putSpan rfl lk_X2_65 ⟨Nat.le_of_ble_eq_true rfl, Nat.le_of_ble_eq_true rfl⟩ hA hK hT B (pl_sp hN h3) (cf_sp h3) rfl rfl hl.1 rfl (Nat.le_of_ble_eq_true rfl) dX2_lay_30 ⟨Nat.le_of_ble_eq_true rfl, Nat.le_of_ble_eq_true rfl⟩) (Nat.le_of_ble_eq_true rfl) (Nat.le_of_ble_eq_true rfl) (fun ad' f' H locs hw B => ?_)
    obtain ⟨rfl, rfl⟩ := hw
    refine lv_aload_n hx hb dX2_lay_33 rfl (lv_at hl 1 rfl) ?_
    refine lv_dup hx hb dX2_lay_34 rfl ?_
    refine g_get (q := 0) (k := 3) X hK B rfl in_X2 (pl_c hN 0 (by decide)) cf_0 (by decide) lk_X2_91 rfl rfl dX2_lay_35 ?_
    refine lv_iconst (v := 1) hx hb dX2_lay_38 (by decide) ?_
    refine lv_iadd hx hb dX2_lay_39 ?_
    refine g_put (q := 0) (k := 3) X hK B rfl in_X2 tyX2_ok nmX2 (pl_c hN 0 (by decide)) cf_0 (by decide) lk_X2_91 rfl rfl rfl rfl rfl (Nat.le_of_ble_eq_true rfl) dX2_lay_40 (fun H locs B => ?_)
    have B : WB g (aw N ad sz) s.heap N ad (cf g ad x (v_X1_putSpan sp (4 + la.toNatClampNeg) a1.toNatClampNeg) dy (la + 1) kn re) H locs := by rw [← cf_up_mn]; exact B
    refine lv_aload_n hx hb dX2_lay_43 rfl (lv_at hl 1 rfl) ?_
    refine g_get (q := 0) (k := 3) X hK B rfl in_X2 (pl_c hN 0 (by decide)) cf_0 (by decide) lk_X2_91 rfl rfl dX2_lay_44 ?_
    have ev := (show v_X2_lay sp la re a1 = (la + 1, (v_X1_putSpan sp (4 + la.toNatClampNeg) a1.toNatClampNeg), la + 1, re) from by unfold v_X2_lay; rw [if_pos c2])
    exact vx_ret (rt_i X hr (ad, (cf g ad x (v_X1_putSpan sp (4 + la.toNatClampNeg) a1.toNatClampNeg) dy (la + 1) kn re)) B (PO_of B) ⟨rfl, by unfold x_X2_lay; rw [xo_none x1, if_pos c2], by rw [ev], by rw [ev]⟩ rfl (Nat.le_of_ble_eq_true rfl) (Nat.le_of_ble_eq_true rfl) dX2_lay_47)
  · refine lv_aload_n hx hb dX2_lay_15 rfl (lv_at hl 1 rfl) ?_
    refine k_i (k := 1) (n := 6) hA B (u_V (rest := []) X (c_X2_refuse l g N ad x sp dy la kn re hN H.size) mw_X2_refuse md_X2_refuse rfl lk_X2_94 ⟨Nat.le_of_ble_eq_true rfl, Nat.le_of_ble_eq_true rfl⟩ hA hK hT B (pl_c hN 0 (by decide)) cf_0 rfl rfl hl.1 rfl (Nat.le_of_ble_eq_true rfl) dX2_lay_16 ⟨Nat.le_of_ble_eq_true rfl, Nat.le_of_ble_eq_true rfl⟩) (Nat.le_of_ble_eq_true rfl) (Nat.le_of_ble_eq_true rfl) (fun r ad' f' H locs hw B => ?_)
    obtain ⟨rfl, rfl, rfl⟩ := hw
    have ev := (show v_X2_lay sp la re a1 = ((v_X2_refuse re).1, sp, la, (v_X2_refuse re).2) from by unfold v_X2_lay; rw [if_neg c2])
    exact vx_ret (rt_i X hr (ad, (cf g ad x sp dy la kn (v_X2_refuse re).2)) B (PO_of B) ⟨rfl, by unfold x_X2_lay; rw [xo_none x1, if_neg c2], by rw [ev], by rw [ev]⟩ rfl (Nat.le_of_ble_eq_true rfl) (Nat.le_of_ble_eq_true rfl) dX2_lay_19)
def v_X2_take (sp : Nat → TR) (la : Int32) (re : Int32) (a1 : Int32) : Int32 × (Nat → TR) × Int32 × Int32 := if 1 ≤ la then (la - 1, (v_X1_putSpan sp a1.toNatClampNeg (4 + ((la - 1).toNatClampNeg))), la - 1, re) else ((v_X2_refuse re).1, sp, la, (v_X2_refuse re).2)
def x_X2_take (la : Int32) (a1 : Int32) : Option String := xo (x_X2_cardAt a1) (if 1 ≤ la then none else none)
set_option maxHeartbeats 4000000 in
set_option maxRecDepth 100000 in
theorem c_X2_take (l : Launch) (hfl : l.stackTraces = false) (g : GG) (N : Nat) (ad : Nat → Nat) (x : Nat → va_E) (sp dy : Nat → TR) (la kn re : Int32) (hN : 23 ≤ N) (hla : ¬ la < 0) (hlb : ¬ 8 < la) (a1 : Int32) : XI l yX2_take cX2_take 3 (some .int) (rm 2 1 6) g [.ref (ad 0), .int a1] N ad (cf g ad x sp dy la kn re) N (fun E => x_X2_take la a1 = some E) (fun r ad' f' => ad = ad' ∧ x_X2_take la a1 = none ∧ (v_X2_take sp la re a1).1 = r ∧ (cf g ad x (v_X2_take sp la re a1).2.1 dy (v_X2_take sp la re a1).2.2.1 kn (v_X2_take sp la re a1).2.2.2) = f') := by
  intro sz
  refine mx_start (by decide) (Nat.le_of_ble_eq_true rfl) ?_
  intro p e s m args below meth c hsz X hr hex hA hK hT H locs B ls hl
  obtain ⟨hx, hb, hml, hown, hts, hlocks⟩ := id X
  have hl : lv_has ls 3 [(0, .ref (ad 0)), (1, .int a1)] := hl
  refine lv_aload_n hx hb dX2_take_0 rfl (lv_at hl 0 rfl) ?_
  refine lv_iload_n hx hb dX2_take_1 rfl (lv_at hl 1 rfl) ?_
  refine k_xr (k := 1) (n := 6) hex X hsz hA B (ux_V (rest := []) X (c_X2_cardAt l hfl g N ad x sp dy la kn re hN a1 H.size) mw_X2_cardAt md_X2_cardAt rfl lk_X2_37 ⟨Nat.le_of_ble_eq_true rfl, Nat.le_of_ble_eq_true rfl⟩ hA hK hT B (pl_c hN 0 (by decide)) cf_0 rfl rfl hl.1 rfl (Nat.le_of_ble_eq_true rfl) dX2_take_2 ⟨Nat.le_of_ble_eq_true rfl, Nat.le_of_ble_eq_true rfl⟩) (Nat.le_of_ble_eq_true rfl) (Nat.le_of_ble_eq_true rfl) (Nat.le_of_ble_eq_true rfl) (Nat.le_of_ble_eq_true rfl) (fun E hE => by unfold x_X2_take; rw [xo_some hE]) (fun r ad' f' H locs hw B => ?_)
  obtain ⟨rfl, x1, rfl, rfl⟩ := hw
  refine lv_astore_n (lv' := [(2, .ref (ad (4 + a1.toNatClampNeg))), (0, .ref (ad 0)), (1, .int a1)]) hx hb dX2_take_5 rfl hl (by decide) rfl (fun ls hl => ?_)
  refine lv_aload_n hx hb dX2_take_6 rfl (lv_at hl 1 rfl) ?_
  refine g_get (q := 0) (k := 3) X hK B rfl in_X2 (pl_c hN 0 (by decide)) cf_0 (by decide) lk_X2_91 rfl rfl dX2_take_7 ?_
  refine lv_iconst (v := 1) hx hb dX2_take_10 (by decide) ?_
  refine lv_icmp_ge (tgt := 19) hx hb dX2_take_11 (by decide) (fun c2 => ?_) (fun c2 => ?_)
  · refine lv_aload_n hx hb dX2_take_19 rfl (lv_at hl 1 rfl) ?_
    refine lv_dup hx hb dX2_take_20 rfl ?_
    refine g_get (q := 0) (k := 3) X hK B rfl in_X2 (pl_c hN 0 (by decide)) cf_0 (by decide) lk_X2_91 rfl rfl dX2_take_21 ?_
    refine lv_iconst (v := 1) hx hb dX2_take_24 (by decide) ?_
    refine lv_isub hx hb dX2_take_25 ?_
    refine g_put (q := 0) (k := 3) X hK B rfl in_X2 tyX2_ok nmX2 (pl_c hN 0 (by decide)) cf_0 (by decide) lk_X2_91 rfl rfl rfl rfl rfl (Nat.le_of_ble_eq_true rfl) dX2_take_26 (fun H locs B => ?_)
    have B : WB g (aw N ad sz) s.heap N ad (cf g ad x sp dy (la - 1) kn re) H locs := by rw [← cf_up_mn]; exact B
    refine lv_aload_n hx hb dX2_take_29 rfl (lv_at hl 0 rfl) ?_
    refine lv_aload_n hx hb dX2_take_30 rfl (lv_at hl 1 rfl) ?_
    refine g_get (q := 0) (k := 1) X hK B rfl in_X2 (pl_c hN 0 (by decide)) cf_0 (by decide) lk_X2_15 rfl rfl dX2_take_31 ?_
    refine lv_aload_n hx hb dX2_take_34 rfl (lv_at hl 1 rfl) ?_
    refine g_get (q := 0) (k := 3) X hK B rfl in_X2 (pl_c hN 0 (by decide)) cf_0 (by decide) lk_X2_91 rfl rfl dX2_take_35 ?_
    refine g_aald (q := 2) (t0 := 3) X hK B (pl_c hN 2 (by decide)) cf_2 rfl rfl (ix_in (n := 8) (dec_lt c2 hlb).1 (dec_lt c2 hlb).2 rfl) dX2_take_38 ?_
    have h3 : 4 + ((la - 1).toNatClampNeg) < 14 := by have := (ix_lt (n := 8) (dec_lt c2 hlb).1 (dec_lt c2 hlb).2 rfl); omega
    rw [show va_rf (some (ad (8 + ((la - 1).toNatClampNeg)))) = Value.ref (ad (4 + (4 + ((la - 1).toNatClampNeg)))) from by rw [← Nat.add_assoc]; rfl]
    refine k_v (k := 1) (n := 6) hA B (u_VN (rest := []) X (c_X1_putSpan l g N ad x sp dy (la - 1) kn re hN a1.toNatClampNeg (Nat.lt_of_lt_of_le (xl_X2_cardAt x1) (by decide)) (4 + ((la - 1).toNatClampNeg)) h3 H.size) mw_X1_putSpan md_X1_putSpan rfl lk_X2_65 ⟨Nat.le_of_ble_eq_true rfl, Nat.le_of_ble_eq_true rfl⟩ hA hK hT B (pl_sp hN (Nat.lt_of_lt_of_le (xl_X2_cardAt x1) (by decide))) (cf_sp (Nat.lt_of_lt_of_le (xl_X2_cardAt x1) (by decide))) rfl rfl hl.1 rfl (Nat.le_of_ble_eq_true rfl) dX2_take_39 ⟨Nat.le_of_ble_eq_true rfl, Nat.le_of_ble_eq_true rfl⟩) (Nat.le_of_ble_eq_true rfl) (Nat.le_of_ble_eq_true rfl) (fun ad' f' H locs hw B => ?_)
    obtain ⟨rfl, rfl⟩ := hw
    refine lv_aload_n hx hb dX2_take_42 rfl (lv_at hl 1 rfl) ?_
    refine g_get (q := 0) (k := 3) X hK B rfl in_X2 (pl_c hN 0 (by decide)) cf_0 (by decide) lk_X2_91 rfl rfl dX2_take_43 ?_
    have ev := (show v_X2_take sp la re a1 = (la - 1, (v_X1_putSpan sp a1.toNatClampNeg (4 + ((la - 1).toNatClampNeg))), la - 1, re) from by unfold v_X2_take; rw [if_pos c2])
    exact vx_ret (rt_i X hr (ad, (cf g ad x (v_X1_putSpan sp a1.toNatClampNeg (4 + ((la - 1).toNatClampNeg))) dy (la - 1) kn re)) B (PO_of B) ⟨rfl, by unfold x_X2_take; rw [xo_none x1, if_pos c2], by rw [ev], by rw [ev]⟩ rfl (Nat.le_of_ble_eq_true rfl) (Nat.le_of_ble_eq_true rfl) dX2_take_46)
  · refine lv_aload_n hx hb dX2_take_14 rfl (lv_at hl 1 rfl) ?_
    refine k_i (k := 1) (n := 6) hA B (u_V (rest := []) X (c_X2_refuse l g N ad x sp dy la kn re hN H.size) mw_X2_refuse md_X2_refuse rfl lk_X2_94 ⟨Nat.le_of_ble_eq_true rfl, Nat.le_of_ble_eq_true rfl⟩ hA hK hT B (pl_c hN 0 (by decide)) cf_0 rfl rfl hl.1 rfl (Nat.le_of_ble_eq_true rfl) dX2_take_15 ⟨Nat.le_of_ble_eq_true rfl, Nat.le_of_ble_eq_true rfl⟩) (Nat.le_of_ble_eq_true rfl) (Nat.le_of_ble_eq_true rfl) (fun r ad' f' H locs hw B => ?_)
    obtain ⟨rfl, rfl, rfl⟩ := hw
    have ev := (show v_X2_take sp la re a1 = ((v_X2_refuse re).1, sp, la, (v_X2_refuse re).2) from by unfold v_X2_take; rw [if_neg c2])
    exact vx_ret (rt_i X hr (ad, (cf g ad x sp dy la kn (v_X2_refuse re).2)) B (PO_of B) ⟨rfl, by unfold x_X2_take; rw [xo_none x1, if_neg c2], by rw [ev], by rw [ev]⟩ rfl (Nat.le_of_ble_eq_true rfl) (Nat.le_of_ble_eq_true rfl) dX2_take_18)
