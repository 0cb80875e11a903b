def v_X4_stops (a1 : Int32) (a2 : Int32) : Int32 × Int32 := if a1 = 0 then (if a2 = 0 then (0, 0) else (1, 2)) else (1, 1)
theorem b01_X4_stops {a1 : Int32} {a2 : Int32} : (v_X4_stops a1 a2).1 = 0 ∨ (v_X4_stops a1 a2).1 = 1 := by
  unfold v_X4_stops
  by_cases q1 : a1 = 0
  · rw [if_pos q1]
    by_cases q2 : a2 = 0
    · rw [if_pos q2]
      exact Or.inl rfl
    · rw [if_neg q2]
      exact Or.inr rfl
  · rw [if_neg q1]
    exact Or.inr rfl
set_option maxHeartbeats 4000000 in
set_option maxRecDepth 100000 in
theorem c_X4_stops (l : Launch) (g : GG) (N : Nat) (ad : Nat → Nat) (y : Nat → va_E) (cr dr : Nat → TR) (th kn rf : Int32) (pl : Nat → TR) (pz : Nat) (mc : Int32) (hN : 36 + pz ≤ N) (b0 : Nat) (hb0 : ad 24 = b0) (a1 : Int32) (a2 : Int32) : KI l yX4_stops cX4_stops 3 (some .boolean) (rm 0 0 0) g [.ref b0, .int a1, .int a2] N ad (mg g ad y cr dr th kn rf pl pz mc) N (fun r ad' f' => ad = ad' ∧ (v_X4_stops a1 a2).1 = r ∧ mg g ad y cr dr (v_X4_stops a1 a2).2 kn rf pl pz mc = f') := by
  intro sz
  refine mt_start (by decide) (Nat.le_of_ble_eq_true rfl) ?_
  intro p e s m args below meth c hsz X hr hnam hA hK hT H locs B ls hl
  obtain ⟨hx, hb, hml, hown, hts, hlocks⟩ := id X
  have hl : lv_has ls 3 [(0, .ref b0), (1, .int a1), (2, .int a2)] := hl
  refine lv_aload_n hx hb dX4_stops_0 rfl (lv_at hl 0 rfl) ?_
  refine lv_iload_n hx hb dX4_stops_1 rfl (lv_at hl 1 rfl) ?_
  refine lv_if_eq (tgt := 9) hx hb dX4_stops_2 (by decide) (fun c1 => ?_) (fun c1 => ?_)
  · refine lv_iload_n hx hb dX4_stops_9 rfl (lv_at hl 2 rfl) ?_
    refine lv_if_eq (tgt := 17) hx hb dX4_stops_10 (by decide) (fun c2 => ?_) (fun c2 => ?_)
    · refine lv_iconst (v := 0) hx hb dX4_stops_17 (by decide) ?_
      refine b_put (q := 24) (k := 0) hb0 X hK B rfl in_X4 tyX4_ok nmX4 (by omega) mg_24 (by decide) lk_X4_26 rfl rfl rfl rfl rfl (Nat.le_of_ble_eq_true rfl) dX4_stops_18 (fun H locs B => ?_)
      have B : WB g (aw N ad sz) s.heap N ad (mg g ad y cr dr 0 kn rf pl pz mc) H locs := by rw [← mg_up_md]; exact B
      refine lv_aload_n hx hb dX4_stops_21 rfl (lv_at hl 0 rfl) ?_
      refine b_get (q := 24) (k := 0) hb0 X hK B rfl in_X4 (by omega) mg_24 (by decide) lk_X4_26 rfl rfl dX4_stops_22 ?_
      refine lv_if_le (tgt := 32) hx hb dX4_stops_25 (by decide) (fun _ => ?_) (fun z => absurd z (by decide))
      refine lv_iconst (v := 0) hx hb dX4_stops_32 (by decide) ?_
      have ev := (show v_X4_stops a1 a2 = (0, 0) from by unfold v_X4_stops; rw [if_pos c1, if_pos c2])
      exact rt_i X hr (ad, mg g ad y cr dr 0 kn rf pl pz mc) B (PO_of B) ⟨rfl, by rw [ev], by rw [ev]⟩ rfl (Nat.le_of_ble_eq_true rfl) (Nat.le_of_ble_eq_true rfl) dX4_stops_33
    · refine lv_iconst (v := 2) hx hb dX4_stops_13 (by decide) ?_
      refine lv_goto (tgt := 18) hx hb dX4_stops_14 (by decide) ?_
      refine b_put (q := 24) (k := 0) hb0 X hK B rfl in_X4 tyX4_ok nmX4 (by omega) mg_24 (by decide) lk_X4_26 rfl rfl rfl rfl rfl (Nat.le_of_ble_eq_true rfl) dX4_stops_18 (fun H locs B => ?_)
      have B : WB g (aw N ad sz) s.heap N ad (mg g ad y cr dr 2 kn rf pl pz mc) H locs := by rw [← mg_up_md]; exact B
      refine lv_aload_n hx hb dX4_stops_21 rfl (lv_at hl 0 rfl) ?_
      refine b_get (q := 24) (k := 0) hb0 X hK B rfl in_X4 (by omega) mg_24 (by decide) lk_X4_26 rfl rfl dX4_stops_22 ?_
      refine lv_if_le (tgt := 32) hx hb dX4_stops_25 (by decide) (fun z => absurd z (by decide)) (fun _ => ?_)
      refine lv_iconst (v := 1) hx hb dX4_stops_28 (by decide) ?_
      refine lv_goto (tgt := 33) hx hb dX4_stops_29 (by decide) ?_
      have ev := (show v_X4_stops a1 a2 = (1, 2) from by unfold v_X4_stops; rw [if_pos c1, if_neg c2])
      exact rt_i X hr (ad, mg g ad y cr dr 2 kn rf pl pz mc) B (PO_of B) ⟨rfl, by rw [ev], by rw [ev]⟩ rfl (Nat.le_of_ble_eq_true rfl) (Nat.le_of_ble_eq_true rfl) dX4_stops_33
  · refine lv_iconst (v := 1) hx hb dX4_stops_5 (by decide) ?_
    refine lv_goto (tgt := 18) hx hb dX4_stops_6 (by decide) ?_
    refine b_put (q := 24) (k := 0) hb0 X hK B rfl in_X4 tyX4_ok nmX4 (by omega) mg_24 (by decide) lk_X4_26 rfl rfl rfl rfl rfl (Nat.le_of_ble_eq_true rfl) dX4_stops_18 (fun H locs B => ?_)
    have B : WB g (aw N ad sz) s.heap N ad (mg g ad y cr dr 1 kn rf pl pz mc) H locs := by rw [← mg_up_md]; exact B
    refine lv_aload_n hx hb dX4_stops_21 rfl (lv_at hl 0 rfl) ?_
    refine b_get (q := 24) (k := 0) hb0 X hK B rfl in_X4 (by omega) mg_24 (by decide) lk_X4_26 rfl rfl dX4_stops_22 ?_
    refine lv_if_le (tgt := 32) hx hb dX4_stops_25 (by decide) (fun z => absurd z (by decide)) (fun _ => ?_)
    refine lv_iconst (v := 1) hx hb dX4_stops_28 (by decide) ?_
    refine lv_goto (tgt := 33) hx hb dX4_stops_29 (by decide) ?_
    have ev := (show v_X4_stops a1 a2 = (1, 1) from by unfold v_X4_stops; rw [if_neg c1])
    exact rt_i X hr (ad, mg g ad y cr dr 1 kn rf pl pz mc) B (PO_of B) ⟨rfl, by rw [ev], by rw [ev]⟩ rfl (Nat.le_of_ble_eq_true rfl) (Nat.le_of_ble_eq_true rfl) dX4_stops_33
def v_X4_refuse (rf : Int32) : Int32 × Int32 := ((-9), rf + 1)
set_option maxHeartbeats 4000000 in
set_option maxRecDepth 100000 in
theorem c_X4_refuse (l : Launch) (g : GG) (N : Nat) (ad : Nat → Nat) (y : Nat → va_E) (cr dr : Nat → TR) (th kn rf : Int32) (pl : Nat → TR) (pz : Nat) (mc : Int32) (hN : 36 + pz ≤ N) (b0 : Nat) (hb0 : ad 24 = b0) : KI l yX4_refuse cX4_refuse 1 (some .int) (rm 0 0 0) g [.ref b0] N ad (mg g ad y cr dr th kn rf pl pz mc) N (fun r ad' f' => ad = ad' ∧ (v_X4_refuse rf).1 = r ∧ mg g ad y cr dr th kn (v_X4_refuse rf).2 pl pz mc = f') := by
  intro sz
  refine mt_start (by decide) (Nat.le_of_ble_eq_true rfl) ?_
  intro p e s m args below meth c hsz X hr hnam hA hK hT H locs B ls hl
  obtain ⟨hx, hb, hml, hown, hts, hlocks⟩ := id X
  have hl : lv_has ls 1 [(0, .ref b0)] := hl
  refine lv_aload_n hx hb dX4_refuse_0 rfl (lv_at hl 0 rfl) ?_
  refine lv_dup hx hb dX4_refuse_1 rfl ?_
  refine b_get (q := 24) (k := 5) hb0 X hK B rfl in_X4 (by omega) mg_24 (by decide) lk_X4_30 rfl rfl dX4_refuse_2 ?_
  refine lv_iconst (v := 1) hx hb dX4_refuse_5 (by decide) ?_
  refine lv_iadd hx hb dX4_refuse_6 ?_
  refine b_put (q := 24) (k := 5) hb0 X hK B rfl in_X4 tyX4_ok nmX4 (by omega) mg_24 (by decide) lk_X4_30 rfl rfl rfl rfl rfl (Nat.le_of_ble_eq_true rfl) dX4_refuse_7 (fun H locs B => ?_)
  have B : WB g (aw N ad sz) s.heap N ad (mg g ad y cr dr th kn (rf + 1) pl pz mc) H locs := by rw [← mg_up_md]; exact B
  refine lv_bipush (v := (-9)) hx hb dX4_refuse_10 (by decide) ?_
  have ev := (show v_X4_refuse rf = ((-9), rf + 1) from rfl)
  exact rt_i X hr (ad, mg g ad y cr dr th kn (rf + 1) pl pz mc) B (PO_of B) ⟨rfl, by rw [ev], by rw [ev]⟩ rfl (Nat.le_of_ble_eq_true rfl) (Nat.le_of_ble_eq_true rfl) dX4_refuse_12
