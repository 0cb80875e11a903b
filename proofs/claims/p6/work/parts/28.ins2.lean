theorem st_00 : v_X4_stops 0 0 = (0, 0) := by decide
theorem st_01 : v_X4_stops 0 1 = (1, 2) := by decide
theorem st_10 : v_X4_stops 1 0 = (1, 1) := by decide
theorem st_11 : v_X4_stops 1 1 = (1, 1) := by decide
def v_X4_get (cr : Nat → TR) (a1 : Int32) (tj2 : TR) : Int32 × (Nat → TR) := if (v_X4_isSame (cr a1.toNatClampNeg) tj2) = 0 then ((v_X4_one 1), va_up cr a1.toNatClampNeg (tj2.1, tj2.2.1, tj2.2.2)) else ((v_X4_one 0), va_up cr a1.toNatClampNeg (tj2.1, tj2.2.1, tj2.2.2))
set_option maxHeartbeats 4000000 in
set_option maxRecDepth 100000 in
theorem c_X4_get (l : Launch) (g : GG) (N : Nat) (ad : Nat → Nat) (y : Nat → va_E) (cr dr : Nat → TR) (th kn rf : Int32) (pl : Nat → TR) (pz : Nat) (mc : Int32) (hN : 36 + pz ≤ N) (b0 : Nat) (hb0 : ad 24 = b0) (a1 : Int32) (j2 bj2 : Nat) (tj2 : TR) (hj2 : j2 < N) (hbj2 : ad j2 = bj2) (hfj2 : mg g ad y cr dr th kn rf pl pz mc j2 = c_row g tj2) (hza1 : v_X4_isNone a1 = 0) : KI l yX4_get cX4_get 4 (some .int) (rm 1 1 3) g [.ref b0, .int a1, .ref bj2] N ad (mg g ad y cr dr th kn rf pl pz mc) N (fun r ad' f' => (∀ k, k < N → k < 28 ∨ 36 ≤ k → ad' k = ad k) ∧ (v_X4_get cr a1 tj2).1 = r ∧ mg g ad' y (v_X4_get cr a1 tj2).2 dr th kn rf pl pz mc = f') := by
  intro sz
  refine mt_start (by decide) (Nat.le_of_ble_eq_true rfl) ?_
  intro p e s m args below meth c hsz X hr hnam hA hK hT H locs B ls hl
  obtain ⟨hx, hb, hml, hown, hts, hlocks⟩ := id X
  have hl : lv_has ls 4 [(0, .ref b0), (1, .int a1), (2, .ref bj2)] := hl
  refine lv_aload_n hx hb dX4_get_0 rfl (lv_at hl 2 rfl) ?_
  refine lv_ifnonnull (tgt := 9) hx hb dX4_get_1 (by decide) ?_
  refine lv_aload_n hx hb dX4_get_9 rfl (lv_at hl 0 rfl) ?_
  refine b_get (q := 24) (k := 1) hb0 X hK B rfl in_X4 (by omega) mg_24 (by decide) lk_X4_11 rfl rfl dX4_get_10 ?_
  refine lv_iload_n hx hb dX4_get_13 rfl (lv_at hl 1 rfl) ?_
  refine b_aald (q := 25) (t0 := 2) (v := ad (28 + a1.toNatClampNeg)) rfl X hK B (by omega) mg_25 rfl rfl (no_in hza1) rfl dX4_get_14 ?_
  have g1 : a1.toNatClampNeg < 4 := (no_lt hza1)
  refine lv_aload_n hx hb dX4_get_15 rfl (lv_at hl 2 rfl) ?_
  refine k_i (k := 0) (n := 0) hA B (u_S (rest := []) X (c_X4_isSame l g N ad (mg g ad y cr dr th kn rf pl pz mc) (28 + a1.toNatClampNeg) (ad (28 + a1.toNatClampNeg)) (cr a1.toNatClampNeg) (pl_cr hN g1) rfl (mg_cr g1) j2 bj2 tj2 hj2 hbj2 (mg_row hfj2 rfl) H.size) mw_X4_isSame md_X4_isSame rfl lk_X4_87 ⟨Nat.le_of_ble_eq_true rfl, Nat.le_of_ble_eq_true rfl⟩ hA hK hT B hl.1 rfl (Nat.le_of_ble_eq_true rfl) dX4_get_16 ⟨Nat.le_of_ble_eq_true rfl, Nat.le_of_ble_eq_true rfl⟩) (Nat.le_of_ble_eq_true rfl) (Nat.le_of_ble_eq_true rfl) (fun r2 ad2 f' H locs hw B => ?_)
  obtain ⟨rfl, rfl, rfl⟩ := hw
  refine lv_if_ne (tgt := 26) hx hb dX4_get_19 (by decide) (fun c3 => ?_) (fun c3 => ?_)
  · refine lv_iconst (v := 0) hx hb dX4_get_26 (by decide) ?_
    refine k_i (k := 0) (n := 0) hA B (u_S (rest := []) X (c_X4_one l g N ad (mg g ad y cr dr th kn rf pl pz mc) 0 H.size) mw_X4_one md_X4_one rfl lk_X4_91 ⟨Nat.le_of_ble_eq_true rfl, Nat.le_of_ble_eq_true rfl⟩ hA hK hT B hl.1 rfl (Nat.le_of_ble_eq_true rfl) dX4_get_27 ⟨Nat.le_of_ble_eq_true rfl, Nat.le_of_ble_eq_true rfl⟩) (Nat.le_of_ble_eq_true rfl) (Nat.le_of_ble_eq_true rfl) (fun r4 ad4 f' H locs hw B => ?_)
    obtain ⟨rfl, rfl, rfl⟩ := hw
    refine lv_istore_n (lv' := [(3, .int (v_X4_one 0)), (0, .ref b0), (1, .int a1), (2, .ref bj2)]) hx hb dX4_get_30 rfl hl (by decide) rfl (fun ls hl => ?_)
    refine lv_aload_n hx hb dX4_get_31 rfl (lv_at hl 1 rfl) ?_
    refine b_get (q := 24) (k := 1) hb0 X hK B rfl in_X4 (by omega) mg_24 (by decide) lk_X4_11 rfl rfl dX4_get_32 ?_
    refine lv_iload_n hx hb dX4_get_35 rfl (lv_at hl 2 rfl) ?_
    refine lv_iconst (v := 3) hx hb dX4_get_36 (by decide) ?_
    refine h_new3 (cz := 1) (sz := 3) X hA hK B (Nat.le_of_ble_eq_true rfl) (Nat.le_of_ble_eq_true rfl) (Nat.le_of_ble_eq_true rfl) (Nat.le_of_ble_eq_true rfl) dX4_get_37 (fun z5 H B => ?_)
    have B : WB g (aw N ad sz) s.heap (N + 1) (va_up ad N z5) (mg g (va_up ad N z5) (va_up y N (c_row g (0, 0, 0))) cr dr th kn rf pl pz mc) H locs := WM_push (by omega) B
    refine lv_dup hx hb dX4_get_39 rfl ?_
    refine lv_iconst (v := 0) hx hb dX4_get_40 (by decide) ?_
    refine lv_aload_n hx hb dX4_get_41 rfl (lv_at hl 3 rfl) ?_
    refine lv_iconst (v := 0) hx hb dX4_get_42 (by decide) ?_
    refine h_ld0 X hK B (Nat.lt_succ_of_lt hj2) ((up_lt hj2).trans hbj2) (mg_row hfj2 ((up_lt hj2).trans rfl)) dX4_get_43 ?_
    refine h_st (t := (0, 0, 0)) (t' := (tj2.1, 0, 0)) X hK B (Nat.lt_succ_self _) up_eq ((mg_hi (by omega)).trans up_eq) (by unfold vp_in; decide) (rw3_s0 _ _) dX4_get_44 (fun H locs B => ?_)
    rw [mg_yup (by omega), bx_uu] at B
    refine lv_dup hx hb dX4_get_45 rfl ?_
    refine lv_iconst (v := 1) hx hb dX4_get_46 (by decide) ?_
    refine lv_aload_n hx hb dX4_get_47 rfl (lv_at hl 3 rfl) ?_
    refine lv_iconst (v := 1) hx hb dX4_get_48 (by decide) ?_
    refine h_ld1 X hK B (Nat.lt_succ_of_lt hj2) ((up_lt hj2).trans hbj2) (mg_row hfj2 ((up_lt hj2).trans rfl)) dX4_get_49 ?_
    refine h_st (t := (tj2.1, 0, 0)) (t' := (tj2.1, tj2.2.1, 0)) X hK B (Nat.lt_succ_self _) up_eq ((mg_hi (by omega)).trans up_eq) (by unfold vp_in; decide) (rw3_s1 _ _) dX4_get_50 (fun H locs B => ?_)
    rw [mg_yup (by omega), bx_uu] at B
    refine lv_dup hx hb dX4_get_51 rfl ?_
    refine lv_iconst (v := 2) hx hb dX4_get_52 (by decide) ?_
    refine lv_aload_n hx hb dX4_get_53 rfl (lv_at hl 3 rfl) ?_
    refine lv_iconst (v := 2) hx hb dX4_get_54 (by decide) ?_
    refine h_ld2 X hK B (Nat.lt_succ_of_lt hj2) ((up_lt hj2).trans hbj2) (mg_row hfj2 ((up_lt hj2).trans rfl)) dX4_get_55 ?_
    refine h_st (t := (tj2.1, tj2.2.1, 0)) (t' := (tj2.1, tj2.2.1, tj2.2.2)) X hK B (Nat.lt_succ_self _) up_eq ((mg_hi (by omega)).trans up_eq) (by unfold vp_in; decide) (rw3_s2 _ _) dX4_get_56 (fun H locs B => ?_)
    rw [mg_yup (by omega), bx_uu] at B
    have g6 : a1.toNatClampNeg < 4 := (no_lt hza1)
    refine b_aast (q := 25) (qv := N) (up_lt (by omega)) X hK hT B (by omega) mg_25 (Nat.lt_succ_self _) up_eq ((mg_hi (by omega)).trans up_eq) (no_in hza1) dX4_get_57 (fun H locs B => ?_)
    have B : WB g (aw N ad sz) s.heap N (va_up ad (28 + a1.toNatClampNeg) z5) (mg g (va_up ad (28 + a1.toNatClampNeg) z5) y (va_up cr a1.toNatClampNeg (tj2.1, tj2.2.1, tj2.2.2)) dr th kn rf pl pz mc) H locs := WM_cr B (fun _ => rfl) hN g6
    have kk7 : ∀ k, k < N → k < 28 ∨ 36 ≤ k → (va_up ad (28 + a1.toNatClampNeg) z5) k = ad k := fun k hk hkq => (va_up_ne _ _ (by omega)).trans rfl
    have nb9 : (va_up ad (28 + a1.toNatClampNeg) z5) 24 = b0 := (va_up_ne _ _ (by omega)).trans hb0
    refine lv_iload_n hx hb dX4_get_58 rfl (lv_at hl 0 rfl) ?_
    have ev := (show v_X4_get cr a1 tj2 = ((v_X4_one 0), va_up cr a1.toNatClampNeg (tj2.1, tj2.2.1, tj2.2.2)) from by unfold v_X4_get; rw [if_neg c3])
    exact rt_i X hr ((va_up ad (28 + a1.toNatClampNeg) z5), mg g (va_up ad (28 + a1.toNatClampNeg) z5) y (va_up cr a1.toNatClampNeg (tj2.1, tj2.2.1, tj2.2.2)) dr th kn rf pl pz mc) B (PO_of B) ⟨kk7, by rw [ev], by rw [ev]⟩ rfl (Nat.le_of_ble_eq_true rfl) (Nat.le_of_ble_eq_true rfl) dX4_get_59
  · refine lv_iconst (v := 1) hx hb dX4_get_22 (by decide) ?_
    refine lv_goto (tgt := 27) hx hb dX4_get_23 (by decide) ?_
    refine k_i (k := 0) (n := 0) hA B (u_S (rest := []) X (c_X4_one l g N ad (mg g ad y cr dr th kn rf pl pz mc) 1 H.size) mw_X4_one md_X4_one rfl lk_X4_91 ⟨Nat.le_of_ble_eq_true rfl, Nat.le_of_ble_eq_true rfl⟩ hA hK hT B hl.1 rfl (Nat.le_of_ble_eq_true rfl) dX4_get_27 ⟨Nat.le_of_ble_eq_true rfl, Nat.le_of_ble_eq_true rfl⟩) (Nat.le_of_ble_eq_true rfl) (Nat.le_of_ble_eq_true rfl) (fun r10 ad10 f' H locs hw B => ?_)
    obtain ⟨rfl, rfl, rfl⟩ := hw
    refine lv_istore_n (lv' := [(3, .int (v_X4_one 1)), (0, .ref b0), (1, .int a1), (2, .ref bj2)]) hx hb dX4_get_30 rfl hl (by decide) rfl (fun ls hl => ?_)
    refine lv_aload_n hx hb dX4_get_31 rfl (lv_at hl 1 rfl) ?_
    refine b_get (q := 24) (k := 1) hb0 X hK B rfl in_X4 (by omega) mg_24 (by decide) lk_X4_11 rfl rfl dX4_get_32 ?_
    refine lv_iload_n hx hb dX4_get_35 rfl (lv_at hl 2 rfl) ?_
    refine lv_iconst (v := 3) hx hb dX4_get_36 (by decide) ?_
    refine h_new3 (cz := 1) (sz := 3) X hA hK B (Nat.le_of_ble_eq_true rfl) (Nat.le_of_ble_eq_true rfl) (Nat.le_of_ble_eq_true rfl) (Nat.le_of_ble_eq_true rfl) dX4_get_37 (fun z11 H B => ?_)
    have B : WB g (aw N ad sz) s.heap (N + 1) (va_up ad N z11) (mg g (va_up ad N z11) (va_up y N (c_row g (0, 0, 0))) cr dr th kn rf pl pz mc) H locs := WM_push (by omega) B
    refine lv_dup hx hb dX4_get_39 rfl ?_
    refine lv_iconst (v := 0) hx hb dX4_get_40 (by decide) ?_
    refine lv_aload_n hx hb dX4_get_41 rfl (lv_at hl 3 rfl) ?_
    refine lv_iconst (v := 0) hx hb dX4_get_42 (by decide) ?_
    refine h_ld0 X hK B (Nat.lt_succ_of_lt hj2) ((up_lt hj2).trans hbj2) (mg_row hfj2 ((up_lt hj2).trans rfl)) dX4_get_43 ?_
    refine h_st (t := (0, 0, 0)) (t' := (tj2.1, 0, 0)) X hK B (Nat.lt_succ_self _) up_eq ((mg_hi (by omega)).trans up_eq) (by unfold vp_in; decide) (rw3_s0 _ _) dX4_get_44 (fun H locs B => ?_)
    rw [mg_yup (by omega), bx_uu] at B
    refine lv_dup hx hb dX4_get_45 rfl ?_
    refine lv_iconst (v := 1) hx hb dX4_get_46 (by decide) ?_
    refine lv_aload_n hx hb dX4_get_47 rfl (lv_at hl 3 rfl) ?_
    refine lv_iconst (v := 1) hx hb dX4_get_48 (by decide) ?_
    refine h_ld1 X hK B (Nat.lt_succ_of_lt hj2) ((up_lt hj2).trans hbj2) (mg_row hfj2 ((up_lt hj2).trans rfl)) dX4_get_49 ?_
    refine h_st (t := (tj2.1, 0, 0)) (t' := (tj2.1, tj2.2.1, 0)) X hK B (Nat.lt_succ_self _) up_eq ((mg_hi (by omega)).trans up_eq) (by unfold vp_in; decide) (rw3_s1 _ _) dX4_get_50 (fun H locs B => ?_)
    rw [mg_yup (by omega), bx_uu] at B
    refine lv_dup hx hb dX4_get_51 rfl ?_
    refine lv_iconst (v := 2) hx hb dX4_get_52 (by decide) ?_
    refine lv_aload_n hx hb dX4_get_53 rfl (lv_at hl 3 rfl) ?_
    refine lv_iconst (v := 2) hx hb dX4_get_54 (by decide) ?_
    refine h_ld2 X hK B (Nat.lt_succ_of_lt hj2) ((up_lt hj2).trans hbj2) (mg_row hfj2 ((up_lt hj2).trans rfl)) dX4_get_55 ?_
    refine h_st (t := (tj2.1, tj2.2.1, 0)) (t' := (tj2.1, tj2.2.1, tj2.2.2)) X hK B (Nat.lt_succ_self _) up_eq ((mg_hi (by omega)).trans up_eq) (by unfold vp_in; decide) (rw3_s2 _ _) dX4_get_56 (fun H locs B => ?_)
    rw [mg_yup (by omega), bx_uu] at B
    have g12 : a1.toNatClampNeg < 4 := (no_lt hza1)
    refine b_aast (q := 25) (qv := N) (up_lt (by omega)) X hK hT B (by omega) mg_25 (Nat.lt_succ_self _) up_eq ((mg_hi (by omega)).trans up_eq) (no_in hza1) dX4_get_57 (fun H locs B => ?_)
    have B : WB g (aw N ad sz) s.heap N (va_up ad (28 + a1.toNatClampNeg) z11) (mg g (va_up ad (28 + a1.toNatClampNeg) z11) y (va_up cr a1.toNatClampNeg (tj2.1, tj2.2.1, tj2.2.2)) dr th kn rf pl pz mc) H locs := WM_cr B (fun _ => rfl) hN g12
    have kk13 : ∀ k, k < N → k < 28 ∨ 36 ≤ k → (va_up ad (28 + a1.toNatClampNeg) z11) k = ad k := fun k hk hkq => (va_up_ne _ _ (by omega)).trans rfl
    have nb15 : (va_up ad (28 + a1.toNatClampNeg) z11) 24 = b0 := (va_up_ne _ _ (by omega)).trans hb0
    refine lv_iload_n hx hb dX4_get_58 rfl (lv_at hl 0 rfl) ?_
    have ev := (show v_X4_get cr a1 tj2 = ((v_X4_one 1), va_up cr a1.toNatClampNeg (tj2.1, tj2.2.1, tj2.2.2)) from by unfold v_X4_get; rw [if_pos c3])
    exact rt_i X hr ((va_up ad (28 + a1.toNatClampNeg) z11), mg g (va_up ad (28 + a1.toNatClampNeg) z11) y (va_up cr a1.toNatClampNeg (tj2.1, tj2.2.1, tj2.2.2)) dr th kn rf pl pz mc) B (PO_of B) ⟨kk13, by rw [ev], by rw [ev]⟩ rfl (Nat.le_of_ble_eq_true rfl) (Nat.le_of_ble_eq_true rfl) dX4_get_59
def v_X4_getN (rf : Int32) : Int32 × Int32 := ((v_X4_refuse rf).1, (v_X4_refuse rf).2)
set_option maxHeartbeats 4000000 in
set_option maxRecDepth 100000 in
theorem c_X4_getN (l : Launch) (g : GG) (N : Nat) (ad : Nat → Nat) (y : Nat → va_E) (cr dr : Nat → TR) (th kn rf : Int32) (pl : Nat → TR) (pz : Nat) (mc : Int32) (hN : 36 + pz ≤ N) (b0 : Nat) (hb0 : ad 24 = b0) (a1 : Int32) : KI l yX4_get cX4_get 4 (some .int) (rm 1 0 0) g [.ref b0, .int a1, .null] N ad (mg g ad y cr dr th kn rf pl pz mc) N (fun r ad' f' => ad = ad' ∧ (v_X4_getN rf).1 = r ∧ mg g ad y cr dr th kn (v_X4_getN rf).2 pl pz mc = f') := by
  intro sz
  refine mt_start (by decide) (Nat.le_of_ble_eq_true rfl) ?_
  intro p e s m args below meth c hsz X hr hnam hA hK hT H locs B ls hl
  obtain ⟨hx, hb, hml, hown, hts, hlocks⟩ := id X
  have hl : lv_has ls 4 [(0, .ref b0), (1, .int a1), (2, .null)] := hl
  refine lv_aload_nN hx hb dX4_get_0 rfl (lv_at hl 2 rfl) ?_
  refine lv_ifnonnullN hx hb dX4_get_1 ?_
  refine lv_aload_n hx hb dX4_get_4 rfl (lv_at hl 0 rfl) ?_
  refine k_i (k := 0) (n := 0) hA B (b_V (q := 24) (rest := []) hb0 X (c_X4_refuse l g N ad y cr dr th kn rf pl pz mc (by omega) b0 hb0 H.size) mw_X4_refuse md_X4_refuse rfl lk_X4_83 ⟨Nat.le_of_ble_eq_true rfl, Nat.le_of_ble_eq_true rfl⟩ hA hK hT B (by omega) mg_24 rfl rfl hl.1 rfl (Nat.le_of_ble_eq_true rfl) dX4_get_5 ⟨Nat.le_of_ble_eq_true rfl, Nat.le_of_ble_eq_true rfl⟩) (Nat.le_of_ble_eq_true rfl) (Nat.le_of_ble_eq_true rfl) (fun r1 ad1 f' H locs hw B => ?_)
  obtain ⟨rfl, rfl, rfl⟩ := hw
  have ev := (show v_X4_getN rf = ((v_X4_refuse rf).1, (v_X4_refuse rf).2) from rfl)
  exact rt_i X hr (ad, mg g ad y cr dr th kn (v_X4_refuse rf).2 pl pz mc) B (PO_of B) ⟨rfl, by rw [ev], by rw [ev]⟩ rfl (Nat.le_of_ble_eq_true rfl) (Nat.le_of_ble_eq_true rfl) dX4_get_8
def v_X4_written (cr : Nat → TR) (rf : Int32) (a1 : Int32) (b2 : Int64) (b3 : Int64) (b4 : Int64) : Int32 × (Nat → TR) × Int32 × Int32 := if v_X4_isNone a1 = 0 then (om (v_X4_span b2 b3 b4) ((v_X4_getN rf).1, cr, 0, (v_X4_getN rf).2) (fun t4 => ((v_X4_get cr a1 t4).1, (v_X4_get cr a1 t4).2, 0, rf))) else (0, cr, 1, rf)
set_option maxHeartbeats 4000000 in
set_option maxRecDepth 100000 in
theorem c_X4_written (l : Launch) (g : GG) (N : Nat) (ad : Nat → Nat) (y : Nat → va_E) (cr dr : Nat → TR) (th kn rf : Int32) (pl : Nat → TR) (pz : Nat) (mc : Int32) (hN : 36 + pz ≤ N) (b0 : Nat) (hb0 : ad 24 = b0) (a1 : Int32) (b2 : Int64) (b3 : Int64) (b4 : Int64) : KI l yX4_written cX4_written 8 (some .int) (rm 2 2 6) g [.ref b0, .int a1, .long b2, .long b3, .long b4] N ad (mg g ad y cr dr th kn rf pl pz mc) N (fun r ad' f' => (∀ k, k < N → k < 28 ∨ 36 ≤ k → ad' k = ad k) ∧ (v_X4_written cr rf a1 b2 b3 b4).1 = r ∧ mg g ad' y (v_X4_written cr rf a1 b2 b3 b4).2.1 dr (v_X4_written cr rf a1 b2 b3 b4).2.2.1 kn (v_X4_written cr rf a1 b2 b3 b4).2.2.2 pl pz mc = f') := by
  intro sz
  refine mt_start (by decide) (Nat.le_of_ble_eq_true rfl) ?_
  intro p e s m args below meth c hsz X hr hnam hA hK hT H locs B ls hl
  obtain ⟨hx, hb, hml, hown, hts, hlocks⟩ := id X
  have hl : lv_has ls 8 [(0, .ref b0), (1, .int a1), (2, .long b2), (4, .long b3), (6, .long b4)] := hl
  refine lv_aload_n hx hb dX4_written_0 rfl (lv_at hl 0 rfl) ?_
  refine lv_iload_n hx hb dX4_written_1 rfl (lv_at hl 1 rfl) ?_
  refine k_i (k := 0) (n := 0) hA B (u_S (rest := [.ref b0]) X (c_X4_isNone l g N ad (mg g ad y cr dr th kn rf pl pz mc) a1 H.size) mw_X4_isNone md_X4_isNone rfl lk_X4_95 ⟨Nat.le_of_ble_eq_true rfl, Nat.le_of_ble_eq_true rfl⟩ hA hK hT B hl.1 rfl (Nat.le_of_ble_eq_true rfl) dX4_written_2 ⟨Nat.le_of_ble_eq_true rfl, Nat.le_of_ble_eq_true rfl⟩) (Nat.le_of_ble_eq_true rfl) (Nat.le_of_ble_eq_true rfl) (fun r1 ad1 f' H locs hw B => ?_)
  obtain ⟨rfl, rfl, rfl⟩ := hw
  refine lv_iconst (v := 0) hx hb dX4_written_5 (by decide) ?_
  by_cases s2 : v_X4_isNone a1 = 0
  · rw [s2]
    refine k_i (k := 0) (n := 0) hA B (b_V (q := 24) (rest := []) hb0 X (c_X4_stops l g N ad y cr dr th kn rf pl pz mc (by omega) b0 hb0 0 0 H.size) mw_X4_stops md_X4_stops rfl lk_X4_99 ⟨Nat.le_of_ble_eq_true rfl, Nat.le_of_ble_eq_true rfl⟩ hA hK hT B (by omega) mg_24 rfl rfl hl.1 rfl (Nat.le_of_ble_eq_true rfl) dX4_written_6 ⟨Nat.le_of_ble_eq_true rfl, Nat.le_of_ble_eq_true rfl⟩) (Nat.le_of_ble_eq_true rfl) (Nat.le_of_ble_eq_true rfl) (fun r ad' f' H locs hw B => ?_)
    rw [st_00] at hw
    dsimp only at hw
    obtain ⟨rfl, rfl, rfl⟩ := hw
    have B : WB g (aw N ad sz) s.heap N ad (mg g ad y cr dr 0 kn rf pl pz mc) H locs := B
    refine lv_if_eq (tgt := 16) hx hb dX4_written_9 (by decide) (fun _ => ?_) (fun z => absurd z (by decide))
    refine lv_aload_n hx hb dX4_written_16 rfl (lv_at hl 0 rfl) ?_
    refine lv_iload_n hx hb dX4_written_17 rfl (lv_at hl 1 rfl) ?_
    refine lv_lload_n hx hb dX4_written_18 rfl (lv_at hl 2 rfl) ?_
    refine lv_lload hx hb dX4_written_19 (lv_at hl 3 rfl) ?_
    refine lv_lload hx hb dX4_written_21 (lv_at hl 4 rfl) ?_
    refine k_r (k := 1) (n := 3) hA B (u_S (rest := [.int a1, .ref b0]) X (c_X4_span l g N ad (mg g ad y cr dr 0 kn rf pl pz mc) b2 b3 b4 H.size) mw_X4_span md_X4_span rfl lk_X4_47 ⟨Nat.le_of_ble_eq_true rfl, Nat.le_of_ble_eq_true rfl⟩ hA hK hT B hl.1 rfl (Nat.le_of_ble_eq_true rfl) dX4_written_23 ⟨Nat.le_of_ble_eq_true rfl, Nat.le_of_ble_eq_true rfl⟩) (Nat.le_of_ble_eq_true rfl) (Nat.le_of_ble_eq_true rfl) (fun r3 ad3 f' H locs hw B => ?_)
    generalize o4 : (v_X4_span b2 b3 b4) = v9 at hw B
    cases v9 with
    | none =>
      obtain ⟨rfl, rfl, rfl⟩ := pw_n hw
      refine k_i (k := 1) (n := 3) hA B (b_V (q := 24) (rest := []) hb0 X (c_X4_getN l g N ad y cr dr 0 kn rf pl pz mc (by omega) b0 hb0 a1 H.size) mw_X4_get md_X4_get rfl lk_X4_103 ⟨Nat.le_of_ble_eq_true rfl, Nat.le_of_ble_eq_true rfl⟩ hA hK hT B (by omega) mg_24 rfl rfl hl.1 rfl (Nat.le_of_ble_eq_true rfl) dX4_written_26 ⟨Nat.le_of_ble_eq_true rfl, Nat.le_of_ble_eq_true rfl⟩) (Nat.le_of_ble_eq_true rfl) (Nat.le_of_ble_eq_true rfl) (fun r5 ad5 f' H locs hw B => ?_)
      obtain ⟨rfl, rfl, rfl⟩ := hw
      have ev := (show v_X4_written cr rf a1 b2 b3 b4 = ((v_X4_getN rf).1, cr, 0, (v_X4_getN rf).2) from by unfold v_X4_written; rw [if_pos s2, om_none o4])
      exact rt_i X hr (ad, mg g ad y cr dr 0 kn (v_X4_getN rf).2 pl pz mc) B (PO_of B) ⟨(fun _ _ _ => rfl), by rw [ev], by rw [ev]⟩ rfl (Nat.le_of_ble_eq_true rfl) (Nat.le_of_ble_eq_true rfl) dX4_written_29
    | some t4 =>
      obtain ⟨z4, rfl, rfl, rfl⟩ := pw_s hw
      have B : WB g (aw N ad sz) s.heap (N + 1) (va_up ad N z4) (mg g (va_up ad N z4) (va_up y N (c_row g t4)) cr dr 0 kn rf pl pz mc) H locs := WM_push (by omega) B
      refine k_i (k := 2) (n := 6) hA B (b_V (q := 24) (rest := []) ((up_lt (by omega)).trans hb0) X (c_X4_get l g (N + 1) (va_up ad N z4) (va_up y N (c_row g t4)) cr dr 0 kn rf pl pz mc (by omega) b0 ((up_lt (by omega)).trans hb0) a1 N z4 t4 (Nat.lt_succ_self _) up_eq ((mg_hi (by omega)).trans up_eq) s2 H.size) mw_X4_get md_X4_get rfl lk_X4_103 ⟨Nat.le_of_ble_eq_true rfl, Nat.le_of_ble_eq_true rfl⟩ hA hK hT B (by omega) mg_24 rfl rfl hl.1 rfl (Nat.le_of_ble_eq_true rfl) dX4_written_26 ⟨Nat.le_of_ble_eq_true rfl, Nat.le_of_ble_eq_true rfl⟩) (Nat.le_of_ble_eq_true rfl) (Nat.le_of_ble_eq_true rfl) (fun r6 ad6 f' H locs hw B => ?_)
      dsimp only at hw
      obtain ⟨mv7, rfl, rfl⟩ := hw
      have B : WB g (aw N ad sz) s.heap N ad6 (mg g ad6 y (v_X4_get cr a1 t4).2 dr 0 kn rf pl pz mc) H locs := WM_drop B (by omega) (by omega) (fun _ _ => rfl) (fun _ hk => (up_lt hk))
      have kk8 : ∀ k, k < N → k < 28 ∨ 36 ≤ k → ad6 k = ad k := fun k hk hkq => (mv7 k (by omega) hkq).trans (((fun _ hk => (up_lt hk)) k hk).trans rfl)
      have nb9 : ad6 24 = b0 := (mv7 24 (by omega) (Or.inl (by decide))).trans ((up_lt (by omega)).trans hb0)
      have ev := (show v_X4_written cr rf a1 b2 b3 b4 = ((v_X4_get cr a1 t4).1, (v_X4_get cr a1 t4).2, 0, rf) from by unfold v_X4_written; rw [if_pos s2, om_some o4])
      exact rt_i X hr (ad6, mg g ad6 y (v_X4_get cr a1 t4).2 dr 0 kn rf pl pz mc) B (PO_of B) ⟨kk8, by rw [ev], by rw [ev]⟩ rfl (Nat.le_of_ble_eq_true rfl) (Nat.le_of_ble_eq_true rfl) dX4_written_29
  · have s2x : (v_X4_isNone a1) = 1 := (b01_X4_isNone).resolve_left s2
    rw [s2x]
    refine k_i (k := 0) (n := 0) hA B (b_V (q := 24) (rest := []) hb0 X (c_X4_stops l g N ad y cr dr th kn rf pl pz mc (by omega) b0 hb0 1 0 H.size) mw_X4_stops md_X4_stops rfl lk_X4_99 ⟨Nat.le_of_ble_eq_true rfl, Nat.le_of_ble_eq_true rfl⟩ hA hK hT B (by omega) mg_24 rfl rfl hl.1 rfl (Nat.le_of_ble_eq_true rfl) dX4_written_6 ⟨Nat.le_of_ble_eq_true rfl, Nat.le_of_ble_eq_true rfl⟩) (Nat.le_of_ble_eq_true rfl) (Nat.le_of_ble_eq_true rfl) (fun r ad' f' H locs hw B => ?_)
    rw [st_10] at hw
    dsimp only at hw
    obtain ⟨rfl, rfl, rfl⟩ := hw
    have B : WB g (aw N ad sz) s.heap N ad (mg g ad y cr dr 1 kn rf pl pz mc) H locs := B
    refine lv_if_eq (tgt := 16) hx hb dX4_written_9 (by decide) (fun z => absurd z (by decide)) (fun _ => ?_)
    refine lv_iconst (v := 0) hx hb dX4_written_12 (by decide) ?_
    refine lv_goto (tgt := 29) hx hb dX4_written_13 (by decide) ?_
    have ev := (show v_X4_written cr rf a1 b2 b3 b4 = (0, cr, 1, rf) from by unfold v_X4_written; rw [if_neg s2])
    exact rt_i X hr (ad, mg g ad y cr dr 1 kn rf pl pz mc) B (PO_of B) ⟨(fun _ _ _ => rfl), by rw [ev], by rw [ev]⟩ rfl (Nat.le_of_ble_eq_true rfl) (Nat.le_of_ble_eq_true rfl) dX4_written_29
def v_X4_write (cr : Nat → TR) (rf : Int32) (a1 : Int32) (a2 : Int32) (a3 : Int32) (a4 : Int32) : Int32 × (Nat → TR) × Int32 × Int32 := ((v_X4_written cr rf a1 a2.toInt64 a3.toInt64 a4.toInt64).1, (v_X4_written cr rf a1 a2.toInt64 a3.toInt64 a4.toInt64).2.1, (v_X4_written cr rf a1 a2.toInt64 a3.toInt64 a4.toInt64).2.2.1, (v_X4_written cr rf a1 a2.toInt64 a3.toInt64 a4.toInt64).2.2.2)
set_option maxHeartbeats 4000000 in
set_option maxRecDepth 100000 in
theorem c_X4_write (l : Launch) (g : GG) (N : Nat) (ad : Nat → Nat) (y : Nat → va_E) (cr dr : Nat → TR) (th kn rf : Int32) (pl : Nat → TR) (pz : Nat) (mc : Int32) (hN : 36 + pz ≤ N) (b0 : Nat) (hb0 : ad 24 = b0) (a1 : Int32) (a2 : Int32) (a3 : Int32) (a4 : Int32) : KI l yX4_write cX4_write 5 (some .int) (rm 3 2 6) g [.ref b0, .int a1, .int a2, .int a3, .int a4] N ad (mg g ad y cr dr th kn rf pl pz mc) N (fun r ad' f' => (∀ k, k < N → k < 28 ∨ 36 ≤ k → ad' k = ad k) ∧ (v_X4_write cr rf a1 a2 a3 a4).1 = r ∧ mg g ad' y (v_X4_write cr rf a1 a2 a3 a4).2.1 dr (v_X4_write cr rf a1 a2 a3 a4).2.2.1 kn (v_X4_write cr rf a1 a2 a3 a4).2.2.2 pl pz mc = f') := by
  intro sz
  refine mt_start (by decide) (Nat.le_of_ble_eq_true rfl) ?_
  intro p e s m args below meth c hsz X hr hnam hA hK hT H locs B ls hl
  obtain ⟨hx, hb, hml, hown, hts, hlocks⟩ := id X
  have hl : lv_has ls 5 [(0, .ref b0), (1, .int a1), (2, .int a2), (3, .int a3), (4, .int a4)] := hl
  refine lv_aload_n hx hb dX4_write_0 rfl (lv_at hl 0 rfl) ?_
  refine lv_iload_n hx hb dX4_write_1 rfl (lv_at hl 1 rfl) ?_
  refine lv_iload_n hx hb dX4_write_2 rfl (lv_at hl 2 rfl) ?_
  refine lv_i2l (v := a2.toInt64) hx hb dX4_write_3 rfl ?_
  refine lv_iload_n hx hb dX4_write_4 rfl (lv_at hl 3 rfl) ?_
  refine lv_i2l (v := a3.toInt64) hx hb dX4_write_5 rfl ?_
  refine lv_iload hx hb dX4_write_6 (lv_at hl 4 rfl) ?_
  refine lv_i2l (v := a4.toInt64) hx hb dX4_write_8 rfl ?_
  refine k_i (k := 2) (n := 6) hA B (b_V (q := 24) (rest := []) hb0 X (c_X4_written l g N ad y cr dr th kn rf pl pz mc (by omega) b0 hb0 a1 a2.toInt64 a3.toInt64 a4.toInt64 H.size) mw_X4_written md_X4_written rfl lk_X4_107 ⟨Nat.le_of_ble_eq_true rfl, Nat.le_of_ble_eq_true rfl⟩ hA hK hT B (by omega) mg_24 rfl rfl hl.1 rfl (Nat.le_of_ble_eq_true rfl) dX4_write_9 ⟨Nat.le_of_ble_eq_true rfl, Nat.le_of_ble_eq_true rfl⟩) (Nat.le_of_ble_eq_true rfl) (Nat.le_of_ble_eq_true rfl) (fun r1 ad1 f' H locs hw B => ?_)
  dsimp only at hw
  obtain ⟨mv2, rfl, rfl⟩ := hw
  have kk3 : ∀ k, k < N → k < 28 ∨ 36 ≤ k → ad1 k = ad k := fun k hk hkq => (mv2 k (by omega) hkq).trans (rfl.trans rfl)
  have nb4 : ad1 24 = b0 := (mv2 24 (by omega) (Or.inl (by decide))).trans hb0
  have ev := (show v_X4_write cr rf a1 a2 a3 a4 = ((v_X4_written cr rf a1 a2.toInt64 a3.toInt64 a4.toInt64).1, (v_X4_written cr rf a1 a2.toInt64 a3.toInt64 a4.toInt64).2.1, (v_X4_written cr rf a1 a2.toInt64 a3.toInt64 a4.toInt64).2.2.1, (v_X4_written cr rf a1 a2.toInt64 a3.toInt64 a4.toInt64).2.2.2) from rfl)
  exact rt_i X hr (ad1, mg g ad1 y (v_X4_written cr rf a1 a2.toInt64 a3.toInt64 a4.toInt64).2.1 dr (v_X4_written cr rf a1 a2.toInt64 a3.toInt64 a4.toInt64).2.2.1 kn (v_X4_written cr rf a1 a2.toInt64 a3.toInt64 a4.toInt64).2.2.2 pl pz mc) B (PO_of B) ⟨kk3, by rw [ev], by rw [ev]⟩ rfl (Nat.le_of_ble_eq_true rfl) (Nat.le_of_ble_eq_true rfl) dX4_write_12
def v_X4_ofYears (cr : Nat → TR) (rf : Int32) (a1 : Int32) (a2 : Int32) : Int32 × (Nat → TR) × Int32 × Int32 := ((v_X4_written cr rf a1 a2.toInt64 0 0).1, (v_X4_written cr rf a1 a2.toInt64 0 0).2.1, (v_X4_written cr rf a1 a2.toInt64 0 0).2.2.1, (v_X4_written cr rf a1 a2.toInt64 0 0).2.2.2)
set_option maxHeartbeats 4000000 in
set_option maxRecDepth 100000 in
theorem c_X4_ofYears (l : Launch) (g : GG) (N : Nat) (ad : Nat → Nat) (y : Nat → va_E) (cr dr : Nat → TR) (th kn rf : Int32) (pl : Nat → TR) (pz : Nat) (mc : Int32) (hN : 36 + pz ≤ N) (b0 : Nat) (hb0 : ad 24 = b0) (a1 : Int32) (a2 : Int32) : KI l yX4_ofYears cX4_ofYears 3 (some .int) (rm 3 2 6) g [.ref b0, .int a1, .int a2] N ad (mg g ad y cr dr th kn rf pl pz mc) N (fun r ad' f' => (∀ k, k < N → k < 28 ∨ 36 ≤ k → ad' k = ad k) ∧ (v_X4_ofYears cr rf a1 a2).1 = r ∧ mg g ad' y (v_X4_ofYears cr rf a1 a2).2.1 dr (v_X4_ofYears cr rf a1 a2).2.2.1 kn (v_X4_ofYears cr rf a1 a2).2.2.2 pl pz mc = f') := by
  intro sz
  refine mt_start (by decide) (Nat.le_of_ble_eq_true rfl) ?_
  intro p e s m args below meth c hsz X hr hnam hA hK hT H locs B ls hl
  obtain ⟨hx, hb, hml, hown, hts, hlocks⟩ := id X
  have hl : lv_has ls 3 [(0, .ref b0), (1, .int a1), (2, .int a2)] := hl
  refine lv_aload_n hx hb dX4_ofYears_0 rfl (lv_at hl 0 rfl) ?_
  refine lv_iload_n hx hb dX4_ofYears_1 rfl (lv_at hl 1 rfl) ?_
  refine lv_iload_n hx hb dX4_ofYears_2 rfl (lv_at hl 2 rfl) ?_
  refine lv_i2l (v := a2.toInt64) hx hb dX4_ofYears_3 rfl ?_
  refine lv_lconst (v := 0) hx hb dX4_ofYears_4 (by decide) ?_
  refine lv_lconst (v := 0) hx hb dX4_ofYears_5 (by decide) ?_
  refine k_i (k := 2) (n := 6) hA B (b_V (q := 24) (rest := []) hb0 X (c_X4_written l g N ad y cr dr th kn rf pl pz mc (by omega) b0 hb0 a1 a2.toInt64 0 0 H.size) mw_X4_written md_X4_written rfl lk_X4_107 ⟨Nat.le_of_ble_eq_true rfl, Nat.le_of_ble_eq_true rfl⟩ hA hK hT B (by omega) mg_24 rfl rfl hl.1 rfl (Nat.le_of_ble_eq_true rfl) dX4_ofYears_6 ⟨Nat.le_of_ble_eq_true rfl, Nat.le_of_ble_eq_true rfl⟩) (Nat.le_of_ble_eq_true rfl) (Nat.le_of_ble_eq_true rfl) (fun r1 ad1 f' H locs hw B => ?_)
  dsimp only at hw
  obtain ⟨mv2, rfl, rfl⟩ := hw
  have kk3 : ∀ k, k < N → k < 28 ∨ 36 ≤ k → ad1 k = ad k := fun k hk hkq => (mv2 k (by omega) hkq).trans (rfl.trans rfl)
  have nb4 : ad1 24 = b0 := (mv2 24 (by omega) (Or.inl (by decide))).trans hb0
  have ev := (show v_X4_ofYears cr rf a1 a2 = ((v_X4_written cr rf a1 a2.toInt64 0 0).1, (v_X4_written cr rf a1 a2.toInt64 0 0).2.1, (v_X4_written cr rf a1 a2.toInt64 0 0).2.2.1, (v_X4_written cr rf a1 a2.toInt64 0 0).2.2.2) from rfl)
  exact rt_i X hr (ad1, mg g ad1 y (v_X4_written cr rf a1 a2.toInt64 0 0).2.1 dr (v_X4_written cr rf a1 a2.toInt64 0 0).2.2.1 kn (v_X4_written cr rf a1 a2.toInt64 0 0).2.2.2 pl pz mc) B (PO_of B) ⟨kk3, by rw [ev], by rw [ev]⟩ rfl (Nat.le_of_ble_eq_true rfl) (Nat.le_of_ble_eq_true rfl) dX4_ofYears_9
def v_X4_ofMonths (cr : Nat → TR) (rf : Int32) (a1 : Int32) (a2 : Int32) : Int32 × (Nat → TR) × Int32 × Int32 := ((v_X4_written cr rf a1 0 a2.toInt64 0).1, (v_X4_written cr rf a1 0 a2.toInt64 0).2.1, (v_X4_written cr rf a1 0 a2.toInt64 0).2.2.1, (v_X4_written cr rf a1 0 a2.toInt64 0).2.2.2)
set_option maxHeartbeats 4000000 in
set_option maxRecDepth 100000 in
theorem c_X4_ofMonths (l : Launch) (g : GG) (N : Nat) (ad : Nat → Nat) (y : Nat → va_E) (cr dr : Nat → TR) (th kn rf : Int32) (pl : Nat → TR) (pz : Nat) (mc : Int32) (hN : 36 + pz ≤ N) (b0 : Nat) (hb0 : ad 24 = b0) (a1 : Int32) (a2 : Int32) : KI l yX4_ofMonths cX4_ofMonths 3 (some .int) (rm 3 2 6) g [.ref b0, .int a1, .int a2] N ad (mg g ad y cr dr th kn rf pl pz mc) N (fun r ad' f' => (∀ k, k < N → k < 28 ∨ 36 ≤ k → ad' k = ad k) ∧ (v_X4_ofMonths cr rf a1 a2).1 = r ∧ mg g ad' y (v_X4_ofMonths cr rf a1 a2).2.1 dr (v_X4_ofMonths cr rf a1 a2).2.2.1 kn (v_X4_ofMonths cr rf a1 a2).2.2.2 pl pz mc = f') := by
  intro sz
  refine mt_start (by decide) (Nat.le_of_ble_eq_true rfl) ?_
  intro p e s m args below meth c hsz X hr hnam hA hK hT H locs B ls hl
  obtain ⟨hx, hb, hml, hown, hts, hlocks⟩ := id X
  have hl : lv_has ls 3 [(0, .ref b0), (1, .int a1), (2, .int a2)] := hl
  refine lv_aload_n hx hb dX4_ofMonths_0 rfl (lv_at hl 0 rfl) ?_
  refine lv_iload_n hx hb dX4_ofMonths_1 rfl (lv_at hl 1 rfl) ?_
  refine lv_lconst (v := 0) hx hb dX4_ofMonths_2 (by decide) ?_
  refine lv_iload_n hx hb dX4_ofMonths_3 rfl (lv_at hl 2 rfl) ?_
  refine lv_i2l (v := a2.toInt64) hx hb dX4_ofMonths_4 rfl ?_
  refine lv_lconst (v := 0) hx hb dX4_ofMonths_5 (by decide) ?_
  refine k_i (k := 2) (n := 6) hA B (b_V (q := 24) (rest := []) hb0 X (c_X4_written l g N ad y cr dr th kn rf pl pz mc (by omega) b0 hb0 a1 0 a2.toInt64 0 H.size) mw_X4_written md_X4_written rfl lk_X4_107 ⟨Nat.le_of_ble_eq_true rfl, Nat.le_of_ble_eq_true rfl⟩ hA hK hT B (by omega) mg_24 rfl rfl hl.1 rfl (Nat.le_of_ble_eq_true rfl) dX4_ofMonths_6 ⟨Nat.le_of_ble_eq_true rfl, Nat.le_of_ble_eq_true rfl⟩) (Nat.le_of_ble_eq_true rfl) (Nat.le_of_ble_eq_true rfl) (fun r1 ad1 f' H locs hw B => ?_)
  dsimp only at hw
  obtain ⟨mv2, rfl, rfl⟩ := hw
  have kk3 : ∀ k, k < N → k < 28 ∨ 36 ≤ k → ad1 k = ad k := fun k hk hkq => (mv2 k (by omega) hkq).trans (rfl.trans rfl)
  have nb4 : ad1 24 = b0 := (mv2 24 (by omega) (Or.inl (by decide))).trans hb0
  have ev := (show v_X4_ofMonths cr rf a1 a2 = ((v_X4_written cr rf a1 0 a2.toInt64 0).1, (v_X4_written cr rf a1 0 a2.toInt64 0).2.1, (v_X4_written cr rf a1 0 a2.toInt64 0).2.2.1, (v_X4_written cr rf a1 0 a2.toInt64 0).2.2.2) from rfl)
  exact rt_i X hr (ad1, mg g ad1 y (v_X4_written cr rf a1 0 a2.toInt64 0).2.1 dr (v_X4_written cr rf a1 0 a2.toInt64 0).2.2.1 kn (v_X4_written cr rf a1 0 a2.toInt64 0).2.2.2 pl pz mc) B (PO_of B) ⟨kk3, by rw [ev], by rw [ev]⟩ rfl (Nat.le_of_ble_eq_true rfl) (Nat.le_of_ble_eq_true rfl) dX4_ofMonths_9
def v_X4_ofWeeks (cr : Nat → TR) (rf : Int32) (a1 : Int32) (a2 : Int32) : Int32 × (Nat → TR) × Int32 × Int32 := ((v_X4_written cr rf a1 0 0 (7 * a2.toInt64)).1, (v_X4_written cr rf a1 0 0 (7 * a2.toInt64)).2.1, (v_X4_written cr rf a1 0 0 (7 * a2.toInt64)).2.2.1, (v_X4_written cr rf a1 0 0 (7 * a2.toInt64)).2.2.2)
set_option maxHeartbeats 4000000 in
set_option maxRecDepth 100000 in
theorem c_X4_ofWeeks (l : Launch) (g : GG) (N : Nat) (ad : Nat → Nat) (y : Nat → va_E) (cr dr : Nat → TR) (th kn rf : Int32) (pl : Nat → TR) (pz : Nat) (mc : Int32) (hN : 36 + pz ≤ N) (b0 : Nat) (hb0 : ad 24 = b0) (a1 : Int32) (a2 : Int32) : KI l yX4_ofWeeks cX4_ofWeeks 3 (some .int) (rm 3 2 6) g [.ref b0, .int a1, .int a2] N ad (mg g ad y cr dr th kn rf pl pz mc) N (fun r ad' f' => (∀ k, k < N → k < 28 ∨ 36 ≤ k → ad' k = ad k) ∧ (v_X4_ofWeeks cr rf a1 a2).1 = r ∧ mg g ad' y (v_X4_ofWeeks cr rf a1 a2).2.1 dr (v_X4_ofWeeks cr rf a1 a2).2.2.1 kn (v_X4_ofWeeks cr rf a1 a2).2.2.2 pl pz mc = f') := by
  intro sz
  refine mt_start (by decide) (Nat.le_of_ble_eq_true rfl) ?_
  intro p e s m args below meth c hsz X hr hnam hA hK hT H locs B ls hl
  obtain ⟨hx, hb, hml, hown, hts, hlocks⟩ := id X
  have hl : lv_has ls 3 [(0, .ref b0), (1, .int a1), (2, .int a2)] := hl
  refine lv_aload_n hx hb dX4_ofWeeks_0 rfl (lv_at hl 0 rfl) ?_
  refine lv_iload_n hx hb dX4_ofWeeks_1 rfl (lv_at hl 1 rfl) ?_
  refine lv_lconst (v := 0) hx hb dX4_ofWeeks_2 (by decide) ?_
  refine lv_lconst (v := 0) hx hb dX4_ofWeeks_3 (by decide) ?_
  refine lv_ldc2 hx hb hown (hts _ (List.mem_cons_of_mem _ lk_X4_111)) dX4_ofWeeks_4 ?_
  refine lv_iload_n hx hb dX4_ofWeeks_7 rfl (lv_at hl 2 rfl) ?_
  refine lv_i2l (v := a2.toInt64) hx hb dX4_ofWeeks_8 rfl ?_
  refine lv_lmul hx hb dX4_ofWeeks_9 ?_
  refine k_i (k := 2) (n := 6) hA B (b_V (q := 24) (rest := []) hb0 X (c_X4_written l g N ad y cr dr th kn rf pl pz mc (by omega) b0 hb0 a1 0 0 (7 * a2.toInt64) H.size) mw_X4_written md_X4_written rfl lk_X4_107 ⟨Nat.le_of_ble_eq_true rfl, Nat.le_of_ble_eq_true rfl⟩ hA hK hT B (by omega) mg_24 rfl rfl hl.1 rfl (Nat.le_of_ble_eq_true rfl) dX4_ofWeeks_10 ⟨Nat.le_of_ble_eq_true rfl, Nat.le_of_ble_eq_true rfl⟩) (Nat.le_of_ble_eq_true rfl) (Nat.le_of_ble_eq_true rfl) (fun r1 ad1 f' H locs hw B => ?_)
  dsimp only at hw
  obtain ⟨mv2, rfl, rfl⟩ := hw
  have kk3 : ∀ k, k < N → k < 28 ∨ 36 ≤ k → ad1 k = ad k := fun k hk hkq => (mv2 k (by omega) hkq).trans (rfl.trans rfl)
  have nb4 : ad1 24 = b0 := (mv2 24 (by omega) (Or.inl (by decide))).trans hb0
  have ev := (show v_X4_ofWeeks cr rf a1 a2 = ((v_X4_written cr rf a1 0 0 (7 * a2.toInt64)).1, (v_X4_written cr rf a1 0 0 (7 * a2.toInt64)).2.1, (v_X4_written cr rf a1 0 0 (7 * a2.toInt64)).2.2.1, (v_X4_written cr rf a1 0 0 (7 * a2.toInt64)).2.2.2) from rfl)
  exact rt_i X hr (ad1, mg g ad1 y (v_X4_written cr rf a1 0 0 (7 * a2.toInt64)).2.1 dr (v_X4_written cr rf a1 0 0 (7 * a2.toInt64)).2.2.1 kn (v_X4_written cr rf a1 0 0 (7 * a2.toInt64)).2.2.2 pl pz mc) B (PO_of B) ⟨kk3, by rw [ev], by rw [ev]⟩ rfl (Nat.le_of_ble_eq_true rfl) (Nat.le_of_ble_eq_true rfl) dX4_ofWeeks_13
def v_X4_ofDays (cr : Nat → TR) (rf : Int32) (a1 : Int32) (a2 : Int32) : Int32 × (Nat → TR) × Int32 × Int32 := ((v_X4_written cr rf a1 0 0 a2.toInt64).1, (v_X4_written cr rf a1 0 0 a2.toInt64).2.1, (v_X4_written cr rf a1 0 0 a2.toInt64).2.2.1, (v_X4_written cr rf a1 0 0 a2.toInt64).2.2.2)
set_option maxHeartbeats 4000000 in
set_option maxRecDepth 100000 in
theorem c_X4_ofDays (l : Launch) (g : GG) (N : Nat) (ad : Nat → Nat) (y : Nat → va_E) (cr dr : Nat → TR) (th kn rf : Int32) (pl : Nat → TR) (pz : Nat) (mc : Int32) (hN : 36 + pz ≤ N) (b0 : Nat) (hb0 : ad 24 = b0) (a1 : Int32) (a2 : Int32) : KI l yX4_ofDays cX4_ofDays 3 (some .int) (rm 3 2 6) g [.ref b0, .int a1, .int a2] N ad (mg g ad y cr dr th kn rf pl pz mc) N (fun r ad' f' => (∀ k, k < N → k < 28 ∨ 36 ≤ k → ad' k = ad k) ∧ (v_X4_ofDays cr rf a1 a2).1 = r ∧ mg g ad' y (v_X4_ofDays cr rf a1 a2).2.1 dr (v_X4_ofDays cr rf a1 a2).2.2.1 kn (v_X4_ofDays cr rf a1 a2).2.2.2 pl pz mc = f') := by
  intro sz
  refine mt_start (by decide) (Nat.le_of_ble_eq_true rfl) ?_
  intro p e s m args below meth c hsz X hr hnam hA hK hT H locs B ls hl
  obtain ⟨hx, hb, hml, hown, hts, hlocks⟩ := id X
  have hl : lv_has ls 3 [(0, .ref b0), (1, .int a1), (2, .int a2)] := hl
  refine lv_aload_n hx hb dX4_ofDays_0 rfl (lv_at hl 0 rfl) ?_
  refine lv_iload_n hx hb dX4_ofDays_1 rfl (lv_at hl 1 rfl) ?_
  refine lv_lconst (v := 0) hx hb dX4_ofDays_2 (by decide) ?_
  refine lv_lconst (v := 0) hx hb dX4_ofDays_3 (by decide) ?_
  refine lv_iload_n hx hb dX4_ofDays_4 rfl (lv_at hl 2 rfl) ?_
  refine lv_i2l (v := a2.toInt64) hx hb dX4_ofDays_5 rfl ?_
  refine k_i (k := 2) (n := 6) hA B (b_V (q := 24) (rest := []) hb0 X (c_X4_written l g N ad y cr dr th kn rf pl pz mc (by omega) b0 hb0 a1 0 0 a2.toInt64 H.size) mw_X4_written md_X4_written rfl lk_X4_107 ⟨Nat.le_of_ble_eq_true rfl, Nat.le_of_ble_eq_true rfl⟩ hA hK hT B (by omega) mg_24 rfl rfl hl.1 rfl (Nat.le_of_ble_eq_true rfl) dX4_ofDays_6 ⟨Nat.le_of_ble_eq_true rfl, Nat.le_of_ble_eq_true rfl⟩) (Nat.le_of_ble_eq_true rfl) (Nat.le_of_ble_eq_true rfl) (fun r1 ad1 f' H locs hw B => ?_)
  dsimp only at hw
  obtain ⟨mv2, rfl, rfl⟩ := hw
  have kk3 : ∀ k, k < N → k < 28 ∨ 36 ≤ k → ad1 k = ad k := fun k hk hkq => (mv2 k (by omega) hkq).trans (rfl.trans rfl)
  have nb4 : ad1 24 = b0 := (mv2 24 (by omega) (Or.inl (by decide))).trans hb0
  have ev := (show v_X4_ofDays cr rf a1 a2 = ((v_X4_written cr rf a1 0 0 a2.toInt64).1, (v_X4_written cr rf a1 0 0 a2.toInt64).2.1, (v_X4_written cr rf a1 0 0 a2.toInt64).2.2.1, (v_X4_written cr rf a1 0 0 a2.toInt64).2.2.2) from rfl)
  exact rt_i X hr (ad1, mg g ad1 y (v_X4_written cr rf a1 0 0 a2.toInt64).2.1 dr (v_X4_written cr rf a1 0 0 a2.toInt64).2.2.1 kn (v_X4_written cr rf a1 0 0 a2.toInt64).2.2.2 pl pz mc) B (PO_of B) ⟨kk3, by rw [ev], by rw [ev]⟩ rfl (Nat.le_of_ble_eq_true rfl) (Nat.le_of_ble_eq_true rfl) dX4_ofDays_9
