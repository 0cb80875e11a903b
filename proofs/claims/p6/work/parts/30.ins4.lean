def v_X4_become (dr : Nat → TR) (a1 : Int32) (tj2 : TR) : Int32 × (Nat → TR) := if (v_X4_number (dr a1.toNatClampNeg)) = (v_X4_number tj2) then ((v_X4_one 0), va_up dr a1.toNatClampNeg (tj2.1, tj2.2.1, tj2.2.2)) else ((v_X4_one 1), va_up dr a1.toNatClampNeg (tj2.1, tj2.2.1, tj2.2.2))
set_option maxHeartbeats 4000000 in
set_option maxRecDepth 100000 in
theorem c_X4_become (l : Launch) (g : GG) (N : Nat) (ad : Nat → Nat) (y : Nat → va_E) (cr dr : Nat → TR) (th kn rf : Int32) (pl : Nat → TR) (pz : Nat) (mc : Int32) (hN : 36 + pz ≤ N) (b0 : Nat) (hb0 : ad 24 = b0) (a1 : Int32) (j2 bj2 : Nat) (tj2 : TR) (hj2 : j2 < N) (hbj2 : ad j2 = bj2) (hfj2 : mg g ad y cr dr th kn rf pl pz mc j2 = c_row g tj2) (hza1 : v_X4_isNone a1 = 0) (hdr : ∀ i, i < 4 → okd (dr i)) (hit : ¬ 12 < tj2.2.1) : KI l yX4_become cX4_become 4 (some .int) (rm 3 1 3) g [.ref b0, .int a1, .ref bj2] N ad (mg g ad y cr dr th kn rf pl pz mc) N (fun r ad' f' => (∀ k, k < N → k < 28 ∨ 36 ≤ k → ad' k = ad k) ∧ (v_X4_become dr a1 tj2).1 = r ∧ mg g ad' y cr (v_X4_become dr a1 tj2).2 th kn rf pl pz mc = f') := by
  intro sz
  refine mt_start (by decide) (Nat.le_of_ble_eq_true rfl) ?_
  intro p e s m args below meth c hsz X hr hnam hA hK hT H locs B ls hl
  obtain ⟨hx, hb, hml, hown, hts, hlocks⟩ := id X
  have hl : lv_has ls 4 [(0, .ref b0), (1, .int a1), (2, .ref bj2)] := hl
  refine lv_aload_n hx hb dX4_become_0 rfl (lv_at hl 2 rfl) ?_
  refine lv_ifnonnull (tgt := 9) hx hb dX4_become_1 (by decide) ?_
  refine lv_aload_n hx hb dX4_become_9 rfl (lv_at hl 0 rfl) ?_
  refine b_get (q := 24) (k := 3) hb0 X hK B rfl in_X4 (by omega) mg_24 (by decide) lk_X4_23 rfl rfl dX4_become_10 ?_
  refine lv_iload_n hx hb dX4_become_13 rfl (lv_at hl 1 rfl) ?_
  refine b_aald (q := 26) (t0 := 2) (v := ad (32 + a1.toNatClampNeg)) rfl X hK B (by omega) mg_26 rfl rfl (no_in hza1) rfl dX4_become_14 ?_
  have g1 : a1.toNatClampNeg < 4 := (no_lt hza1)
  refine k_i (k := 0) (n := 0) hA B (u_S (rest := []) X (c_X4_number l g N ad (mg g ad y cr dr th kn rf pl pz mc) (32 + a1.toNatClampNeg) (ad (32 + a1.toNatClampNeg)) (dr a1.toNatClampNeg) (pl_dr hN g1) rfl (mg_dr g1) (okd_mo (hdr _ g1)) H.size) mw_X4_number md_X4_number rfl lk_X4_198 ⟨Nat.le_of_ble_eq_true rfl, Nat.le_of_ble_eq_true rfl⟩ hA hK hT B hl.1 rfl (Nat.le_of_ble_eq_true rfl) dX4_become_15 ⟨Nat.le_of_ble_eq_true rfl, Nat.le_of_ble_eq_true rfl⟩) (Nat.le_of_ble_eq_true rfl) (Nat.le_of_ble_eq_true rfl) (fun r2 ad2 f' H locs hw B => ?_)
  obtain ⟨rfl, rfl, rfl⟩ := hw
  refine lv_aload_n hx hb dX4_become_18 rfl (lv_at hl 2 rfl) ?_
  refine k_i (k := 0) (n := 0) hA B (u_S (rest := [.int (v_X4_number (dr a1.toNatClampNeg))]) X (c_X4_number l g N ad (mg g ad y cr dr th kn rf pl pz mc) j2 bj2 tj2 hj2 hbj2 (mg_row hfj2 rfl) hit H.size) mw_X4_number md_X4_number rfl lk_X4_198 ⟨Nat.le_of_ble_eq_true rfl, Nat.le_of_ble_eq_true rfl⟩ hA hK hT B hl.1 rfl (Nat.le_of_ble_eq_true rfl) dX4_become_19 ⟨Nat.le_of_ble_eq_true rfl, Nat.le_of_ble_eq_true rfl⟩) (Nat.le_of_ble_eq_true rfl) (Nat.le_of_ble_eq_true rfl) (fun r3 ad3 f' H locs hw B => ?_)
  obtain ⟨rfl, rfl, rfl⟩ := hw
  refine lv_icmp_eq (tgt := 29) hx hb dX4_become_22 (by decide) (fun c4 => ?_) (fun c4 => ?_)
  · refine lv_iconst (v := 0) hx hb dX4_become_29 (by decide) ?_
    refine k_i (k := 0) (n := 0) hA B (u_S (rest := []) X (c_X4_one l g N ad (mg g ad y cr dr th kn rf pl pz mc) 0 H.size) mw_X4_one md_X4_one rfl lk_X4_91 ⟨Nat.le_of_ble_eq_true rfl, Nat.le_of_ble_eq_true rfl⟩ hA hK hT B hl.1 rfl (Nat.le_of_ble_eq_true rfl) dX4_become_30 ⟨Nat.le_of_ble_eq_true rfl, Nat.le_of_ble_eq_true rfl⟩) (Nat.le_of_ble_eq_true rfl) (Nat.le_of_ble_eq_true rfl) (fun r5 ad5 f' H locs hw B => ?_)
    obtain ⟨rfl, rfl, rfl⟩ := hw
    refine lv_istore_n (lv' := [(3, .int (v_X4_one 0)), (0, .ref b0), (1, .int a1), (2, .ref bj2)]) hx hb dX4_become_33 rfl hl (by decide) rfl (fun ls hl => ?_)
    refine lv_aload_n hx hb dX4_become_34 rfl (lv_at hl 1 rfl) ?_
    refine b_get (q := 24) (k := 3) hb0 X hK B rfl in_X4 (by omega) mg_24 (by decide) lk_X4_23 rfl rfl dX4_become_35 ?_
    refine lv_iload_n hx hb dX4_become_38 rfl (lv_at hl 2 rfl) ?_
    refine lv_iconst (v := 3) hx hb dX4_become_39 (by decide) ?_
    refine h_new3 (cz := 1) (sz := 3) X hA hK B (Nat.le_of_ble_eq_true rfl) (Nat.le_of_ble_eq_true rfl) (Nat.le_of_ble_eq_true rfl) (Nat.le_of_ble_eq_true rfl) dX4_become_40 (fun z6 H B => ?_)
    have B : WB g (aw N ad sz) s.heap (N + 1) (va_up ad N z6) (mg g (va_up ad N z6) (va_up y N (c_row g (0, 0, 0))) cr dr th kn rf pl pz mc) H locs := WM_push (by omega) B
    refine lv_dup hx hb dX4_become_42 rfl ?_
    refine lv_iconst (v := 0) hx hb dX4_become_43 (by decide) ?_
    refine lv_aload_n hx hb dX4_become_44 rfl (lv_at hl 3 rfl) ?_
    refine lv_iconst (v := 0) hx hb dX4_become_45 (by decide) ?_
    refine h_ld0 X hK B (Nat.lt_succ_of_lt hj2) ((up_lt hj2).trans hbj2) (mg_row hfj2 ((up_lt hj2).trans rfl)) dX4_become_46 ?_
    refine h_st (t := (0, 0, 0)) (t' := (tj2.1, 0, 0)) X hK B (Nat.lt_succ_self _) up_eq ((mg_hi (by omega)).trans up_eq) (by unfold vp_in; decide) (rw3_s0 _ _) dX4_become_47 (fun H locs B => ?_)
    rw [mg_yup (by omega), bx_uu] at B
    refine lv_dup hx hb dX4_become_48 rfl ?_
    refine lv_iconst (v := 1) hx hb dX4_become_49 (by decide) ?_
    refine lv_aload_n hx hb dX4_become_50 rfl (lv_at hl 3 rfl) ?_
    refine lv_iconst (v := 1) hx hb dX4_become_51 (by decide) ?_
    refine h_ld1 X hK B (Nat.lt_succ_of_lt hj2) ((up_lt hj2).trans hbj2) (mg_row hfj2 ((up_lt hj2).trans rfl)) dX4_become_52 ?_
    refine h_st (t := (tj2.1, 0, 0)) (t' := (tj2.1, tj2.2.1, 0)) X hK B (Nat.lt_succ_self _) up_eq ((mg_hi (by omega)).trans up_eq) (by unfold vp_in; decide) (rw3_s1 _ _) dX4_become_53 (fun H locs B => ?_)
    rw [mg_yup (by omega), bx_uu] at B
    refine lv_dup hx hb dX4_become_54 rfl ?_
    refine lv_iconst (v := 2) hx hb dX4_become_55 (by decide) ?_
    refine lv_aload_n hx hb dX4_become_56 rfl (lv_at hl 3 rfl) ?_
    refine lv_iconst (v := 2) hx hb dX4_become_57 (by decide) ?_
    refine h_ld2 X hK B (Nat.lt_succ_of_lt hj2) ((up_lt hj2).trans hbj2) (mg_row hfj2 ((up_lt hj2).trans rfl)) dX4_become_58 ?_
    refine h_st (t := (tj2.1, tj2.2.1, 0)) (t' := (tj2.1, tj2.2.1, tj2.2.2)) X hK B (Nat.lt_succ_self _) up_eq ((mg_hi (by omega)).trans up_eq) (by unfold vp_in; decide) (rw3_s2 _ _) dX4_become_59 (fun H locs B => ?_)
    rw [mg_yup (by omega), bx_uu] at B
    have g7 : a1.toNatClampNeg < 4 := (no_lt hza1)
    refine b_aast (q := 26) (qv := N) (up_lt (by omega)) X hK hT B (by omega) mg_26 (Nat.lt_succ_self _) up_eq ((mg_hi (by omega)).trans up_eq) (no_in hza1) dX4_become_60 (fun H locs B => ?_)
    have B : WB g (aw N ad sz) s.heap N (va_up ad (32 + a1.toNatClampNeg) z6) (mg g (va_up ad (32 + a1.toNatClampNeg) z6) y cr (va_up dr a1.toNatClampNeg (tj2.1, tj2.2.1, tj2.2.2)) th kn rf pl pz mc) H locs := WM_dr B (fun _ => rfl) hN g7
    have kk8 : ∀ k, k < N → k < 28 ∨ 36 ≤ k → (va_up ad (32 + a1.toNatClampNeg) z6) k = ad k := fun k hk hkq => (va_up_ne _ _ (by omega)).trans rfl
    have nb10 : (va_up ad (32 + a1.toNatClampNeg) z6) 24 = b0 := (va_up_ne _ _ (by omega)).trans hb0
    refine lv_iload_n hx hb dX4_become_61 rfl (lv_at hl 0 rfl) ?_
    have ev := (show v_X4_become dr a1 tj2 = ((v_X4_one 0), va_up dr a1.toNatClampNeg (tj2.1, tj2.2.1, tj2.2.2)) from by unfold v_X4_become; rw [if_pos c4])
    exact rt_i X hr ((va_up ad (32 + a1.toNatClampNeg) z6), mg g (va_up ad (32 + a1.toNatClampNeg) z6) y cr (va_up dr a1.toNatClampNeg (tj2.1, tj2.2.1, tj2.2.2)) th kn rf pl pz mc) B (PO_of B) ⟨kk8, by rw [ev], by rw [ev]⟩ rfl (Nat.le_of_ble_eq_true rfl) (Nat.le_of_ble_eq_true rfl) dX4_become_62
  · refine lv_iconst (v := 1) hx hb dX4_become_25 (by decide) ?_
    refine lv_goto (tgt := 30) hx hb dX4_become_26 (by decide) ?_
    refine k_i (k := 0) (n := 0) hA B (u_S (rest := []) X (c_X4_one l g N ad (mg g ad y cr dr th kn rf pl pz mc) 1 H.size) mw_X4_one md_X4_one rfl lk_X4_91 ⟨Nat.le_of_ble_eq_true rfl, Nat.le_of_ble_eq_true rfl⟩ hA hK hT B hl.1 rfl (Nat.le_of_ble_eq_true rfl) dX4_become_30 ⟨Nat.le_of_ble_eq_true rfl, Nat.le_of_ble_eq_true rfl⟩) (Nat.le_of_ble_eq_true rfl) (Nat.le_of_ble_eq_true rfl) (fun r11 ad11 f' H locs hw B => ?_)
    obtain ⟨rfl, rfl, rfl⟩ := hw
    refine lv_istore_n (lv' := [(3, .int (v_X4_one 1)), (0, .ref b0), (1, .int a1), (2, .ref bj2)]) hx hb dX4_become_33 rfl hl (by decide) rfl (fun ls hl => ?_)
    refine lv_aload_n hx hb dX4_become_34 rfl (lv_at hl 1 rfl) ?_
    refine b_get (q := 24) (k := 3) hb0 X hK B rfl in_X4 (by omega) mg_24 (by decide) lk_X4_23 rfl rfl dX4_become_35 ?_
    refine lv_iload_n hx hb dX4_become_38 rfl (lv_at hl 2 rfl) ?_
    refine lv_iconst (v := 3) hx hb dX4_become_39 (by decide) ?_
    refine h_new3 (cz := 1) (sz := 3) X hA hK B (Nat.le_of_ble_eq_true rfl) (Nat.le_of_ble_eq_true rfl) (Nat.le_of_ble_eq_true rfl) (Nat.le_of_ble_eq_true rfl) dX4_become_40 (fun z12 H B => ?_)
    have B : WB g (aw N ad sz) s.heap (N + 1) (va_up ad N z12) (mg g (va_up ad N z12) (va_up y N (c_row g (0, 0, 0))) cr dr th kn rf pl pz mc) H locs := WM_push (by omega) B
    refine lv_dup hx hb dX4_become_42 rfl ?_
    refine lv_iconst (v := 0) hx hb dX4_become_43 (by decide) ?_
    refine lv_aload_n hx hb dX4_become_44 rfl (lv_at hl 3 rfl) ?_
    refine lv_iconst (v := 0) hx hb dX4_become_45 (by decide) ?_
    refine h_ld0 X hK B (Nat.lt_succ_of_lt hj2) ((up_lt hj2).trans hbj2) (mg_row hfj2 ((up_lt hj2).trans rfl)) dX4_become_46 ?_
    refine h_st (t := (0, 0, 0)) (t' := (tj2.1, 0, 0)) X hK B (Nat.lt_succ_self _) up_eq ((mg_hi (by omega)).trans up_eq) (by unfold vp_in; decide) (rw3_s0 _ _) dX4_become_47 (fun H locs B => ?_)
    rw [mg_yup (by omega), bx_uu] at B
    refine lv_dup hx hb dX4_become_48 rfl ?_
    refine lv_iconst (v := 1) hx hb dX4_become_49 (by decide) ?_
    refine lv_aload_n hx hb dX4_become_50 rfl (lv_at hl 3 rfl) ?_
    refine lv_iconst (v := 1) hx hb dX4_become_51 (by decide) ?_
    refine h_ld1 X hK B (Nat.lt_succ_of_lt hj2) ((up_lt hj2).trans hbj2) (mg_row hfj2 ((up_lt hj2).trans rfl)) dX4_become_52 ?_
    refine h_st (t := (tj2.1, 0, 0)) (t' := (tj2.1, tj2.2.1, 0)) X hK B (Nat.lt_succ_self _) up_eq ((mg_hi (by omega)).trans up_eq) (by unfold vp_in; decide) (rw3_s1 _ _) dX4_become_53 (fun H locs B => ?_)
    rw [mg_yup (by omega), bx_uu] at B
    refine lv_dup hx hb dX4_become_54 rfl ?_
    refine lv_iconst (v := 2) hx hb dX4_become_55 (by decide) ?_
    refine lv_aload_n hx hb dX4_become_56 rfl (lv_at hl 3 rfl) ?_
    refine lv_iconst (v := 2) hx hb dX4_become_57 (by decide) ?_
    refine h_ld2 X hK B (Nat.lt_succ_of_lt hj2) ((up_lt hj2).trans hbj2) (mg_row hfj2 ((up_lt hj2).trans rfl)) dX4_become_58 ?_
    refine h_st (t := (tj2.1, tj2.2.1, 0)) (t' := (tj2.1, tj2.2.1, tj2.2.2)) X hK B (Nat.lt_succ_self _) up_eq ((mg_hi (by omega)).trans up_eq) (by unfold vp_in; decide) (rw3_s2 _ _) dX4_become_59 (fun H locs B => ?_)
    rw [mg_yup (by omega), bx_uu] at B
    have g13 : a1.toNatClampNeg < 4 := (no_lt hza1)
    refine b_aast (q := 26) (qv := N) (up_lt (by omega)) X hK hT B (by omega) mg_26 (Nat.lt_succ_self _) up_eq ((mg_hi (by omega)).trans up_eq) (no_in hza1) dX4_become_60 (fun H locs B => ?_)
    have B : WB g (aw N ad sz) s.heap N (va_up ad (32 + a1.toNatClampNeg) z12) (mg g (va_up ad (32 + a1.toNatClampNeg) z12) y cr (va_up dr a1.toNatClampNeg (tj2.1, tj2.2.1, tj2.2.2)) th kn rf pl pz mc) H locs := WM_dr B (fun _ => rfl) hN g13
    have kk14 : ∀ k, k < N → k < 28 ∨ 36 ≤ k → (va_up ad (32 + a1.toNatClampNeg) z12) k = ad k := fun k hk hkq => (va_up_ne _ _ (by omega)).trans rfl
    have nb16 : (va_up ad (32 + a1.toNatClampNeg) z12) 24 = b0 := (va_up_ne _ _ (by omega)).trans hb0
    refine lv_iload_n hx hb dX4_become_61 rfl (lv_at hl 0 rfl) ?_
    have ev := (show v_X4_become dr a1 tj2 = ((v_X4_one 1), va_up dr a1.toNatClampNeg (tj2.1, tj2.2.1, tj2.2.2)) from by unfold v_X4_become; rw [if_neg c4])
    exact rt_i X hr ((va_up ad (32 + a1.toNatClampNeg) z12), mg g (va_up ad (32 + a1.toNatClampNeg) z12) y cr (va_up dr a1.toNatClampNeg (tj2.1, tj2.2.1, tj2.2.2)) th kn rf pl pz mc) B (PO_of B) ⟨kk14, by rw [ev], by rw [ev]⟩ rfl (Nat.le_of_ble_eq_true rfl) (Nat.le_of_ble_eq_true rfl) dX4_become_62
def v_X4_becomeN (rf : Int32) : Int32 × Int32 := ((v_X4_refuse rf).1, (v_X4_refuse rf).2)
set_option maxHeartbeats 4000000 in
set_option maxRecDepth 100000 in
theorem c_X4_becomeN (l : Launch) (g : GG) (N : Nat) (ad : Nat → Nat) (y : Nat → va_E) (cr dr : Nat → TR) (th kn rf : Int32) (pl : Nat → TR) (pz : Nat) (mc : Int32) (hN : 36 + pz ≤ N) (b0 : Nat) (hb0 : ad 24 = b0) (a1 : Int32) : KI l yX4_become cX4_become 4 (some .int) (rm 1 0 0) g [.ref b0, .int a1, .null] N ad (mg g ad y cr dr th kn rf pl pz mc) N (fun r ad' f' => ad = ad' ∧ (v_X4_becomeN rf).1 = r ∧ mg g ad y cr dr th kn (v_X4_becomeN rf).2 pl pz mc = f') := by
  intro sz
  refine mt_start (by decide) (Nat.le_of_ble_eq_true rfl) ?_
  intro p e s m args below meth c hsz X hr hnam hA hK hT H locs B ls hl
  obtain ⟨hx, hb, hml, hown, hts, hlocks⟩ := id X
  have hl : lv_has ls 4 [(0, .ref b0), (1, .int a1), (2, .null)] := hl
  refine lv_aload_nN hx hb dX4_become_0 rfl (lv_at hl 2 rfl) ?_
  refine lv_ifnonnullN hx hb dX4_become_1 ?_
  refine lv_aload_n hx hb dX4_become_4 rfl (lv_at hl 0 rfl) ?_
  refine k_i (k := 0) (n := 0) hA B (b_V (q := 24) (rest := []) hb0 X (c_X4_refuse l g N ad y cr dr th kn rf pl pz mc (by omega) b0 hb0 H.size) mw_X4_refuse md_X4_refuse rfl lk_X4_83 ⟨Nat.le_of_ble_eq_true rfl, Nat.le_of_ble_eq_true rfl⟩ hA hK hT B (by omega) mg_24 rfl rfl hl.1 rfl (Nat.le_of_ble_eq_true rfl) dX4_become_5 ⟨Nat.le_of_ble_eq_true rfl, Nat.le_of_ble_eq_true rfl⟩) (Nat.le_of_ble_eq_true rfl) (Nat.le_of_ble_eq_true rfl) (fun r1 ad1 f' H locs hw B => ?_)
  obtain ⟨rfl, rfl, rfl⟩ := hw
  have ev := (show v_X4_becomeN rf = ((v_X4_refuse rf).1, (v_X4_refuse rf).2) from rfl)
  exact rt_i X hr (ad, mg g ad y cr dr th kn (v_X4_refuse rf).2 pl pz mc) B (PO_of B) ⟨rfl, by rw [ev], by rw [ev]⟩ rfl (Nat.le_of_ble_eq_true rfl) (Nat.le_of_ble_eq_true rfl) dX4_become_8
def v_X4_date (dr : Nat → TR) (a1 : Int32) (a2 : Int32) (a3 : Int32) (a4 : Int32) : Int32 × (Nat → TR) × Int32 := if (v_X4_isIn a2.toInt64 1600 2400) = 0 then (if v_X4_isNone a1 = 0 then (0, dr, 2) else (0, dr, 1)) else (if (v_X4_isIn a3.toInt64 1 12) = 0 then (if v_X4_isNone a1 = 0 then (0, dr, 2) else (0, dr, 1)) else (if (v_X4_isIn a4.toInt64 1 ((v_X4_length a2 a3).toInt64)) = 0 then (if v_X4_isNone a1 = 0 then (0, dr, 2) else (0, dr, 1)) else (if v_X4_isNone a1 = 0 then ((v_X4_become dr a1 (a2, a3, a4)).1, (v_X4_become dr a1 (a2, a3, a4)).2, 0) else (0, dr, 1))))
set_option maxHeartbeats 4000000 in
set_option maxRecDepth 100000 in
theorem c_X4_date (l : Launch) (g : GG) (N : Nat) (ad : Nat → Nat) (y : Nat → va_E) (cr dr : Nat → TR) (th kn rf : Int32) (pl : Nat → TR) (pz : Nat) (mc : Int32) (hN : 36 + pz ≤ N) (b0 : Nat) (hb0 : ad 24 = b0) (a1 : Int32) (a2 : Int32) (a3 : Int32) (a4 : Int32) (hdr : ∀ i, i < 4 → okd (dr i)) : KI l yX4_date cX4_date 6 (some .int) (rm 4 2 6) g [.ref b0, .int a1, .int a2, .int a3, .int a4] N ad (mg g ad y cr dr th kn rf pl pz mc) N (fun r ad' f' => (∀ k, k < N → k < 28 ∨ 36 ≤ k → ad' k = ad k) ∧ (v_X4_date dr a1 a2 a3 a4).1 = r ∧ mg g ad' y cr (v_X4_date dr a1 a2 a3 a4).2.1 (v_X4_date dr a1 a2 a3 a4).2.2 kn rf pl pz mc = f') := by
  intro sz
  refine mt_start (by decide) (Nat.le_of_ble_eq_true rfl) ?_
  intro p e s m args below meth c hsz X hr hnam hA hK hT H locs B ls hl
  obtain ⟨hx, hb, hml, hown, hts, hlocks⟩ := id X
  have hl : lv_has ls 6 [(0, .ref b0), (1, .int a1), (2, .int a2), (3, .int a3), (4, .int a4)] := hl
  refine lv_iload_n hx hb dX4_date_0 rfl (lv_at hl 2 rfl) ?_
  refine lv_i2l (v := a2.toInt64) hx hb dX4_date_1 rfl ?_
  refine lv_ldc2 hx hb hown (hts _ (List.mem_cons_of_mem _ lk_X4_208)) dX4_date_2 ?_
  refine lv_ldc2 hx hb hown (hts _ (List.mem_cons_of_mem _ lk_X4_210)) dX4_date_5 ?_
  refine k_i (k := 0) (n := 0) hA B (u_S (rest := []) X (c_X4_isIn l g N ad (mg g ad y cr dr th kn rf pl pz mc) a2.toInt64 1600 2400 H.size) mw_X4_isIn md_X4_isIn rfl lk_X4_37 ⟨Nat.le_of_ble_eq_true rfl, Nat.le_of_ble_eq_true rfl⟩ hA hK hT B hl.1 rfl (Nat.le_of_ble_eq_true rfl) dX4_date_8 ⟨Nat.le_of_ble_eq_true rfl, Nat.le_of_ble_eq_true rfl⟩) (Nat.le_of_ble_eq_true rfl) (Nat.le_of_ble_eq_true rfl) (fun r1 ad1 f' H locs hw B => ?_)
  obtain ⟨rfl, rfl, rfl⟩ := hw
  refine lv_if_eq (tgt := 42) hx hb dX4_date_11 (by decide) (fun c2 => ?_) (fun c2 => ?_)
  · refine lv_iconst (v := 1) hx hb dX4_date_42 (by decide) ?_
    refine lv_goto (tgt := 47) hx hb dX4_date_43 (by decide) ?_
    refine lv_istore (lv' := [(5, .int 1), (0, .ref b0), (1, .int a1), (2, .int a2), (3, .int a3), (4, .int a4)]) hx hb dX4_date_47 hl (by decide) rfl (fun ls hl => ?_)
    refine lv_aload_n hx hb dX4_date_49 rfl (lv_at hl 1 rfl) ?_
    refine lv_iload_n hx hb dX4_date_50 rfl (lv_at hl 2 rfl) ?_
    refine k_i (k := 0) (n := 0) hA B (u_S (rest := [.ref b0]) X (c_X4_isNone l g N ad (mg g ad y cr dr th kn rf pl pz mc) a1 H.size) mw_X4_isNone md_X4_isNone rfl lk_X4_95 ⟨Nat.le_of_ble_eq_true rfl, Nat.le_of_ble_eq_true rfl⟩ hA hK hT B hl.1 rfl (Nat.le_of_ble_eq_true rfl) dX4_date_51 ⟨Nat.le_of_ble_eq_true rfl, Nat.le_of_ble_eq_true rfl⟩) (Nat.le_of_ble_eq_true rfl) (Nat.le_of_ble_eq_true rfl) (fun r3 ad3 f' H locs hw B => ?_)
    obtain ⟨rfl, rfl, rfl⟩ := hw
    refine lv_iload hx hb dX4_date_54 (lv_at hl 0 rfl) ?_
    by_cases s4 : v_X4_isNone a1 = 0
    · rw [s4]
      refine k_i (k := 0) (n := 0) hA B (b_V (q := 24) (rest := []) hb0 X (c_X4_stops l g N ad y cr dr th kn rf pl pz mc (by omega) b0 hb0 0 1 H.size) mw_X4_stops md_X4_stops rfl lk_X4_99 ⟨Nat.le_of_ble_eq_true rfl, Nat.le_of_ble_eq_true rfl⟩ hA hK hT B (by omega) mg_24 rfl rfl hl.1 rfl (Nat.le_of_ble_eq_true rfl) dX4_date_56 ⟨Nat.le_of_ble_eq_true rfl, Nat.le_of_ble_eq_true rfl⟩) (Nat.le_of_ble_eq_true rfl) (Nat.le_of_ble_eq_true rfl) (fun r ad' f' H locs hw B => ?_)
      rw [st_01] at hw
      dsimp only at hw
      obtain ⟨rfl, rfl, rfl⟩ := hw
      have B : WB g (aw N ad sz) s.heap N ad (mg g ad y cr dr 2 kn rf pl pz mc) H locs := B
      refine lv_if_eq (tgt := 66) hx hb dX4_date_59 (by decide) (fun z => absurd z (by decide)) (fun _ => ?_)
      refine lv_iconst (v := 0) hx hb dX4_date_62 (by decide) ?_
      refine lv_goto (tgt := 87) hx hb dX4_date_63 (by decide) ?_
      have ev := (show v_X4_date dr a1 a2 a3 a4 = (0, dr, 2) from by unfold v_X4_date; rw [if_pos c2, if_pos s4])
      exact rt_i X hr (ad, mg g ad y cr dr 2 kn rf pl pz mc) B (PO_of B) ⟨(fun _ _ _ => rfl), by rw [ev], by rw [ev]⟩ rfl (Nat.le_of_ble_eq_true rfl) (Nat.le_of_ble_eq_true rfl) dX4_date_87
    · have s4x : (v_X4_isNone a1) = 1 := (b01_X4_isNone).resolve_left s4
      rw [s4x]
      refine k_i (k := 0) (n := 0) hA B (b_V (q := 24) (rest := []) hb0 X (c_X4_stops l g N ad y cr dr th kn rf pl pz mc (by omega) b0 hb0 1 1 H.size) mw_X4_stops md_X4_stops rfl lk_X4_99 ⟨Nat.le_of_ble_eq_true rfl, Nat.le_of_ble_eq_true rfl⟩ hA hK hT B (by omega) mg_24 rfl rfl hl.1 rfl (Nat.le_of_ble_eq_true rfl) dX4_date_56 ⟨Nat.le_of_ble_eq_true rfl, Nat.le_of_ble_eq_true rfl⟩) (Nat.le_of_ble_eq_true rfl) (Nat.le_of_ble_eq_true rfl) (fun r ad' f' H locs hw B => ?_)
      rw [st_11] at hw
      dsimp only at hw
      obtain ⟨rfl, rfl, rfl⟩ := hw
      have B : WB g (aw N ad sz) s.heap N ad (mg g ad y cr dr 1 kn rf pl pz mc) H locs := B
      refine lv_if_eq (tgt := 66) hx hb dX4_date_59 (by decide) (fun z => absurd z (by decide)) (fun _ => ?_)
      refine lv_iconst (v := 0) hx hb dX4_date_62 (by decide) ?_
      refine lv_goto (tgt := 87) hx hb dX4_date_63 (by decide) ?_
      have ev := (show v_X4_date dr a1 a2 a3 a4 = (0, dr, 1) from by unfold v_X4_date; rw [if_pos c2, if_neg s4])
      exact rt_i X hr (ad, mg g ad y cr dr 1 kn rf pl pz mc) B (PO_of B) ⟨(fun _ _ _ => rfl), by rw [ev], by rw [ev]⟩ rfl (Nat.le_of_ble_eq_true rfl) (Nat.le_of_ble_eq_true rfl) dX4_date_87
  · refine lv_iload_n hx hb dX4_date_14 rfl (lv_at hl 3 rfl) ?_
    refine lv_i2l (v := a3.toInt64) hx hb dX4_date_15 rfl ?_
    refine lv_lconst (v := 1) hx hb dX4_date_16 (by decide) ?_
    refine lv_ldc2 hx hb hown (hts _ (List.mem_cons_of_mem _ lk_X4_41)) dX4_date_17 ?_
    refine k_i (k := 0) (n := 0) hA B (u_S (rest := []) X (c_X4_isIn l g N ad (mg g ad y cr dr th kn rf pl pz mc) a3.toInt64 1 12 H.size) mw_X4_isIn md_X4_isIn rfl lk_X4_37 ⟨Nat.le_of_ble_eq_true rfl, Nat.le_of_ble_eq_true rfl⟩ hA hK hT B hl.1 rfl (Nat.le_of_ble_eq_true rfl) dX4_date_20 ⟨Nat.le_of_ble_eq_true rfl, Nat.le_of_ble_eq_true rfl⟩) (Nat.le_of_ble_eq_true rfl) (Nat.le_of_ble_eq_true rfl) (fun r5 ad5 f' H locs hw B => ?_)
    obtain ⟨rfl, rfl, rfl⟩ := hw
    refine lv_if_eq (tgt := 42) hx hb dX4_date_23 (by decide) (fun c6 => ?_) (fun c6 => ?_)
    · refine lv_iconst (v := 1) hx hb dX4_date_42 (by decide) ?_
      refine lv_goto (tgt := 47) hx hb dX4_date_43 (by decide) ?_
      refine lv_istore (lv' := [(5, .int 1), (0, .ref b0), (1, .int a1), (2, .int a2), (3, .int a3), (4, .int a4)]) hx hb dX4_date_47 hl (by decide) rfl (fun ls hl => ?_)
      refine lv_aload_n hx hb dX4_date_49 rfl (lv_at hl 1 rfl) ?_
      refine lv_iload_n hx hb dX4_date_50 rfl (lv_at hl 2 rfl) ?_
      refine k_i (k := 0) (n := 0) hA B (u_S (rest := [.ref b0]) X (c_X4_isNone l g N ad (mg g ad y cr dr th kn rf pl pz mc) a1 H.size) mw_X4_isNone md_X4_isNone rfl lk_X4_95 ⟨Nat.le_of_ble_eq_true rfl, Nat.le_of_ble_eq_true rfl⟩ hA hK hT B hl.1 rfl (Nat.le_of_ble_eq_true rfl) dX4_date_51 ⟨Nat.le_of_ble_eq_true rfl, Nat.le_of_ble_eq_true rfl⟩) (Nat.le_of_ble_eq_true rfl) (Nat.le_of_ble_eq_true rfl) (fun r7 ad7 f' H locs hw B => ?_)
      obtain ⟨rfl, rfl, rfl⟩ := hw
      refine lv_iload hx hb dX4_date_54 (lv_at hl 0 rfl) ?_
      by_cases s8 : v_X4_isNone a1 = 0
      · rw [s8]
        refine k_i (k := 0) (n := 0) hA B (b_V (q := 24) (rest := []) hb0 X (c_X4_stops l g N ad y cr dr th kn rf pl pz mc (by omega) b0 hb0 0 1 H.size) mw_X4_stops md_X4_stops rfl lk_X4_99 ⟨Nat.le_of_ble_eq_true rfl, Nat.le_of_ble_eq_true rfl⟩ hA hK hT B (by omega) mg_24 rfl rfl hl.1 rfl (Nat.le_of_ble_eq_true rfl) dX4_date_56 ⟨Nat.le_of_ble_eq_true rfl, Nat.le_of_ble_eq_true rfl⟩) (Nat.le_of_ble_eq_true rfl) (Nat.le_of_ble_eq_true rfl) (fun r ad' f' H locs hw B => ?_)
        rw [st_01] at hw
        dsimp only at hw
        obtain ⟨rfl, rfl, rfl⟩ := hw
        have B : WB g (aw N ad sz) s.heap N ad (mg g ad y cr dr 2 kn rf pl pz mc) H locs := B
        refine lv_if_eq (tgt := 66) hx hb dX4_date_59 (by decide) (fun z => absurd z (by decide)) (fun _ => ?_)
        refine lv_iconst (v := 0) hx hb dX4_date_62 (by decide) ?_
        refine lv_goto (tgt := 87) hx hb dX4_date_63 (by decide) ?_
        have ev := (show v_X4_date dr a1 a2 a3 a4 = (0, dr, 2) from by unfold v_X4_date; rw [if_neg c2, if_pos c6, if_pos s8])
        exact rt_i X hr (ad, mg g ad y cr dr 2 kn rf pl pz mc) B (PO_of B) ⟨(fun _ _ _ => rfl), by rw [ev], by rw [ev]⟩ rfl (Nat.le_of_ble_eq_true rfl) (Nat.le_of_ble_eq_true rfl) dX4_date_87
      · have s8x : (v_X4_isNone a1) = 1 := (b01_X4_isNone).resolve_left s8
        rw [s8x]
        refine k_i (k := 0) (n := 0) hA B (b_V (q := 24) (rest := []) hb0 X (c_X4_stops l g N ad y cr dr th kn rf pl pz mc (by omega) b0 hb0 1 1 H.size) mw_X4_stops md_X4_stops rfl lk_X4_99 ⟨Nat.le_of_ble_eq_true rfl, Nat.le_of_ble_eq_true rfl⟩ hA hK hT B (by omega) mg_24 rfl rfl hl.1 rfl (Nat.le_of_ble_eq_true rfl) dX4_date_56 ⟨Nat.le_of_ble_eq_true rfl, Nat.le_of_ble_eq_true rfl⟩) (Nat.le_of_ble_eq_true rfl) (Nat.le_of_ble_eq_true rfl) (fun r ad' f' H locs hw B => ?_)
        rw [st_11] at hw
        dsimp only at hw
        obtain ⟨rfl, rfl, rfl⟩ := hw
        have B : WB g (aw N ad sz) s.heap N ad (mg g ad y cr dr 1 kn rf pl pz mc) H locs := B
        refine lv_if_eq (tgt := 66) hx hb dX4_date_59 (by decide) (fun z => absurd z (by decide)) (fun _ => ?_)
        refine lv_iconst (v := 0) hx hb dX4_date_62 (by decide) ?_
        refine lv_goto (tgt := 87) hx hb dX4_date_63 (by decide) ?_
        have ev := (show v_X4_date dr a1 a2 a3 a4 = (0, dr, 1) from by unfold v_X4_date; rw [if_neg c2, if_pos c6, if_neg s8])
        exact rt_i X hr (ad, mg g ad y cr dr 1 kn rf pl pz mc) B (PO_of B) ⟨(fun _ _ _ => rfl), by rw [ev], by rw [ev]⟩ rfl (Nat.le_of_ble_eq_true rfl) (Nat.le_of_ble_eq_true rfl) dX4_date_87
    · refine lv_iload hx hb dX4_date_26 (lv_at hl 4 rfl) ?_
      refine lv_i2l (v := a4.toInt64) hx hb dX4_date_28 rfl ?_
      refine lv_lconst (v := 1) hx hb dX4_date_29 (by decide) ?_
      refine lv_iload_n hx hb dX4_date_30 rfl (lv_at hl 2 rfl) ?_
      refine lv_iload_n hx hb dX4_date_31 rfl (lv_at hl 3 rfl) ?_
      refine k_i (k := 0) (n := 0) hA B (u_S (rest := [.long 1, .long a4.toInt64]) X (c_X4_length l g N ad (mg g ad y cr dr th kn rf pl pz mc) a2 a3 (isin_mp c6) H.size) mw_X4_length md_X4_length rfl lk_X4_181 ⟨Nat.le_of_ble_eq_true rfl, Nat.le_of_ble_eq_true rfl⟩ hA hK hT B hl.1 rfl (Nat.le_of_ble_eq_true rfl) dX4_date_32 ⟨Nat.le_of_ble_eq_true rfl, Nat.le_of_ble_eq_true rfl⟩) (Nat.le_of_ble_eq_true rfl) (Nat.le_of_ble_eq_true rfl) (fun r9 ad9 f' H locs hw B => ?_)
      obtain ⟨rfl, rfl, rfl⟩ := hw
      refine lv_i2l (v := (v_X4_length a2 a3).toInt64) hx hb dX4_date_35 rfl ?_
      refine k_i (k := 0) (n := 0) hA B (u_S (rest := []) X (c_X4_isIn l g N ad (mg g ad y cr dr th kn rf pl pz mc) a4.toInt64 1 ((v_X4_length a2 a3).toInt64) H.size) mw_X4_isIn md_X4_isIn rfl lk_X4_37 ⟨Nat.le_of_ble_eq_true rfl, Nat.le_of_ble_eq_true rfl⟩ hA hK hT B hl.1 rfl (Nat.le_of_ble_eq_true rfl) dX4_date_36 ⟨Nat.le_of_ble_eq_true rfl, Nat.le_of_ble_eq_true rfl⟩) (Nat.le_of_ble_eq_true rfl) (Nat.le_of_ble_eq_true rfl) (fun r10 ad10 f' H locs hw B => ?_)
      obtain ⟨rfl, rfl, rfl⟩ := hw
      refine lv_if_ne (tgt := 46) hx hb dX4_date_39 (by decide) (fun c11 => ?_) (fun c11 => ?_)
      · refine lv_iconst (v := 0) hx hb dX4_date_46 (by decide) ?_
        refine lv_istore (lv' := [(5, .int 0), (0, .ref b0), (1, .int a1), (2, .int a2), (3, .int a3), (4, .int a4)]) hx hb dX4_date_47 hl (by decide) rfl (fun ls hl => ?_)
        refine lv_aload_n hx hb dX4_date_49 rfl (lv_at hl 1 rfl) ?_
        refine lv_iload_n hx hb dX4_date_50 rfl (lv_at hl 2 rfl) ?_
        refine k_i (k := 0) (n := 0) hA B (u_S (rest := [.ref b0]) X (c_X4_isNone l g N ad (mg g ad y cr dr th kn rf pl pz mc) a1 H.size) mw_X4_isNone md_X4_isNone rfl lk_X4_95 ⟨Nat.le_of_ble_eq_true rfl, Nat.le_of_ble_eq_true rfl⟩ hA hK hT B hl.1 rfl (Nat.le_of_ble_eq_true rfl) dX4_date_51 ⟨Nat.le_of_ble_eq_true rfl, Nat.le_of_ble_eq_true rfl⟩) (Nat.le_of_ble_eq_true rfl) (Nat.le_of_ble_eq_true rfl) (fun r12 ad12 f' H locs hw B => ?_)
        obtain ⟨rfl, rfl, rfl⟩ := hw
        refine lv_iload hx hb dX4_date_54 (lv_at hl 0 rfl) ?_
        by_cases s13 : v_X4_isNone a1 = 0
        · rw [s13]
          refine k_i (k := 0) (n := 0) hA B (b_V (q := 24) (rest := []) hb0 X (c_X4_stops l g N ad y cr dr th kn rf pl pz mc (by omega) b0 hb0 0 0 H.size) mw_X4_stops md_X4_stops rfl lk_X4_99 ⟨Nat.le_of_ble_eq_true rfl, Nat.le_of_ble_eq_true rfl⟩ hA hK hT B (by omega) mg_24 rfl rfl hl.1 rfl (Nat.le_of_ble_eq_true rfl) dX4_date_56 ⟨Nat.le_of_ble_eq_true rfl, Nat.le_of_ble_eq_true rfl⟩) (Nat.le_of_ble_eq_true rfl) (Nat.le_of_ble_eq_true rfl) (fun r ad' f' H locs hw B => ?_)
          rw [st_00] at hw
          dsimp only at hw
          obtain ⟨rfl, rfl, rfl⟩ := hw
          have B : WB g (aw N ad sz) s.heap N ad (mg g ad y cr dr 0 kn rf pl pz mc) H locs := B
          refine lv_if_eq (tgt := 66) hx hb dX4_date_59 (by decide) (fun _ => ?_) (fun z => absurd z (by decide))
          refine lv_aload_n hx hb dX4_date_66 rfl (lv_at hl 1 rfl) ?_
          refine lv_iload_n hx hb dX4_date_67 rfl (lv_at hl 2 rfl) ?_
          refine lv_iconst (v := 3) hx hb dX4_date_68 (by decide) ?_
          refine h_new3 (cz := 1) (sz := 3) X hA hK B (Nat.le_of_ble_eq_true rfl) (Nat.le_of_ble_eq_true rfl) (Nat.le_of_ble_eq_true rfl) (Nat.le_of_ble_eq_true rfl) dX4_date_69 (fun z14 H B => ?_)
          have B : WB g (aw N ad sz) s.heap (N + 1) (va_up ad N z14) (mg g (va_up ad N z14) (va_up y N (c_row g (0, 0, 0))) cr dr 0 kn rf pl pz mc) H locs := WM_push (by omega) B
          refine lv_dup hx hb dX4_date_71 rfl ?_
          refine lv_iconst (v := 0) hx hb dX4_date_72 (by decide) ?_
          refine lv_iload_n hx hb dX4_date_73 rfl (lv_at hl 3 rfl) ?_
          refine h_st (t := (0, 0, 0)) (t' := (a2, 0, 0)) X hK B (Nat.lt_succ_self _) up_eq ((mg_hi (by omega)).trans up_eq) (by unfold vp_in; decide) (rw3_s0 _ _) dX4_date_74 (fun H locs B => ?_)
          rw [mg_yup (by omega), bx_uu] at B
          refine lv_dup hx hb dX4_date_75 rfl ?_
          refine lv_iconst (v := 1) hx hb dX4_date_76 (by decide) ?_
          refine lv_iload_n hx hb dX4_date_77 rfl (lv_at hl 4 rfl) ?_
          refine h_st (t := (a2, 0, 0)) (t' := (a2, a3, 0)) X hK B (Nat.lt_succ_self _) up_eq ((mg_hi (by omega)).trans up_eq) (by unfold vp_in; decide) (rw3_s1 _ _) dX4_date_78 (fun H locs B => ?_)
          rw [mg_yup (by omega), bx_uu] at B
          refine lv_dup hx hb dX4_date_79 rfl ?_
          refine lv_iconst (v := 2) hx hb dX4_date_80 (by decide) ?_
          refine lv_iload hx hb dX4_date_81 (lv_at hl 5 rfl) ?_
          refine h_st (t := (a2, a3, 0)) (t' := (a2, a3, a4)) X hK B (Nat.lt_succ_self _) up_eq ((mg_hi (by omega)).trans up_eq) (by unfold vp_in; decide) (rw3_s2 _ _) dX4_date_83 (fun H locs B => ?_)
          rw [mg_yup (by omega), bx_uu] at B
          refine k_i (k := 2) (n := 6) hA B (b_V (q := 24) (rest := []) ((up_lt (by omega)).trans hb0) X (c_X4_become l g (N + 1) (va_up ad N z14) (va_up y N (c_row g (a2, a3, a4))) cr dr 0 kn rf pl pz mc (by omega) b0 ((up_lt (by omega)).trans hb0) a1 N z14 (a2, a3, a4) (Nat.lt_succ_self _) up_eq ((mg_hi (by omega)).trans up_eq) s13 hdr (okd_mo (isin_okd c2 c6 c11)) H.size) mw_X4_become md_X4_become rfl lk_X4_212 ⟨Nat.le_of_ble_eq_true rfl, Nat.le_of_ble_eq_true rfl⟩ hA hK hT B (by omega) mg_24 rfl rfl hl.1 rfl (Nat.le_of_ble_eq_true rfl) dX4_date_84 ⟨Nat.le_of_ble_eq_true rfl, Nat.le_of_ble_eq_true rfl⟩) (Nat.le_of_ble_eq_true rfl) (Nat.le_of_ble_eq_true rfl) (fun r15 ad15 f' H locs hw B => ?_)
          dsimp only at hw
          obtain ⟨mv16, rfl, rfl⟩ := hw
          have B : WB g (aw N ad sz) s.heap N ad15 (mg g ad15 y cr (v_X4_become dr a1 (a2, a3, a4)).2 0 kn rf pl pz mc) H locs := WM_drop B (by omega) (by omega) (fun _ _ => rfl) (fun _ hk => (up_lt hk))
          have kk17 : ∀ k, k < N → k < 28 ∨ 36 ≤ k → ad15 k = ad k := fun k hk hkq => (mv16 k (by omega) hkq).trans (((fun _ hk => (up_lt hk)) k hk).trans rfl)
          have nb18 : ad15 24 = b0 := (mv16 24 (by omega) (Or.inl (by decide))).trans ((up_lt (by omega)).trans hb0)
          have ev := (show v_X4_date dr a1 a2 a3 a4 = ((v_X4_become dr a1 (a2, a3, a4)).1, (v_X4_become dr a1 (a2, a3, a4)).2, 0) from by unfold v_X4_date; rw [if_neg c2, if_neg c6, if_neg c11, if_pos s13])
          exact rt_i X hr (ad15, mg g ad15 y cr (v_X4_become dr a1 (a2, a3, a4)).2 0 kn rf pl pz mc) B (PO_of B) ⟨kk17, by rw [ev], by rw [ev]⟩ rfl (Nat.le_of_ble_eq_true rfl) (Nat.le_of_ble_eq_true rfl) dX4_date_87
        · have s13x : (v_X4_isNone a1) = 1 := (b01_X4_isNone).resolve_left s13
          rw [s13x]
          refine k_i (k := 0) (n := 0) hA B (b_V (q := 24) (rest := []) hb0 X (c_X4_stops l g N ad y cr dr th kn rf pl pz mc (by omega) b0 hb0 1 0 H.size) mw_X4_stops md_X4_stops rfl lk_X4_99 ⟨Nat.le_of_ble_eq_true rfl, Nat.le_of_ble_eq_true rfl⟩ hA hK hT B (by omega) mg_24 rfl rfl hl.1 rfl (Nat.le_of_ble_eq_true rfl) dX4_date_56 ⟨Nat.le_of_ble_eq_true rfl, Nat.le_of_ble_eq_true rfl⟩) (Nat.le_of_ble_eq_true rfl) (Nat.le_of_ble_eq_true rfl) (fun r ad' f' H locs hw B => ?_)
          rw [st_10] at hw
          dsimp only at hw
          obtain ⟨rfl, rfl, rfl⟩ := hw
          have B : WB g (aw N ad sz) s.heap N ad (mg g ad y cr dr 1 kn rf pl pz mc) H locs := B
          refine lv_if_eq (tgt := 66) hx hb dX4_date_59 (by decide) (fun z => absurd z (by decide)) (fun _ => ?_)
          refine lv_iconst (v := 0) hx hb dX4_date_62 (by decide) ?_
          refine lv_goto (tgt := 87) hx hb dX4_date_63 (by decide) ?_
          have ev := (show v_X4_date dr a1 a2 a3 a4 = (0, dr, 1) from by unfold v_X4_date; rw [if_neg c2, if_neg c6, if_neg c11, if_neg s13])
          exact rt_i X hr (ad, mg g ad y cr dr 1 kn rf pl pz mc) B (PO_of B) ⟨(fun _ _ _ => rfl), by rw [ev], by rw [ev]⟩ rfl (Nat.le_of_ble_eq_true rfl) (Nat.le_of_ble_eq_true rfl) dX4_date_87
      · refine lv_iconst (v := 1) hx hb dX4_date_42 (by decide) ?_
        refine lv_goto (tgt := 47) hx hb dX4_date_43 (by decide) ?_
        refine lv_istore (lv' := [(5, .int 1), (0, .ref b0), (1, .int a1), (2, .int a2), (3, .int a3), (4, .int a4)]) hx hb dX4_date_47 hl (by decide) rfl (fun ls hl => ?_)
        refine lv_aload_n hx hb dX4_date_49 rfl (lv_at hl 1 rfl) ?_
        refine lv_iload_n hx hb dX4_date_50 rfl (lv_at hl 2 rfl) ?_
        refine k_i (k := 0) (n := 0) hA B (u_S (rest := [.ref b0]) X (c_X4_isNone l g N ad (mg g ad y cr dr th kn rf pl pz mc) a1 H.size) mw_X4_isNone md_X4_isNone rfl lk_X4_95 ⟨Nat.le_of_ble_eq_true rfl, Nat.le_of_ble_eq_true rfl⟩ hA hK hT B hl.1 rfl (Nat.le_of_ble_eq_true rfl) dX4_date_51 ⟨Nat.le_of_ble_eq_true rfl, Nat.le_of_ble_eq_true rfl⟩) (Nat.le_of_ble_eq_true rfl) (Nat.le_of_ble_eq_true rfl) (fun r19 ad19 f' H locs hw B => ?_)
        obtain ⟨rfl, rfl, rfl⟩ := hw
        refine lv_iload hx hb dX4_date_54 (lv_at hl 0 rfl) ?_
        by_cases s20 : v_X4_isNone a1 = 0
        · rw [s20]
          refine k_i (k := 0) (n := 0) hA B (b_V (q := 24) (rest := []) hb0 X (c_X4_stops l g N ad y cr dr th kn rf pl pz mc (by omega) b0 hb0 0 1 H.size) mw_X4_stops md_X4_stops rfl lk_X4_99 ⟨Nat.le_of_ble_eq_true rfl, Nat.le_of_ble_eq_true rfl⟩ hA hK hT B (by omega) mg_24 rfl rfl hl.1 rfl (Nat.le_of_ble_eq_true rfl) dX4_date_56 ⟨Nat.le_of_ble_eq_true rfl, Nat.le_of_ble_eq_true rfl⟩) (Nat.le_of_ble_eq_true rfl) (Nat.le_of_ble_eq_true rfl) (fun r ad' f' H locs hw B => ?_)
          rw [st_01] at hw
          dsimp only at hw
          obtain ⟨rfl, rfl, rfl⟩ := hw
          have B : WB g (aw N ad sz) s.heap N ad (mg g ad y cr dr 2 kn rf pl pz mc) H locs := B
          refine lv_if_eq (tgt := 66) hx hb dX4_date_59 (by decide) (fun z => absurd z (by decide)) (fun _ => ?_)
          refine lv_iconst (v := 0) hx hb dX4_date_62 (by decide) ?_
          refine lv_goto (tgt := 87) hx hb dX4_date_63 (by decide) ?_
          have ev := (show v_X4_date dr a1 a2 a3 a4 = (0, dr, 2) from by unfold v_X4_date; rw [if_neg c2, if_neg c6, if_pos c11, if_pos s20])
          exact rt_i X hr (ad, mg g ad y cr dr 2 kn rf pl pz mc) B (PO_of B) ⟨(fun _ _ _ => rfl), by rw [ev], by rw [ev]⟩ rfl (Nat.le_of_ble_eq_true rfl) (Nat.le_of_ble_eq_true rfl) dX4_date_87
        · have s20x : (v_X4_isNone a1) = 1 := (b01_X4_isNone).resolve_left s20
          rw [s20x]
          refine k_i (k := 0) (n := 0) hA B (b_V (q := 24) (rest := []) hb0 X (c_X4_stops l g N ad y cr dr th kn rf pl pz mc (by omega) b0 hb0 1 1 H.size) mw_X4_stops md_X4_stops rfl lk_X4_99 ⟨Nat.le_of_ble_eq_true rfl, Nat.le_of_ble_eq_true rfl⟩ hA hK hT B (by omega) mg_24 rfl rfl hl.1 rfl (Nat.le_of_ble_eq_true rfl) dX4_date_56 ⟨Nat.le_of_ble_eq_true rfl, Nat.le_of_ble_eq_true rfl⟩) (Nat.le_of_ble_eq_true rfl) (Nat.le_of_ble_eq_true rfl) (fun r ad' f' H locs hw B => ?_)
          rw [st_11] at hw
          dsimp only at hw
          obtain ⟨rfl, rfl, rfl⟩ := hw
          have B : WB g (aw N ad sz) s.heap N ad (mg g ad y cr dr 1 kn rf pl pz mc) H locs := B
          refine lv_if_eq (tgt := 66) hx hb dX4_date_59 (by decide) (fun z => absurd z (by decide)) (fun _ => ?_)
          refine lv_iconst (v := 0) hx hb dX4_date_62 (by decide) ?_
          refine lv_goto (tgt := 87) hx hb dX4_date_63 (by decide) ?_
          have ev := (show v_X4_date dr a1 a2 a3 a4 = (0, dr, 1) from by unfold v_X4_date; rw [if_neg c2, if_neg c6, if_pos c11, if_neg s20])
          exact rt_i X hr (ad, mg g ad y cr dr 1 kn rf pl pz mc) B (PO_of B) ⟨(fun _ _ _ => rfl), by rw [ev], by rw [ev]⟩ rfl (Nat.le_of_ble_eq_true rfl) (Nat.le_of_ble_eq_true rfl) dX4_date_87
def v_X4_copyDate (dr : Nat → TR) (a1 : Int32) (a2 : Int32) : Int32 × (Nat → TR) × Int32 := if (v_X4_isNone a1) = 0 then (if (v_X4_isNone a2) = 0 then ((v_X4_become dr a1 (dr a2.toNatClampNeg)).1, (v_X4_become dr a1 (dr a2.toNatClampNeg)).2, 0) else (0, dr, 1)) else (0, dr, 1)
set_option maxHeartbeats 4000000 in
set_option maxRecDepth 100000 in
theorem c_X4_copyDate (l : Launch) (g : GG) (N : Nat) (ad : Nat → Nat) (y : Nat → va_E) (cr dr : Nat → TR) (th kn rf : Int32) (pl : Nat → TR) (pz : Nat) (mc : Int32) (hN : 36 + pz ≤ N) (b0 : Nat) (hb0 : ad 24 = b0) (a1 : Int32) (a2 : Int32) (hdr : ∀ i, i < 4 → okd (dr i)) : KI l yX4_copyDate cX4_copyDate 3 (some .int) (rm 4 1 3) g [.ref b0, .int a1, .int a2] N ad (mg g ad y cr dr th kn rf pl pz mc) N (fun r ad' f' => (∀ k, k < N → k < 28 ∨ 36 ≤ k → ad' k = ad k) ∧ (v_X4_copyDate dr a1 a2).1 = r ∧ mg g ad' y cr (v_X4_copyDate dr a1 a2).2.1 (v_X4_copyDate dr a1 a2).2.2 kn rf pl pz mc = f') := by
  intro sz
  refine mt_start (by decide) (Nat.le_of_ble_eq_true rfl) ?_
  intro p e s m args below meth c hsz X hr hnam hA hK hT H locs B ls hl
  obtain ⟨hx, hb, hml, hown, hts, hlocks⟩ := id X
  have hl : lv_has ls 3 [(0, .ref b0), (1, .int a1), (2, .int a2)] := hl
  refine lv_aload_n hx hb dX4_copyDate_0 rfl (lv_at hl 0 rfl) ?_
  refine lv_iload_n hx hb dX4_copyDate_1 rfl (lv_at hl 1 rfl) ?_
  refine k_i (k := 0) (n := 0) hA B (u_S (rest := [.ref b0]) X (c_X4_isNone l g N ad (mg g ad y cr dr th kn rf pl pz mc) a1 H.size) mw_X4_isNone md_X4_isNone rfl lk_X4_95 ⟨Nat.le_of_ble_eq_true rfl, Nat.le_of_ble_eq_true rfl⟩ hA hK hT B hl.1 rfl (Nat.le_of_ble_eq_true rfl) dX4_copyDate_2 ⟨Nat.le_of_ble_eq_true rfl, Nat.le_of_ble_eq_true rfl⟩) (Nat.le_of_ble_eq_true rfl) (Nat.le_of_ble_eq_true rfl) (fun r1 ad1 f' H locs hw B => ?_)
  obtain ⟨rfl, rfl, rfl⟩ := hw
  refine lv_if_ne (tgt := 15) hx hb dX4_copyDate_5 (by decide) (fun c2 => ?_) (fun c2 => ?_)
  · refine lv_iconst (v := 1) hx hb dX4_copyDate_15 (by decide) ?_
    refine lv_goto (tgt := 20) hx hb dX4_copyDate_16 (by decide) ?_
    refine lv_iconst (v := 0) hx hb dX4_copyDate_20 (by decide) ?_
    refine k_i (k := 0) (n := 0) hA B (b_V (q := 24) (rest := []) hb0 X (c_X4_stops l g N ad y cr dr th kn rf pl pz mc (by omega) b0 hb0 1 0 H.size) mw_X4_stops md_X4_stops rfl lk_X4_99 ⟨Nat.le_of_ble_eq_true rfl, Nat.le_of_ble_eq_true rfl⟩ hA hK hT B (by omega) mg_24 rfl rfl hl.1 rfl (Nat.le_of_ble_eq_true rfl) dX4_copyDate_21 ⟨Nat.le_of_ble_eq_true rfl, Nat.le_of_ble_eq_true rfl⟩) (Nat.le_of_ble_eq_true rfl) (Nat.le_of_ble_eq_true rfl) (fun r ad' f' H locs hw B => ?_)
    rw [st_10] at hw
    dsimp only at hw
    obtain ⟨rfl, rfl, rfl⟩ := hw
    have B : WB g (aw N ad sz) s.heap N ad (mg g ad y cr dr 1 kn rf pl pz mc) H locs := B
    refine lv_if_eq (tgt := 31) hx hb dX4_copyDate_24 (by decide) (fun z => absurd z (by decide)) (fun _ => ?_)
    refine lv_iconst (v := 0) hx hb dX4_copyDate_27 (by decide) ?_
    refine lv_goto (tgt := 42) hx hb dX4_copyDate_28 (by decide) ?_
    have ev := (show v_X4_copyDate dr a1 a2 = (0, dr, 1) from by unfold v_X4_copyDate; rw [if_neg c2])
    exact rt_i X hr (ad, mg g ad y cr dr 1 kn rf pl pz mc) B (PO_of B) ⟨(fun _ _ _ => rfl), by rw [ev], by rw [ev]⟩ rfl (Nat.le_of_ble_eq_true rfl) (Nat.le_of_ble_eq_true rfl) dX4_copyDate_42
  · refine lv_iload_n hx hb dX4_copyDate_8 rfl (lv_at hl 2 rfl) ?_
    refine k_i (k := 0) (n := 0) hA B (u_S (rest := [.ref b0]) X (c_X4_isNone l g N ad (mg g ad y cr dr th kn rf pl pz mc) a2 H.size) mw_X4_isNone md_X4_isNone rfl lk_X4_95 ⟨Nat.le_of_ble_eq_true rfl, Nat.le_of_ble_eq_true rfl⟩ hA hK hT B hl.1 rfl (Nat.le_of_ble_eq_true rfl) dX4_copyDate_9 ⟨Nat.le_of_ble_eq_true rfl, Nat.le_of_ble_eq_true rfl⟩) (Nat.le_of_ble_eq_true rfl) (Nat.le_of_ble_eq_true rfl) (fun r3 ad3 f' H locs hw B => ?_)
    obtain ⟨rfl, rfl, rfl⟩ := hw
    refine lv_if_eq (tgt := 19) hx hb dX4_copyDate_12 (by decide) (fun c4 => ?_) (fun c4 => ?_)
    · refine lv_iconst (v := 0) hx hb dX4_copyDate_19 (by decide) ?_
      refine lv_iconst (v := 0) hx hb dX4_copyDate_20 (by decide) ?_
      refine k_i (k := 0) (n := 0) hA B (b_V (q := 24) (rest := []) hb0 X (c_X4_stops l g N ad y cr dr th kn rf pl pz mc (by omega) b0 hb0 0 0 H.size) mw_X4_stops md_X4_stops rfl lk_X4_99 ⟨Nat.le_of_ble_eq_true rfl, Nat.le_of_ble_eq_true rfl⟩ hA hK hT B (by omega) mg_24 rfl rfl hl.1 rfl (Nat.le_of_ble_eq_true rfl) dX4_copyDate_21 ⟨Nat.le_of_ble_eq_true rfl, Nat.le_of_ble_eq_true rfl⟩) (Nat.le_of_ble_eq_true rfl) (Nat.le_of_ble_eq_true rfl) (fun r ad' f' H locs hw B => ?_)
      rw [st_00] at hw
      dsimp only at hw
      obtain ⟨rfl, rfl, rfl⟩ := hw
      have B : WB g (aw N ad sz) s.heap N ad (mg g ad y cr dr 0 kn rf pl pz mc) H locs := B
      refine lv_if_eq (tgt := 31) hx hb dX4_copyDate_24 (by decide) (fun _ => ?_) (fun z => absurd z (by decide))
      refine lv_aload_n hx hb dX4_copyDate_31 rfl (lv_at hl 0 rfl) ?_
      refine lv_iload_n hx hb dX4_copyDate_32 rfl (lv_at hl 1 rfl) ?_
      refine lv_aload_n hx hb dX4_copyDate_33 rfl (lv_at hl 0 rfl) ?_
      refine b_get (q := 24) (k := 3) hb0 X hK B rfl in_X4 (by omega) mg_24 (by decide) lk_X4_23 rfl rfl dX4_copyDate_34 ?_
      refine lv_iload_n hx hb dX4_copyDate_37 rfl (lv_at hl 2 rfl) ?_
      refine b_aald (q := 26) (t0 := 2) (v := ad (32 + a2.toNatClampNeg)) rfl X hK B (by omega) mg_26 rfl rfl (no_in c4) rfl dX4_copyDate_38 ?_
      have g5 : a2.toNatClampNeg < 4 := (no_lt c4)
      refine k_i (k := 1) (n := 3) hA B (b_V (q := 24) (rest := []) hb0 X (c_X4_become l g N ad y cr dr 0 kn rf pl pz mc (by omega) b0 hb0 a1 (32 + a2.toNatClampNeg) (ad (32 + a2.toNatClampNeg)) (dr a2.toNatClampNeg) (pl_dr hN g5) rfl (mg_dr g5) c2 hdr (okd_mo (hdr _ g5)) H.size) mw_X4_become md_X4_become rfl lk_X4_212 ⟨Nat.le_of_ble_eq_true rfl, Nat.le_of_ble_eq_true rfl⟩ hA hK hT B (by omega) mg_24 rfl rfl hl.1 rfl (Nat.le_of_ble_eq_true rfl) dX4_copyDate_39 ⟨Nat.le_of_ble_eq_true rfl, Nat.le_of_ble_eq_true rfl⟩) (Nat.le_of_ble_eq_true rfl) (Nat.le_of_ble_eq_true rfl) (fun r6 ad6 f' H locs hw B => ?_)
      dsimp only at hw
      obtain ⟨mv7, rfl, rfl⟩ := hw
      have kk8 : ∀ k, k < N → k < 28 ∨ 36 ≤ k → ad6 k = ad k := fun k hk hkq => (mv7 k (by omega) hkq).trans (rfl.trans rfl)
      have nb9 : ad6 24 = b0 := (mv7 24 (by omega) (Or.inl (by decide))).trans hb0
      have ev := (show v_X4_copyDate dr a1 a2 = ((v_X4_become dr a1 (dr a2.toNatClampNeg)).1, (v_X4_become dr a1 (dr a2.toNatClampNeg)).2, 0) from by unfold v_X4_copyDate; rw [if_pos c2, if_pos c4])
      exact rt_i X hr (ad6, mg g ad6 y cr (v_X4_become dr a1 (dr a2.toNatClampNeg)).2 0 kn rf pl pz mc) B (PO_of B) ⟨kk8, by rw [ev], by rw [ev]⟩ rfl (Nat.le_of_ble_eq_true rfl) (Nat.le_of_ble_eq_true rfl) dX4_copyDate_42
    · refine lv_iconst (v := 1) hx hb dX4_copyDate_15 (by decide) ?_
      refine lv_goto (tgt := 20) hx hb dX4_copyDate_16 (by decide) ?_
      refine lv_iconst (v := 0) hx hb dX4_copyDate_20 (by decide) ?_
      refine k_i (k := 0) (n := 0) hA B (b_V (q := 24) (rest := []) hb0 X (c_X4_stops l g N ad y cr dr th kn rf pl pz mc (by omega) b0 hb0 1 0 H.size) mw_X4_stops md_X4_stops rfl lk_X4_99 ⟨Nat.le_of_ble_eq_true rfl, Nat.le_of_ble_eq_true rfl⟩ hA hK hT B (by omega) mg_24 rfl rfl hl.1 rfl (Nat.le_of_ble_eq_true rfl) dX4_copyDate_21 ⟨Nat.le_of_ble_eq_true rfl, Nat.le_of_ble_eq_true rfl⟩) (Nat.le_of_ble_eq_true rfl) (Nat.le_of_ble_eq_true rfl) (fun r ad' f' H locs hw B => ?_)
      rw [st_10] at hw
      dsimp only at hw
      obtain ⟨rfl, rfl, rfl⟩ := hw
      have B : WB g (aw N ad sz) s.heap N ad (mg g ad y cr dr 1 kn rf pl pz mc) H locs := B
      refine lv_if_eq (tgt := 31) hx hb dX4_copyDate_24 (by decide) (fun z => absurd z (by decide)) (fun _ => ?_)
      refine lv_iconst (v := 0) hx hb dX4_copyDate_27 (by decide) ?_
      refine lv_goto (tgt := 42) hx hb dX4_copyDate_28 (by decide) ?_
      have ev := (show v_X4_copyDate dr a1 a2 = (0, dr, 1) from by unfold v_X4_copyDate; rw [if_pos c2, if_neg c4])
      exact rt_i X hr (ad, mg g ad y cr dr 1 kn rf pl pz mc) B (PO_of B) ⟨(fun _ _ _ => rfl), by rw [ev], by rw [ev]⟩ rfl (Nat.le_of_ble_eq_true rfl) (Nat.le_of_ble_eq_true rfl) dX4_copyDate_42
def v_X4_move (cr : Nat → TR) (dr : Nat → TR) (rf : Int32) (a1 : Int32) (a2 : Int32) : Int32 × (Nat → TR) × Int32 × Int32 := if (v_X4_isNone a1) = 0 then (if (v_X4_isNone a2) = 0 then (om (v_X4_onBy (dr a1.toNatClampNeg) (cr a2.toNatClampNeg) 1) ((v_X4_becomeN rf).1, dr, 0, (v_X4_becomeN rf).2) (fun t8 => ((v_X4_become dr a1 t8).1, (v_X4_become dr a1 t8).2, 0, rf))) else (0, dr, 1, rf)) else (0, dr, 1, rf)
set_option maxHeartbeats 4000000 in
set_option maxRecDepth 100000 in
theorem c_X4_move (l : Launch) (g : GG) (N : Nat) (ad : Nat → Nat) (y : Nat → va_E) (cr dr : Nat → TR) (th kn rf : Int32) (pl : Nat → TR) (pz : Nat) (mc : Int32) (hN : 36 + pz ≤ N) (b0 : Nat) (hb0 : ad 24 = b0) (a1 : Int32) (a2 : Int32) (hdr : ∀ i, i < 4 → okd (dr i)) : KI l yX4_move cX4_move 3 (some .int) (rm 4 3 9) g [.ref b0, .int a1, .int a2] N ad (mg g ad y cr dr th kn rf pl pz mc) N (fun r ad' f' => (∀ k, k < N → k < 28 ∨ 36 ≤ k → ad' k = ad k) ∧ (v_X4_move cr dr rf a1 a2).1 = r ∧ mg g ad' y cr (v_X4_move cr dr rf a1 a2).2.1 (v_X4_move cr dr rf a1 a2).2.2.1 kn (v_X4_move cr dr rf a1 a2).2.2.2 pl pz mc = f') := by
  intro sz
  refine mt_start (by decide) (Nat.le_of_ble_eq_true rfl) ?_
  intro p e s m args below meth c hsz X hr hnam hA hK hT H locs B ls hl
  obtain ⟨hx, hb, hml, hown, hts, hlocks⟩ := id X
  have hl : lv_has ls 3 [(0, .ref b0), (1, .int a1), (2, .int a2)] := hl
  refine lv_aload_n hx hb dX4_move_0 rfl (lv_at hl 0 rfl) ?_
  refine lv_iload_n hx hb dX4_move_1 rfl (lv_at hl 1 rfl) ?_
  refine k_i (k := 0) (n := 0) hA B (u_S (rest := [.ref b0]) X (c_X4_isNone l g N ad (mg g ad y cr dr th kn rf pl pz mc) a1 H.size) mw_X4_isNone md_X4_isNone rfl lk_X4_95 ⟨Nat.le_of_ble_eq_true rfl, Nat.le_of_ble_eq_true rfl⟩ hA hK hT B hl.1 rfl (Nat.le_of_ble_eq_true rfl) dX4_move_2 ⟨Nat.le_of_ble_eq_true rfl, Nat.le_of_ble_eq_true rfl⟩) (Nat.le_of_ble_eq_true rfl) (Nat.le_of_ble_eq_true rfl) (fun r1 ad1 f' H locs hw B => ?_)
  obtain ⟨rfl, rfl, rfl⟩ := hw
  refine lv_if_ne (tgt := 15) hx hb dX4_move_5 (by decide) (fun c2 => ?_) (fun c2 => ?_)
  · refine lv_iconst (v := 1) hx hb dX4_move_15 (by decide) ?_
    refine lv_goto (tgt := 20) hx hb dX4_move_16 (by decide) ?_
    refine lv_iconst (v := 0) hx hb dX4_move_20 (by decide) ?_
    refine k_i (k := 0) (n := 0) hA B (b_V (q := 24) (rest := []) hb0 X (c_X4_stops l g N ad y cr dr th kn rf pl pz mc (by omega) b0 hb0 1 0 H.size) mw_X4_stops md_X4_stops rfl lk_X4_99 ⟨Nat.le_of_ble_eq_true rfl, Nat.le_of_ble_eq_true rfl⟩ hA hK hT B (by omega) mg_24 rfl rfl hl.1 rfl (Nat.le_of_ble_eq_true rfl) dX4_move_21 ⟨Nat.le_of_ble_eq_true rfl, Nat.le_of_ble_eq_true rfl⟩) (Nat.le_of_ble_eq_true rfl) (Nat.le_of_ble_eq_true rfl) (fun r ad' f' H locs hw B => ?_)
    rw [st_10] at hw
    dsimp only at hw
    obtain ⟨rfl, rfl, rfl⟩ := hw
    have B : WB g (aw N ad sz) s.heap N ad (mg g ad y cr dr 1 kn rf pl pz mc) H locs := B
    refine lv_if_eq (tgt := 31) hx hb dX4_move_24 (by decide) (fun z => absurd z (by decide)) (fun _ => ?_)
    refine lv_iconst (v := 0) hx hb dX4_move_27 (by decide) ?_
    refine lv_goto (tgt := 52) hx hb dX4_move_28 (by decide) ?_
    have ev := (show v_X4_move cr dr rf a1 a2 = (0, dr, 1, rf) from by unfold v_X4_move; rw [if_neg c2])
    exact rt_i X hr (ad, mg g ad y cr dr 1 kn rf pl pz mc) B (PO_of B) ⟨(fun _ _ _ => rfl), by rw [ev], by rw [ev]⟩ rfl (Nat.le_of_ble_eq_true rfl) (Nat.le_of_ble_eq_true rfl) dX4_move_52
  · refine lv_iload_n hx hb dX4_move_8 rfl (lv_at hl 2 rfl) ?_
    refine k_i (k := 0) (n := 0) hA B (u_S (rest := [.ref b0]) X (c_X4_isNone l g N ad (mg g ad y cr dr th kn rf pl pz mc) a2 H.size) mw_X4_isNone md_X4_isNone rfl lk_X4_95 ⟨Nat.le_of_ble_eq_true rfl, Nat.le_of_ble_eq_true rfl⟩ hA hK hT B hl.1 rfl (Nat.le_of_ble_eq_true rfl) dX4_move_9 ⟨Nat.le_of_ble_eq_true rfl, Nat.le_of_ble_eq_true rfl⟩) (Nat.le_of_ble_eq_true rfl) (Nat.le_of_ble_eq_true rfl) (fun r3 ad3 f' H locs hw B => ?_)
    obtain ⟨rfl, rfl, rfl⟩ := hw
    refine lv_if_eq (tgt := 19) hx hb dX4_move_12 (by decide) (fun c4 => ?_) (fun c4 => ?_)
    · refine lv_iconst (v := 0) hx hb dX4_move_19 (by decide) ?_
      refine lv_iconst (v := 0) hx hb dX4_move_20 (by decide) ?_
      refine k_i (k := 0) (n := 0) hA B (b_V (q := 24) (rest := []) hb0 X (c_X4_stops l g N ad y cr dr th kn rf pl pz mc (by omega) b0 hb0 0 0 H.size) mw_X4_stops md_X4_stops rfl lk_X4_99 ⟨Nat.le_of_ble_eq_true rfl, Nat.le_of_ble_eq_true rfl⟩ hA hK hT B (by omega) mg_24 rfl rfl hl.1 rfl (Nat.le_of_ble_eq_true rfl) dX4_move_21 ⟨Nat.le_of_ble_eq_true rfl, Nat.le_of_ble_eq_true rfl⟩) (Nat.le_of_ble_eq_true rfl) (Nat.le_of_ble_eq_true rfl) (fun r ad' f' H locs hw B => ?_)
      rw [st_00] at hw
      dsimp only at hw
      obtain ⟨rfl, rfl, rfl⟩ := hw
      have B : WB g (aw N ad sz) s.heap N ad (mg g ad y cr dr 0 kn rf pl pz mc) H locs := B
      refine lv_if_eq (tgt := 31) hx hb dX4_move_24 (by decide) (fun _ => ?_) (fun z => absurd z (by decide))
      refine lv_aload_n hx hb dX4_move_31 rfl (lv_at hl 0 rfl) ?_
      refine lv_iload_n hx hb dX4_move_32 rfl (lv_at hl 1 rfl) ?_
      refine lv_aload_n hx hb dX4_move_33 rfl (lv_at hl 0 rfl) ?_
      refine b_get (q := 24) (k := 3) hb0 X hK B rfl in_X4 (by omega) mg_24 (by decide) lk_X4_23 rfl rfl dX4_move_34 ?_
      refine lv_iload_n hx hb dX4_move_37 rfl (lv_at hl 1 rfl) ?_
      refine b_aald (q := 26) (t0 := 2) (v := ad (32 + a1.toNatClampNeg)) rfl X hK B (by omega) mg_26 rfl rfl (no_in c2) rfl dX4_move_38 ?_
      have g5 : a1.toNatClampNeg < 4 := (no_lt c2)
      refine lv_aload_n hx hb dX4_move_39 rfl (lv_at hl 0 rfl) ?_
      refine b_get (q := 24) (k := 1) hb0 X hK B rfl in_X4 (by omega) mg_24 (by decide) lk_X4_11 rfl rfl dX4_move_40 ?_
      refine lv_iload_n hx hb dX4_move_43 rfl (lv_at hl 2 rfl) ?_
      refine b_aald (q := 25) (t0 := 2) (v := ad (28 + a2.toNatClampNeg)) rfl X hK B (by omega) mg_25 rfl rfl (no_in c4) rfl dX4_move_44 ?_
      have g6 : a2.toNatClampNeg < 4 := (no_lt c4)
      refine lv_iconst (v := 1) hx hb dX4_move_45 (by decide) ?_
      refine k_r (k := 2) (n := 6) hA B (u_S (rest := [.int a1, .ref b0]) X (c_X4_onBy l g N ad (mg g ad y cr dr 0 kn rf pl pz mc) (32 + a1.toNatClampNeg) (ad (32 + a1.toNatClampNeg)) (dr a1.toNatClampNeg) (pl_dr hN g5) rfl (mg_dr g5) (28 + a2.toNatClampNeg) (ad (28 + a2.toNatClampNeg)) (cr a2.toNatClampNeg) (pl_cr hN g6) rfl (mg_cr g6) 1 H.size) mw_X4_onBy md_X4_onBy rfl lk_X4_215 ⟨Nat.le_of_ble_eq_true rfl, Nat.le_of_ble_eq_true rfl⟩ hA hK hT B hl.1 rfl (Nat.le_of_ble_eq_true rfl) dX4_move_46 ⟨Nat.le_of_ble_eq_true rfl, Nat.le_of_ble_eq_true rfl⟩) (Nat.le_of_ble_eq_true rfl) (Nat.le_of_ble_eq_true rfl) (fun r7 ad7 f' H locs hw B => ?_)
      generalize o8 : (v_X4_onBy (dr a1.toNatClampNeg) (cr a2.toNatClampNeg) 1) = v9 at hw B
      cases v9 with
      | none =>
        obtain ⟨rfl, rfl, rfl⟩ := pw_n hw
        refine k_i (k := 2) (n := 6) hA B (b_V (q := 24) (rest := []) hb0 X (c_X4_becomeN l g N ad y cr dr 0 kn rf pl pz mc (by omega) b0 hb0 a1 H.size) mw_X4_become md_X4_become rfl lk_X4_212 ⟨Nat.le_of_ble_eq_true rfl, Nat.le_of_ble_eq_true rfl⟩ hA hK hT B (by omega) mg_24 rfl rfl hl.1 rfl (Nat.le_of_ble_eq_true rfl) dX4_move_49 ⟨Nat.le_of_ble_eq_true rfl, Nat.le_of_ble_eq_true rfl⟩) (Nat.le_of_ble_eq_true rfl) (Nat.le_of_ble_eq_true rfl) (fun r9 ad9 f' H locs hw B => ?_)
        obtain ⟨rfl, rfl, rfl⟩ := hw
        have ev := (show v_X4_move cr dr rf a1 a2 = ((v_X4_becomeN rf).1, dr, 0, (v_X4_becomeN rf).2) from by unfold v_X4_move; rw [if_pos c2, if_pos c4, om_none o8])
        exact rt_i X hr (ad, mg g ad y cr dr 0 kn (v_X4_becomeN rf).2 pl pz mc) B (PO_of B) ⟨(fun _ _ _ => rfl), by rw [ev], by rw [ev]⟩ rfl (Nat.le_of_ble_eq_true rfl) (Nat.le_of_ble_eq_true rfl) dX4_move_52
      | some t8 =>
        obtain ⟨z8, rfl, rfl, rfl⟩ := pw_s hw
        have B : WB g (aw N ad sz) s.heap (N + 1) (va_up ad N z8) (mg g (va_up ad N z8) (va_up y N (c_row g t8)) cr dr 0 kn rf pl pz mc) H locs := WM_push (by omega) B
        refine k_i (k := 3) (n := 9) hA B (b_V (q := 24) (rest := []) ((up_lt (by omega)).trans hb0) X (c_X4_become l g (N + 1) (va_up ad N z8) (va_up y N (c_row g t8)) cr dr 0 kn rf pl pz mc (by omega) b0 ((up_lt (by omega)).trans hb0) a1 N z8 t8 (Nat.lt_succ_self _) up_eq ((mg_hi (by omega)).trans up_eq) c2 hdr (okd_mo (onBy_okd o8)) H.size) mw_X4_become md_X4_become rfl lk_X4_212 ⟨Nat.le_of_ble_eq_true rfl, Nat.le_of_ble_eq_true rfl⟩ hA hK hT B (by omega) mg_24 rfl rfl hl.1 rfl (Nat.le_of_ble_eq_true rfl) dX4_move_49 ⟨Nat.le_of_ble_eq_true rfl, Nat.le_of_ble_eq_true rfl⟩) (Nat.le_of_ble_eq_true rfl) (Nat.le_of_ble_eq_true rfl) (fun r10 ad10 f' H locs hw B => ?_)
        dsimp only at hw
        obtain ⟨mv11, rfl, rfl⟩ := hw
        have B : WB g (aw N ad sz) s.heap N ad10 (mg g ad10 y cr (v_X4_become dr a1 t8).2 0 kn rf pl pz mc) H locs := WM_drop B (by omega) (by omega) (fun _ _ => rfl) (fun _ hk => (up_lt hk))
        have kk12 : ∀ k, k < N → k < 28 ∨ 36 ≤ k → ad10 k = ad k := fun k hk hkq => (mv11 k (by omega) hkq).trans (((fun _ hk => (up_lt hk)) k hk).trans rfl)
        have nb13 : ad10 24 = b0 := (mv11 24 (by omega) (Or.inl (by decide))).trans ((up_lt (by omega)).trans hb0)
        have ev := (show v_X4_move cr dr rf a1 a2 = ((v_X4_become dr a1 t8).1, (v_X4_become dr a1 t8).2, 0, rf) from by unfold v_X4_move; rw [if_pos c2, if_pos c4, om_some o8])
        exact rt_i X hr (ad10, mg g ad10 y cr (v_X4_become dr a1 t8).2 0 kn rf pl pz mc) B (PO_of B) ⟨kk12, by rw [ev], by rw [ev]⟩ rfl (Nat.le_of_ble_eq_true rfl) (Nat.le_of_ble_eq_true rfl) dX4_move_52
    · refine lv_iconst (v := 1) hx hb dX4_move_15 (by decide) ?_
      refine lv_goto (tgt := 20) hx hb dX4_move_16 (by decide) ?_
      refine lv_iconst (v := 0) hx hb dX4_move_20 (by decide) ?_
      refine k_i (k := 0) (n := 0) hA B (b_V (q := 24) (rest := []) hb0 X (c_X4_stops l g N ad y cr dr th kn rf pl pz mc (by omega) b0 hb0 1 0 H.size) mw_X4_stops md_X4_stops rfl lk_X4_99 ⟨Nat.le_of_ble_eq_true rfl, Nat.le_of_ble_eq_true rfl⟩ hA hK hT B (by omega) mg_24 rfl rfl hl.1 rfl (Nat.le_of_ble_eq_true rfl) dX4_move_21 ⟨Nat.le_of_ble_eq_true rfl, Nat.le_of_ble_eq_true rfl⟩) (Nat.le_of_ble_eq_true rfl) (Nat.le_of_ble_eq_true rfl) (fun r ad' f' H locs hw B => ?_)
      rw [st_10] at hw
      dsimp only at hw
      obtain ⟨rfl, rfl, rfl⟩ := hw
      have B : WB g (aw N ad sz) s.heap N ad (mg g ad y cr dr 1 kn rf pl pz mc) H locs := B
      refine lv_if_eq (tgt := 31) hx hb dX4_move_24 (by decide) (fun z => absurd z (by decide)) (fun _ => ?_)
      refine lv_iconst (v := 0) hx hb dX4_move_27 (by decide) ?_
      refine lv_goto (tgt := 52) hx hb dX4_move_28 (by decide) ?_
      have ev := (show v_X4_move cr dr rf a1 a2 = (0, dr, 1, rf) from by unfold v_X4_move; rw [if_pos c2, if_neg c4])
      exact rt_i X hr (ad, mg g ad y cr dr 1 kn rf pl pz mc) B (PO_of B) ⟨(fun _ _ _ => rfl), by rw [ev], by rw [ev]⟩ rfl (Nat.le_of_ble_eq_true rfl) (Nat.le_of_ble_eq_true rfl) dX4_move_52
def v_X4_back (cr : Nat → TR) (dr : Nat → TR) (rf : Int32) (a1 : Int32) (a2 : Int32) : Int32 × (Nat → TR) × Int32 × Int32 := if (v_X4_isNone a1) = 0 then (if (v_X4_isNone a2) = 0 then (om (v_X4_onBy (dr a1.toNatClampNeg) (cr a2.toNatClampNeg) (-1)) ((v_X4_becomeN rf).1, dr, 0, (v_X4_becomeN rf).2) (fun t8 => ((v_X4_become dr a1 t8).1, (v_X4_become dr a1 t8).2, 0, rf))) else (0, dr, 1, rf)) else (0, dr, 1, rf)
set_option maxHeartbeats 4000000 in
set_option maxRecDepth 100000 in
theorem c_X4_back (l : Launch) (g : GG) (N : Nat) (ad : Nat → Nat) (y : Nat → va_E) (cr dr : Nat → TR) (th kn rf : Int32) (pl : Nat → TR) (pz : Nat) (mc : Int32) (hN : 36 + pz ≤ N) (b0 : Nat) (hb0 : ad 24 = b0) (a1 : Int32) (a2 : Int32) (hdr : ∀ i, i < 4 → okd (dr i)) : KI l yX4_back cX4_back 3 (some .int) (rm 4 3 9) g [.ref b0, .int a1, .int a2] N ad (mg g ad y cr dr th kn rf pl pz mc) N (fun r ad' f' => (∀ k, k < N → k < 28 ∨ 36 ≤ k → ad' k = ad k) ∧ (v_X4_back cr dr rf a1 a2).1 = r ∧ mg g ad' y cr (v_X4_back cr dr rf a1 a2).2.1 (v_X4_back cr dr rf a1 a2).2.2.1 kn (v_X4_back cr dr rf a1 a2).2.2.2 pl pz mc = f') := by
  intro sz
  refine mt_start (by decide) (Nat.le_of_ble_eq_true rfl) ?_
  intro p e s m args below meth c hsz X hr hnam hA hK hT H locs B ls hl
  obtain ⟨hx, hb, hml, hown, hts, hlocks⟩ := id X
  have hl : lv_has ls 3 [(0, .ref b0), (1, .int a1), (2, .int a2)] := hl
  refine lv_aload_n hx hb dX4_back_0 rfl (lv_at hl 0 rfl) ?_
  refine lv_iload_n hx hb dX4_back_1 rfl (lv_at hl 1 rfl) ?_
  refine k_i (k := 0) (n := 0) hA B (u_S (rest := [.ref b0]) X (c_X4_isNone l g N ad (mg g ad y cr dr th kn rf pl pz mc) a1 H.size) mw_X4_isNone md_X4_isNone rfl lk_X4_95 ⟨Nat.le_of_ble_eq_true rfl, Nat.le_of_ble_eq_true rfl⟩ hA hK hT B hl.1 rfl (Nat.le_of_ble_eq_true rfl) dX4_back_2 ⟨Nat.le_of_ble_eq_true rfl, Nat.le_of_ble_eq_true rfl⟩) (Nat.le_of_ble_eq_true rfl) (Nat.le_of_ble_eq_true rfl) (fun r1 ad1 f' H locs hw B => ?_)
  obtain ⟨rfl, rfl, rfl⟩ := hw
  refine lv_if_ne (tgt := 15) hx hb dX4_back_5 (by decide) (fun c2 => ?_) (fun c2 => ?_)
  · refine lv_iconst (v := 1) hx hb dX4_back_15 (by decide) ?_
    refine lv_goto (tgt := 20) hx hb dX4_back_16 (by decide) ?_
    refine lv_iconst (v := 0) hx hb dX4_back_20 (by decide) ?_
    refine k_i (k := 0) (n := 0) hA B (b_V (q := 24) (rest := []) hb0 X (c_X4_stops l g N ad y cr dr th kn rf pl pz mc (by omega) b0 hb0 1 0 H.size) mw_X4_stops md_X4_stops rfl lk_X4_99 ⟨Nat.le_of_ble_eq_true rfl, Nat.le_of_ble_eq_true rfl⟩ hA hK hT B (by omega) mg_24 rfl rfl hl.1 rfl (Nat.le_of_ble_eq_true rfl) dX4_back_21 ⟨Nat.le_of_ble_eq_true rfl, Nat.le_of_ble_eq_true rfl⟩) (Nat.le_of_ble_eq_true rfl) (Nat.le_of_ble_eq_true rfl) (fun r ad' f' H locs hw B => ?_)
    rw [st_10] at hw
    dsimp only at hw
    obtain ⟨rfl, rfl, rfl⟩ := hw
    have B : WB g (aw N ad sz) s.heap N ad (mg g ad y cr dr 1 kn rf pl pz mc) H locs := B
    refine lv_if_eq (tgt := 31) hx hb dX4_back_24 (by decide) (fun z => absurd z (by decide)) (fun _ => ?_)
    refine lv_iconst (v := 0) hx hb dX4_back_27 (by decide) ?_
    refine lv_goto (tgt := 52) hx hb dX4_back_28 (by decide) ?_
    have ev := (show v_X4_back cr dr rf a1 a2 = (0, dr, 1, rf) from by unfold v_X4_back; rw [if_neg c2])
    exact rt_i X hr (ad, mg g ad y cr dr 1 kn rf pl pz mc) B (PO_of B) ⟨(fun _ _ _ => rfl), by rw [ev], by rw [ev]⟩ rfl (Nat.le_of_ble_eq_true rfl) (Nat.le_of_ble_eq_true rfl) dX4_back_52
  · refine lv_iload_n hx hb dX4_back_8 rfl (lv_at hl 2 rfl) ?_
    refine k_i (k := 0) (n := 0) hA B (u_S (rest := [.ref b0]) X (c_X4_isNone l g N ad (mg g ad y cr dr th kn rf pl pz mc) a2 H.size) mw_X4_isNone md_X4_isNone rfl lk_X4_95 ⟨Nat.le_of_ble_eq_true rfl, Nat.le_of_ble_eq_true rfl⟩ hA hK hT B hl.1 rfl (Nat.le_of_ble_eq_true rfl) dX4_back_9 ⟨Nat.le_of_ble_eq_true rfl, Nat.le_of_ble_eq_true rfl⟩) (Nat.le_of_ble_eq_true rfl) (Nat.le_of_ble_eq_true rfl) (fun r3 ad3 f' H locs hw B => ?_)
    obtain ⟨rfl, rfl, rfl⟩ := hw
    refine lv_if_eq (tgt := 19) hx hb dX4_back_12 (by decide) (fun c4 => ?_) (fun c4 => ?_)
    · refine lv_iconst (v := 0) hx hb dX4_back_19 (by decide) ?_
      refine lv_iconst (v := 0) hx hb dX4_back_20 (by decide) ?_
      refine k_i (k := 0) (n := 0) hA B (b_V (q := 24) (rest := []) hb0 X (c_X4_stops l g N ad y cr dr th kn rf pl pz mc (by omega) b0 hb0 0 0 H.size) mw_X4_stops md_X4_stops rfl lk_X4_99 ⟨Nat.le_of_ble_eq_true rfl, Nat.le_of_ble_eq_true rfl⟩ hA hK hT B (by omega) mg_24 rfl rfl hl.1 rfl (Nat.le_of_ble_eq_true rfl) dX4_back_21 ⟨Nat.le_of_ble_eq_true rfl, Nat.le_of_ble_eq_true rfl⟩) (Nat.le_of_ble_eq_true rfl) (Nat.le_of_ble_eq_true rfl) (fun r ad' f' H locs hw B => ?_)
      rw [st_00] at hw
      dsimp only at hw
      obtain ⟨rfl, rfl, rfl⟩ := hw
      have B : WB g (aw N ad sz) s.heap N ad (mg g ad y cr dr 0 kn rf pl pz mc) H locs := B
      refine lv_if_eq (tgt := 31) hx hb dX4_back_24 (by decide) (fun _ => ?_) (fun z => absurd z (by decide))
      refine lv_aload_n hx hb dX4_back_31 rfl (lv_at hl 0 rfl) ?_
      refine lv_iload_n hx hb dX4_back_32 rfl (lv_at hl 1 rfl) ?_
      refine lv_aload_n hx hb dX4_back_33 rfl (lv_at hl 0 rfl) ?_
      refine b_get (q := 24) (k := 3) hb0 X hK B rfl in_X4 (by omega) mg_24 (by decide) lk_X4_23 rfl rfl dX4_back_34 ?_
      refine lv_iload_n hx hb dX4_back_37 rfl (lv_at hl 1 rfl) ?_
      refine b_aald (q := 26) (t0 := 2) (v := ad (32 + a1.toNatClampNeg)) rfl X hK B (by omega) mg_26 rfl rfl (no_in c2) rfl dX4_back_38 ?_
      have g5 : a1.toNatClampNeg < 4 := (no_lt c2)
      refine lv_aload_n hx hb dX4_back_39 rfl (lv_at hl 0 rfl) ?_
      refine b_get (q := 24) (k := 1) hb0 X hK B rfl in_X4 (by omega) mg_24 (by decide) lk_X4_11 rfl rfl dX4_back_40 ?_
      refine lv_iload_n hx hb dX4_back_43 rfl (lv_at hl 2 rfl) ?_
      refine b_aald (q := 25) (t0 := 2) (v := ad (28 + a2.toNatClampNeg)) rfl X hK B (by omega) mg_25 rfl rfl (no_in c4) rfl dX4_back_44 ?_
      have g6 : a2.toNatClampNeg < 4 := (no_lt c4)
      refine lv_iconst (v := (-1)) hx hb dX4_back_45 (by decide) ?_
      refine k_r (k := 2) (n := 6) hA B (u_S (rest := [.int a1, .ref b0]) X (c_X4_onBy l g N ad (mg g ad y cr dr 0 kn rf pl pz mc) (32 + a1.toNatClampNeg) (ad (32 + a1.toNatClampNeg)) (dr a1.toNatClampNeg) (pl_dr hN g5) rfl (mg_dr g5) (28 + a2.toNatClampNeg) (ad (28 + a2.toNatClampNeg)) (cr a2.toNatClampNeg) (pl_cr hN g6) rfl (mg_cr g6) (-1) H.size) mw_X4_onBy md_X4_onBy rfl lk_X4_215 ⟨Nat.le_of_ble_eq_true rfl, Nat.le_of_ble_eq_true rfl⟩ hA hK hT B hl.1 rfl (Nat.le_of_ble_eq_true rfl) dX4_back_46 ⟨Nat.le_of_ble_eq_true rfl, Nat.le_of_ble_eq_true rfl⟩) (Nat.le_of_ble_eq_true rfl) (Nat.le_of_ble_eq_true rfl) (fun r7 ad7 f' H locs hw B => ?_)
      generalize o8 : (v_X4_onBy (dr a1.toNatClampNeg) (cr a2.toNatClampNeg) (-1)) = v9 at hw B
      cases v9 with
      | none =>
        obtain ⟨rfl, rfl, rfl⟩ := pw_n hw
        refine k_i (k := 2) (n := 6) hA B (b_V (q := 24) (rest := []) hb0 X (c_X4_becomeN l g N ad y cr dr 0 kn rf pl pz mc (by omega) b0 hb0 a1 H.size) mw_X4_become md_X4_become rfl lk_X4_212 ⟨Nat.le_of_ble_eq_true rfl, Nat.le_of_ble_eq_true rfl⟩ hA hK hT B (by omega) mg_24 rfl rfl hl.1 rfl (Nat.le_of_ble_eq_true rfl) dX4_back_49 ⟨Nat.le_of_ble_eq_true rfl, Nat.le_of_ble_eq_true rfl⟩) (Nat.le_of_ble_eq_true rfl) (Nat.le_of_ble_eq_true rfl) (fun r9 ad9 f' H locs hw B => ?_)
        obtain ⟨rfl, rfl, rfl⟩ := hw
        have ev := (show v_X4_back cr dr rf a1 a2 = ((v_X4_becomeN rf).1, dr, 0, (v_X4_becomeN rf).2) from by unfold v_X4_back; rw [if_pos c2, if_pos c4, om_none o8])
        exact rt_i X hr (ad, mg g ad y cr dr 0 kn (v_X4_becomeN rf).2 pl pz mc) B (PO_of B) ⟨(fun _ _ _ => rfl), by rw [ev], by rw [ev]⟩ rfl (Nat.le_of_ble_eq_true rfl) (Nat.le_of_ble_eq_true rfl) dX4_back_52
      | some t8 =>
        obtain ⟨z8, rfl, rfl, rfl⟩ := pw_s hw
        have B : WB g (aw N ad sz) s.heap (N + 1) (va_up ad N z8) (mg g (va_up ad N z8) (va_up y N (c_row g t8)) cr dr 0 kn rf pl pz mc) H locs := WM_push (by omega) B
        refine k_i (k := 3) (n := 9) hA B (b_V (q := 24) (rest := []) ((up_lt (by omega)).trans hb0) X (c_X4_become l g (N + 1) (va_up ad N z8) (va_up y N (c_row g t8)) cr dr 0 kn rf pl pz mc (by omega) b0 ((up_lt (by omega)).trans hb0) a1 N z8 t8 (Nat.lt_succ_self _) up_eq ((mg_hi (by omega)).trans up_eq) c2 hdr (okd_mo (onBy_okd o8)) H.size) mw_X4_become md_X4_become rfl lk_X4_212 ⟨Nat.le_of_ble_eq_true rfl, Nat.le_of_ble_eq_true rfl⟩ hA hK hT B (by omega) mg_24 rfl rfl hl.1 rfl (Nat.le_of_ble_eq_true rfl) dX4_back_49 ⟨Nat.le_of_ble_eq_true rfl, Nat.le_of_ble_eq_true rfl⟩) (Nat.le_of_ble_eq_true rfl) (Nat.le_of_ble_eq_true rfl) (fun r10 ad10 f' H locs hw B => ?_)
        dsimp only at hw
        obtain ⟨mv11, rfl, rfl⟩ := hw
        have B : WB g (aw N ad sz) s.heap N ad10 (mg g ad10 y cr (v_X4_become dr a1 t8).2 0 kn rf pl pz mc) H locs := WM_drop B (by omega) (by omega) (fun _ _ => rfl) (fun _ hk => (up_lt hk))
        have kk12 : ∀ k, k < N → k < 28 ∨ 36 ≤ k → ad10 k = ad k := fun k hk hkq => (mv11 k (by omega) hkq).trans (((fun _ hk => (up_lt hk)) k hk).trans rfl)
        have nb13 : ad10 24 = b0 := (mv11 24 (by omega) (Or.inl (by decide))).trans ((up_lt (by omega)).trans hb0)
        have ev := (show v_X4_back cr dr rf a1 a2 = ((v_X4_become dr a1 t8).1, (v_X4_become dr a1 t8).2, 0, rf) from by unfold v_X4_back; rw [if_pos c2, if_pos c4, om_some o8])
        exact rt_i X hr (ad10, mg g ad10 y cr (v_X4_become dr a1 t8).2 0 kn rf pl pz mc) B (PO_of B) ⟨kk12, by rw [ev], by rw [ev]⟩ rfl (Nat.le_of_ble_eq_true rfl) (Nat.le_of_ble_eq_true rfl) dX4_back_52
    · refine lv_iconst (v := 1) hx hb dX4_back_15 (by decide) ?_
      refine lv_goto (tgt := 20) hx hb dX4_back_16 (by decide) ?_
      refine lv_iconst (v := 0) hx hb dX4_back_20 (by decide) ?_
      refine k_i (k := 0) (n := 0) hA B (b_V (q := 24) (rest := []) hb0 X (c_X4_stops l g N ad y cr dr th kn rf pl pz mc (by omega) b0 hb0 1 0 H.size) mw_X4_stops md_X4_stops rfl lk_X4_99 ⟨Nat.le_of_ble_eq_true rfl, Nat.le_of_ble_eq_true rfl⟩ hA hK hT B (by omega) mg_24 rfl rfl hl.1 rfl (Nat.le_of_ble_eq_true rfl) dX4_back_21 ⟨Nat.le_of_ble_eq_true rfl, Nat.le_of_ble_eq_true rfl⟩) (Nat.le_of_ble_eq_true rfl) (Nat.le_of_ble_eq_true rfl) (fun r ad' f' H locs hw B => ?_)
      rw [st_10] at hw
      dsimp only at hw
      obtain ⟨rfl, rfl, rfl⟩ := hw
      have B : WB g (aw N ad sz) s.heap N ad (mg g ad y cr dr 1 kn rf pl pz mc) H locs := B
      refine lv_if_eq (tgt := 31) hx hb dX4_back_24 (by decide) (fun z => absurd z (by decide)) (fun _ => ?_)
      refine lv_iconst (v := 0) hx hb dX4_back_27 (by decide) ?_
      refine lv_goto (tgt := 52) hx hb dX4_back_28 (by decide) ?_
      have ev := (show v_X4_back cr dr rf a1 a2 = (0, dr, 1, rf) from by unfold v_X4_back; rw [if_pos c2, if_neg c4])
      exact rt_i X hr (ad, mg g ad y cr dr 1 kn rf pl pz mc) B (PO_of B) ⟨(fun _ _ _ => rfl), by rw [ev], by rw [ev]⟩ rfl (Nat.le_of_ble_eq_true rfl) (Nat.le_of_ble_eq_true rfl) dX4_back_52
def v_X4_between (cr : Nat → TR) (dr : Nat → TR) (rf : Int32) (a1 : Int32) (a2 : Int32) (a3 : Int32) : Int32 × (Nat → TR) × Int32 × Int32 := if (v_X4_isNone a1) = 0 then (if (v_X4_isNone a2) = 0 then (if (v_X4_isNone a3) = 0 then (om (v_X4_apart (dr a2.toNatClampNeg) (dr a3.toNatClampNeg)) ((v_X4_getN rf).1, cr, 0, (v_X4_getN rf).2) (fun t10 => ((v_X4_get cr a1 t10).1, (v_X4_get cr a1 t10).2, 0, rf))) else (0, cr, 1, rf)) else (0, cr, 1, rf)) else (0, cr, 1, rf)
set_option maxHeartbeats 4000000 in
set_option maxRecDepth 100000 in
theorem c_X4_between (l : Launch) (g : GG) (N : Nat) (ad : Nat → Nat) (y : Nat → va_E) (cr dr : Nat → TR) (th kn rf : Int32) (pl : Nat → TR) (pz : Nat) (mc : Int32) (hN : 36 + pz ≤ N) (b0 : Nat) (hb0 : ad 24 = b0) (a1 : Int32) (a2 : Int32) (a3 : Int32) (hdr : ∀ i, i < 4 → okd (dr i)) : KI l yX4_between cX4_between 4 (some .int) (rm 4 3 9) g [.ref b0, .int a1, .int a2, .int a3] N ad (mg g ad y cr dr th kn rf pl pz mc) N (fun r ad' f' => (∀ k, k < N → k < 28 ∨ 36 ≤ k → ad' k = ad k) ∧ (v_X4_between cr dr rf a1 a2 a3).1 = r ∧ mg g ad' y (v_X4_between cr dr rf a1 a2 a3).2.1 dr (v_X4_between cr dr rf a1 a2 a3).2.2.1 kn (v_X4_between cr dr rf a1 a2 a3).2.2.2 pl pz mc = f') := by
  intro sz
  refine mt_start (by decide) (Nat.le_of_ble_eq_true rfl) ?_
  intro p e s m args below meth c hsz X hr hnam hA hK hT H locs B ls hl
  obtain ⟨hx, hb, hml, hown, hts, hlocks⟩ := id X
  have hl : lv_has ls 4 [(0, .ref b0), (1, .int a1), (2, .int a2), (3, .int a3)] := hl
  refine lv_aload_n hx hb dX4_between_0 rfl (lv_at hl 0 rfl) ?_
  refine lv_iload_n hx hb dX4_between_1 rfl (lv_at hl 1 rfl) ?_
  refine k_i (k := 0) (n := 0) hA B (u_S (rest := [.ref b0]) X (c_X4_isNone l g N ad (mg g ad y cr dr th kn rf pl pz mc) a1 H.size) mw_X4_isNone md_X4_isNone rfl lk_X4_95 ⟨Nat.le_of_ble_eq_true rfl, Nat.le_of_ble_eq_true rfl⟩ hA hK hT B hl.1 rfl (Nat.le_of_ble_eq_true rfl) dX4_between_2 ⟨Nat.le_of_ble_eq_true rfl, Nat.le_of_ble_eq_true rfl⟩) (Nat.le_of_ble_eq_true rfl) (Nat.le_of_ble_eq_true rfl) (fun r1 ad1 f' H locs hw B => ?_)
  obtain ⟨rfl, rfl, rfl⟩ := hw
  refine lv_if_ne (tgt := 22) hx hb dX4_between_5 (by decide) (fun c2 => ?_) (fun c2 => ?_)
  · refine lv_iconst (v := 1) hx hb dX4_between_22 (by decide) ?_
    refine lv_goto (tgt := 27) hx hb dX4_between_23 (by decide) ?_
    refine lv_iconst (v := 0) hx hb dX4_between_27 (by decide) ?_
    refine k_i (k := 0) (n := 0) hA B (b_V (q := 24) (rest := []) hb0 X (c_X4_stops l g N ad y cr dr th kn rf pl pz mc (by omega) b0 hb0 1 0 H.size) mw_X4_stops md_X4_stops rfl lk_X4_99 ⟨Nat.le_of_ble_eq_true rfl, Nat.le_of_ble_eq_true rfl⟩ hA hK hT B (by omega) mg_24 rfl rfl hl.1 rfl (Nat.le_of_ble_eq_true rfl) dX4_between_28 ⟨Nat.le_of_ble_eq_true rfl, Nat.le_of_ble_eq_true rfl⟩) (Nat.le_of_ble_eq_true rfl) (Nat.le_of_ble_eq_true rfl) (fun r ad' f' H locs hw B => ?_)
    rw [st_10] at hw
    dsimp only at hw
    obtain ⟨rfl, rfl, rfl⟩ := hw
    have B : WB g (aw N ad sz) s.heap N ad (mg g ad y cr dr 1 kn rf pl pz mc) H locs := B
    refine lv_if_eq (tgt := 38) hx hb dX4_between_31 (by decide) (fun z => absurd z (by decide)) (fun _ => ?_)
    refine lv_iconst (v := 0) hx hb dX4_between_34 (by decide) ?_
    refine lv_goto (tgt := 58) hx hb dX4_between_35 (by decide) ?_
    have ev := (show v_X4_between cr dr rf a1 a2 a3 = (0, cr, 1, rf) from by unfold v_X4_between; rw [if_neg c2])
    exact rt_i X hr (ad, mg g ad y cr dr 1 kn rf pl pz mc) B (PO_of B) ⟨(fun _ _ _ => rfl), by rw [ev], by rw [ev]⟩ rfl (Nat.le_of_ble_eq_true rfl) (Nat.le_of_ble_eq_true rfl) dX4_between_58
  · refine lv_iload_n hx hb dX4_between_8 rfl (lv_at hl 2 rfl) ?_
    refine k_i (k := 0) (n := 0) hA B (u_S (rest := [.ref b0]) X (c_X4_isNone l g N ad (mg g ad y cr dr th kn rf pl pz mc) a2 H.size) mw_X4_isNone md_X4_isNone rfl lk_X4_95 ⟨Nat.le_of_ble_eq_true rfl, Nat.le_of_ble_eq_true rfl⟩ hA hK hT B hl.1 rfl (Nat.le_of_ble_eq_true rfl) dX4_between_9 ⟨Nat.le_of_ble_eq_true rfl, Nat.le_of_ble_eq_true rfl⟩) (Nat.le_of_ble_eq_true rfl) (Nat.le_of_ble_eq_true rfl) (fun r3 ad3 f' H locs hw B => ?_)
    obtain ⟨rfl, rfl, rfl⟩ := hw
    refine lv_if_ne (tgt := 22) hx hb dX4_between_12 (by decide) (fun c4 => ?_) (fun c4 => ?_)
    · refine lv_iconst (v := 1) hx hb dX4_between_22 (by decide) ?_
      refine lv_goto (tgt := 27) hx hb dX4_between_23 (by decide) ?_
      refine lv_iconst (v := 0) hx hb dX4_between_27 (by decide) ?_
      refine k_i (k := 0) (n := 0) hA B (b_V (q := 24) (rest := []) hb0 X (c_X4_stops l g N ad y cr dr th kn rf pl pz mc (by omega) b0 hb0 1 0 H.size) mw_X4_stops md_X4_stops rfl lk_X4_99 ⟨Nat.le_of_ble_eq_true rfl, Nat.le_of_ble_eq_true rfl⟩ hA hK hT B (by omega) mg_24 rfl rfl hl.1 rfl (Nat.le_of_ble_eq_true rfl) dX4_between_28 ⟨Nat.le_of_ble_eq_true rfl, Nat.le_of_ble_eq_true rfl⟩) (Nat.le_of_ble_eq_true rfl) (Nat.le_of_ble_eq_true rfl) (fun r ad' f' H locs hw B => ?_)
      rw [st_10] at hw
      dsimp only at hw
      obtain ⟨rfl, rfl, rfl⟩ := hw
      have B : WB g (aw N ad sz) s.heap N ad (mg g ad y cr dr 1 kn rf pl pz mc) H locs := B
      refine lv_if_eq (tgt := 38) hx hb dX4_between_31 (by decide) (fun z => absurd z (by decide)) (fun _ => ?_)
      refine lv_iconst (v := 0) hx hb dX4_between_34 (by decide) ?_
      refine lv_goto (tgt := 58) hx hb dX4_between_35 (by decide) ?_
      have ev := (show v_X4_between cr dr rf a1 a2 a3 = (0, cr, 1, rf) from by unfold v_X4_between; rw [if_pos c2, if_neg c4])
      exact rt_i X hr (ad, mg g ad y cr dr 1 kn rf pl pz mc) B (PO_of B) ⟨(fun _ _ _ => rfl), by rw [ev], by rw [ev]⟩ rfl (Nat.le_of_ble_eq_true rfl) (Nat.le_of_ble_eq_true rfl) dX4_between_58
    · refine lv_iload_n hx hb dX4_between_15 rfl (lv_at hl 3 rfl) ?_
      refine k_i (k := 0) (n := 0) hA B (u_S (rest := [.ref b0]) X (c_X4_isNone l g N ad (mg g ad y cr dr th kn rf pl pz mc) a3 H.size) mw_X4_isNone md_X4_isNone rfl lk_X4_95 ⟨Nat.le_of_ble_eq_true rfl, Nat.le_of_ble_eq_true rfl⟩ hA hK hT B hl.1 rfl (Nat.le_of_ble_eq_true rfl) dX4_between_16 ⟨Nat.le_of_ble_eq_true rfl, Nat.le_of_ble_eq_true rfl⟩) (Nat.le_of_ble_eq_true rfl) (Nat.le_of_ble_eq_true rfl) (fun r5 ad5 f' H locs hw B => ?_)
      obtain ⟨rfl, rfl, rfl⟩ := hw
      refine lv_if_eq (tgt := 26) hx hb dX4_between_19 (by decide) (fun c6 => ?_) (fun c6 => ?_)
      · refine lv_iconst (v := 0) hx hb dX4_between_26 (by decide) ?_
        refine lv_iconst (v := 0) hx hb dX4_between_27 (by decide) ?_
        refine k_i (k := 0) (n := 0) hA B (b_V (q := 24) (rest := []) hb0 X (c_X4_stops l g N ad y cr dr th kn rf pl pz mc (by omega) b0 hb0 0 0 H.size) mw_X4_stops md_X4_stops rfl lk_X4_99 ⟨Nat.le_of_ble_eq_true rfl, Nat.le_of_ble_eq_true rfl⟩ hA hK hT B (by omega) mg_24 rfl rfl hl.1 rfl (Nat.le_of_ble_eq_true rfl) dX4_between_28 ⟨Nat.le_of_ble_eq_true rfl, Nat.le_of_ble_eq_true rfl⟩) (Nat.le_of_ble_eq_true rfl) (Nat.le_of_ble_eq_true rfl) (fun r ad' f' H locs hw B => ?_)
        rw [st_00] at hw
        dsimp only at hw
        obtain ⟨rfl, rfl, rfl⟩ := hw
        have B : WB g (aw N ad sz) s.heap N ad (mg g ad y cr dr 0 kn rf pl pz mc) H locs := B
        refine lv_if_eq (tgt := 38) hx hb dX4_between_31 (by decide) (fun _ => ?_) (fun z => absurd z (by decide))
        refine lv_aload_n hx hb dX4_between_38 rfl (lv_at hl 0 rfl) ?_
        refine lv_iload_n hx hb dX4_between_39 rfl (lv_at hl 1 rfl) ?_
        refine lv_aload_n hx hb dX4_between_40 rfl (lv_at hl 0 rfl) ?_
        refine b_get (q := 24) (k := 3) hb0 X hK B rfl in_X4 (by omega) mg_24 (by decide) lk_X4_23 rfl rfl dX4_between_41 ?_
        refine lv_iload_n hx hb dX4_between_44 rfl (lv_at hl 2 rfl) ?_
        refine b_aald (q := 26) (t0 := 2) (v := ad (32 + a2.toNatClampNeg)) rfl X hK B (by omega) mg_26 rfl rfl (no_in c4) rfl dX4_between_45 ?_
        have g7 : a2.toNatClampNeg < 4 := (no_lt c4)
        refine lv_aload_n hx hb dX4_between_46 rfl (lv_at hl 0 rfl) ?_
        refine b_get (q := 24) (k := 3) hb0 X hK B rfl in_X4 (by omega) mg_24 (by decide) lk_X4_23 rfl rfl dX4_between_47 ?_
        refine lv_iload_n hx hb dX4_between_50 rfl (lv_at hl 3 rfl) ?_
        refine b_aald (q := 26) (t0 := 2) (v := ad (32 + a3.toNatClampNeg)) rfl X hK B (by omega) mg_26 rfl rfl (no_in c6) rfl dX4_between_51 ?_
        have g8 : a3.toNatClampNeg < 4 := (no_lt c6)
        refine k_r (k := 2) (n := 6) hA B (u_S (rest := [.int a1, .ref b0]) X (c_X4_apart l g N ad (mg g ad y cr dr 0 kn rf pl pz mc) (32 + a2.toNatClampNeg) (ad (32 + a2.toNatClampNeg)) (dr a2.toNatClampNeg) (pl_dr hN g7) rfl (mg_dr g7) (32 + a3.toNatClampNeg) (ad (32 + a3.toNatClampNeg)) (dr a3.toNatClampNeg) (pl_dr hN g8) rfl (mg_dr g8) (hdr _ g7) (hdr _ g8) H.size) mw_X4_apart md_X4_apart rfl lk_X4_219 ⟨Nat.le_of_ble_eq_true rfl, Nat.le_of_ble_eq_true rfl⟩ hA hK hT B hl.1 rfl (Nat.le_of_ble_eq_true rfl) dX4_between_52 ⟨Nat.le_of_ble_eq_true rfl, Nat.le_of_ble_eq_true rfl⟩) (Nat.le_of_ble_eq_true rfl) (Nat.le_of_ble_eq_true rfl) (fun r9 ad9 f' H locs hw B => ?_)
        generalize o10 : (v_X4_apart (dr a2.toNatClampNeg) (dr a3.toNatClampNeg)) = v9 at hw B
        cases v9 with
        | none =>
          obtain ⟨rfl, rfl, rfl⟩ := pw_n hw
          refine k_i (k := 2) (n := 6) hA B (b_V (q := 24) (rest := []) hb0 X (c_X4_getN l g N ad y cr dr 0 kn rf pl pz mc (by omega) b0 hb0 a1 H.size) mw_X4_get md_X4_get rfl lk_X4_103 ⟨Nat.le_of_ble_eq_true rfl, Nat.le_of_ble_eq_true rfl⟩ hA hK hT B (by omega) mg_24 rfl rfl hl.1 rfl (Nat.le_of_ble_eq_true rfl) dX4_between_55 ⟨Nat.le_of_ble_eq_true rfl, Nat.le_of_ble_eq_true rfl⟩) (Nat.le_of_ble_eq_true rfl) (Nat.le_of_ble_eq_true rfl) (fun r11 ad11 f' H locs hw B => ?_)
          obtain ⟨rfl, rfl, rfl⟩ := hw
          have ev := (show v_X4_between cr dr rf a1 a2 a3 = ((v_X4_getN rf).1, cr, 0, (v_X4_getN rf).2) from by unfold v_X4_between; rw [if_pos c2, if_pos c4, if_pos c6, om_none o10])
          exact rt_i X hr (ad, mg g ad y cr dr 0 kn (v_X4_getN rf).2 pl pz mc) B (PO_of B) ⟨(fun _ _ _ => rfl), by rw [ev], by rw [ev]⟩ rfl (Nat.le_of_ble_eq_true rfl) (Nat.le_of_ble_eq_true rfl) dX4_between_58
        | some t10 =>
          obtain ⟨z10, rfl, rfl, rfl⟩ := pw_s hw
          have B : WB g (aw N ad sz) s.heap (N + 1) (va_up ad N z10) (mg g (va_up ad N z10) (va_up y N (c_row g t10)) cr dr 0 kn rf pl pz mc) H locs := WM_push (by omega) B
          refine k_i (k := 3) (n := 9) hA B (b_V (q := 24) (rest := []) ((up_lt (by omega)).trans hb0) X (c_X4_get l g (N + 1) (va_up ad N z10) (va_up y N (c_row g t10)) cr dr 0 kn rf pl pz mc (by omega) b0 ((up_lt (by omega)).trans hb0) a1 N z10 t10 (Nat.lt_succ_self _) up_eq ((mg_hi (by omega)).trans up_eq) c2 H.size) mw_X4_get md_X4_get rfl lk_X4_103 ⟨Nat.le_of_ble_eq_true rfl, Nat.le_of_ble_eq_true rfl⟩ hA hK hT B (by omega) mg_24 rfl rfl hl.1 rfl (Nat.le_of_ble_eq_true rfl) dX4_between_55 ⟨Nat.le_of_ble_eq_true rfl, Nat.le_of_ble_eq_true rfl⟩) (Nat.le_of_ble_eq_true rfl) (Nat.le_of_ble_eq_true rfl) (fun r12 ad12 f' H locs hw B => ?_)
          dsimp only at hw
          obtain ⟨mv13, rfl, rfl⟩ := hw
          have B : WB g (aw N ad sz) s.heap N ad12 (mg g ad12 y (v_X4_get cr a1 t10).2 dr 0 kn rf pl pz mc) H locs := WM_drop B (by omega) (by omega) (fun _ _ => rfl) (fun _ hk => (up_lt hk))
          have kk14 : ∀ k, k < N → k < 28 ∨ 36 ≤ k → ad12 k = ad k := fun k hk hkq => (mv13 k (by omega) hkq).trans (((fun _ hk => (up_lt hk)) k hk).trans rfl)
          have nb15 : ad12 24 = b0 := (mv13 24 (by omega) (Or.inl (by decide))).trans ((up_lt (by omega)).trans hb0)
          have ev := (show v_X4_between cr dr rf a1 a2 a3 = ((v_X4_get cr a1 t10).1, (v_X4_get cr a1 t10).2, 0, rf) from by unfold v_X4_between; rw [if_pos c2, if_pos c4, if_pos c6, om_some o10])
          exact rt_i X hr (ad12, mg g ad12 y (v_X4_get cr a1 t10).2 dr 0 kn rf pl pz mc) B (PO_of B) ⟨kk14, by rw [ev], by rw [ev]⟩ rfl (Nat.le_of_ble_eq_true rfl) (Nat.le_of_ble_eq_true rfl) dX4_between_58
      · refine lv_iconst (v := 1) hx hb dX4_between_22 (by decide) ?_
        refine lv_goto (tgt := 27) hx hb dX4_between_23 (by decide) ?_
        refine lv_iconst (v := 0) hx hb dX4_between_27 (by decide) ?_
        refine k_i (k := 0) (n := 0) hA B (b_V (q := 24) (rest := []) hb0 X (c_X4_stops l g N ad y cr dr th kn rf pl pz mc (by omega) b0 hb0 1 0 H.size) mw_X4_stops md_X4_stops rfl lk_X4_99 ⟨Nat.le_of_ble_eq_true rfl, Nat.le_of_ble_eq_true rfl⟩ hA hK hT B (by omega) mg_24 rfl rfl hl.1 rfl (Nat.le_of_ble_eq_true rfl) dX4_between_28 ⟨Nat.le_of_ble_eq_true rfl, Nat.le_of_ble_eq_true rfl⟩) (Nat.le_of_ble_eq_true rfl) (Nat.le_of_ble_eq_true rfl) (fun r ad' f' H locs hw B => ?_)
        rw [st_10] at hw
        dsimp only at hw
        obtain ⟨rfl, rfl, rfl⟩ := hw
        have B : WB g (aw N ad sz) s.heap N ad (mg g ad y cr dr 1 kn rf pl pz mc) H locs := B
        refine lv_if_eq (tgt := 38) hx hb dX4_between_31 (by decide) (fun z => absurd z (by decide)) (fun _ => ?_)
        refine lv_iconst (v := 0) hx hb dX4_between_34 (by decide) ?_
        refine lv_goto (tgt := 58) hx hb dX4_between_35 (by decide) ?_
        have ev := (show v_X4_between cr dr rf a1 a2 a3 = (0, cr, 1, rf) from by unfold v_X4_between; rw [if_pos c2, if_pos c4, if_neg c6])
        exact rt_i X hr (ad, mg g ad y cr dr 1 kn rf pl pz mc) B (PO_of B) ⟨(fun _ _ _ => rfl), by rw [ev], by rw [ev]⟩ rfl (Nat.le_of_ble_eq_true rfl) (Nat.le_of_ble_eq_true rfl) dX4_between_58
def v_X4_until (cr : Nat → TR) (dr : Nat → TR) (rf : Int32) (a1 : Int32) (a2 : Int32) (a3 : Int32) : Int32 × (Nat → TR) × Int32 × Int32 := ((v_X4_between cr dr rf a1 a2 a3).1, (v_X4_between cr dr rf a1 a2 a3).2.1, (v_X4_between cr dr rf a1 a2 a3).2.2.1, (v_X4_between cr dr rf a1 a2 a3).2.2.2)
set_option maxHeartbeats 4000000 in
set_option maxRecDepth 100000 in
theorem c_X4_until (l : Launch) (g : GG) (N : Nat) (ad : Nat → Nat) (y : Nat → va_E) (cr dr : Nat → TR) (th kn rf : Int32) (pl : Nat → TR) (pz : Nat) (mc : Int32) (hN : 36 + pz ≤ N) (b0 : Nat) (hb0 : ad 24 = b0) (a1 : Int32) (a2 : Int32) (a3 : Int32) (hdr : ∀ i, i < 4 → okd (dr i)) : KI l yX4_until cX4_until 4 (some .int) (rm 5 3 9) g [.ref b0, .int a1, .int a2, .int a3] N ad (mg g ad y cr dr th kn rf pl pz mc) N (fun r ad' f' => (∀ k, k < N → k < 28 ∨ 36 ≤ k → ad' k = ad k) ∧ (v_X4_until cr dr rf a1 a2 a3).1 = r ∧ mg g ad' y (v_X4_until cr dr rf a1 a2 a3).2.1 dr (v_X4_until cr dr rf a1 a2 a3).2.2.1 kn (v_X4_until cr dr rf a1 a2 a3).2.2.2 pl pz mc = f') := by
  intro sz
  refine mt_start (by decide) (Nat.le_of_ble_eq_true rfl) ?_
  intro p e s m args below meth c hsz X hr hnam hA hK hT H locs B ls hl
  obtain ⟨hx, hb, hml, hown, hts, hlocks⟩ := id X
  have hl : lv_has ls 4 [(0, .ref b0), (1, .int a1), (2, .int a2), (3, .int a3)] := hl
  refine lv_aload_n hx hb dX4_until_0 rfl (lv_at hl 0 rfl) ?_
  refine lv_iload_n hx hb dX4_until_1 rfl (lv_at hl 1 rfl) ?_
  refine lv_iload_n hx hb dX4_until_2 rfl (lv_at hl 2 rfl) ?_
  refine lv_iload_n hx hb dX4_until_3 rfl (lv_at hl 3 rfl) ?_
  refine k_i (k := 3) (n := 9) hA B (b_V (q := 24) (rest := []) hb0 X (c_X4_between l g N ad y cr dr th kn rf pl pz mc (by omega) b0 hb0 a1 a2 a3 hdr H.size) mw_X4_between md_X4_between rfl lk_X4_223 ⟨Nat.le_of_ble_eq_true rfl, Nat.le_of_ble_eq_true rfl⟩ hA hK hT B (by omega) mg_24 rfl rfl hl.1 rfl (Nat.le_of_ble_eq_true rfl) dX4_until_4 ⟨Nat.le_of_ble_eq_true rfl, Nat.le_of_ble_eq_true rfl⟩) (Nat.le_of_ble_eq_true rfl) (Nat.le_of_ble_eq_true rfl) (fun r1 ad1 f' H locs hw B => ?_)
  dsimp only at hw
  obtain ⟨mv2, rfl, rfl⟩ := hw
  have kk3 : ∀ k, k < N → k < 28 ∨ 36 ≤ k → ad1 k = ad k := fun k hk hkq => (mv2 k (by omega) hkq).trans (rfl.trans rfl)
  have nb4 : ad1 24 = b0 := (mv2 24 (by omega) (Or.inl (by decide))).trans hb0
  have ev := (show v_X4_until cr dr rf a1 a2 a3 = ((v_X4_between cr dr rf a1 a2 a3).1, (v_X4_between cr dr rf a1 a2 a3).2.1, (v_X4_between cr dr rf a1 a2 a3).2.2.1, (v_X4_between cr dr rf a1 a2 a3).2.2.2) from rfl)
  exact rt_i X hr (ad1, mg g ad1 y (v_X4_between cr dr rf a1 a2 a3).2.1 dr (v_X4_between cr dr rf a1 a2 a3).2.2.1 kn (v_X4_between cr dr rf a1 a2 a3).2.2.2 pl pz mc) B (PO_of B) ⟨kk3, by rw [ev], by rw [ev]⟩ rfl (Nat.le_of_ble_eq_true rfl) (Nat.le_of_ble_eq_true rfl) dX4_until_7
def v_X4_ofDateNow (dr : Nat → TR) (a1 : Int32) (a2 : Int32) : Int32 := if a2 = 3 then (v_X4_number (dr a1.toNatClampNeg)) else (rw3 (dr a1.toNatClampNeg) a2.toNatClampNeg)
set_option maxHeartbeats 4000000 in
set_option maxRecDepth 100000 in
theorem c_X4_ofDateNow (l : Launch) (g : GG) (N : Nat) (ad : Nat → Nat) (y : Nat → va_E) (cr dr : Nat → TR) (th kn rf : Int32) (pl : Nat → TR) (pz : Nat) (mc : Int32) (hN : 36 + pz ≤ N) (b0 : Nat) (hb0 : ad 24 = b0) (a1 : Int32) (a2 : Int32) (hza1 : v_X4_isNone a1 = 0) (hw3 : ¬ v_X4_isIn a2.toInt64 0 3 = 0) (hdr : ∀ i, i < 4 → okd (dr i)) : KI l yX4_ofDateNow cX4_ofDateNow 3 (some .int) (rm 3 0 0) g [.ref b0, .int a1, .int a2] N ad (mg g ad y cr dr th kn rf pl pz mc) N (fun r ad' f' => ad = ad' ∧ (v_X4_ofDateNow dr a1 a2) = r ∧ mg g ad y cr dr th kn rf pl pz mc = f') := by
  intro sz
  refine mt_start (by decide) (Nat.le_of_ble_eq_true rfl) ?_
  intro p e s m args below meth c hsz X hr hnam hA hK hT H locs B ls hl
  obtain ⟨hx, hb, hml, hown, hts, hlocks⟩ := id X
  have hl : lv_has ls 3 [(0, .ref b0), (1, .int a1), (2, .int a2)] := hl
  refine lv_iload_n hx hb dX4_ofDateNow_0 rfl (lv_at hl 2 rfl) ?_
  refine lv_iconst (v := 3) hx hb dX4_ofDateNow_1 (by decide) ?_
  refine lv_icmp_ne (tgt := 17) hx hb dX4_ofDateNow_2 (by decide) (fun c1 => ?_) (fun c1 => ?_)
  · refine lv_aload_n hx hb dX4_ofDateNow_17 rfl (lv_at hl 0 rfl) ?_
    refine b_get (q := 24) (k := 3) hb0 X hK B rfl in_X4 (by omega) mg_24 (by decide) lk_X4_23 rfl rfl dX4_ofDateNow_18 ?_
    refine lv_iload_n hx hb dX4_ofDateNow_21 rfl (lv_at hl 1 rfl) ?_
    refine b_aald (q := 26) (t0 := 2) (v := ad (32 + a1.toNatClampNeg)) rfl X hK B (by omega) mg_26 rfl rfl (no_in hza1) rfl dX4_ofDateNow_22 ?_
    have g2 : a1.toNatClampNeg < 4 := (no_lt hza1)
    refine lv_iload_n hx hb dX4_ofDateNow_23 rfl (lv_at hl 2 rfl) ?_
    refine h_ld X hK B (pl_dr hN g2) rfl (mg_dr g2) (isin_3 hw3 c1).1 dX4_ofDateNow_24 ?_
    have ev := (show v_X4_ofDateNow dr a1 a2 = rw3 (dr a1.toNatClampNeg) a2.toNatClampNeg from by unfold v_X4_ofDateNow; rw [if_neg c1])
    exact rt_i X hr (ad, mg g ad y cr dr th kn rf pl pz mc) B (PO_of B) ⟨rfl, by rw [ev], rfl⟩ rfl (Nat.le_of_ble_eq_true rfl) (Nat.le_of_ble_eq_true rfl) dX4_ofDateNow_25
  · refine lv_aload_n hx hb dX4_ofDateNow_5 rfl (lv_at hl 0 rfl) ?_
    refine b_get (q := 24) (k := 3) hb0 X hK B rfl in_X4 (by omega) mg_24 (by decide) lk_X4_23 rfl rfl dX4_ofDateNow_6 ?_
    refine lv_iload_n hx hb dX4_ofDateNow_9 rfl (lv_at hl 1 rfl) ?_
    refine b_aald (q := 26) (t0 := 2) (v := ad (32 + a1.toNatClampNeg)) rfl X hK B (by omega) mg_26 rfl rfl (no_in hza1) rfl dX4_ofDateNow_10 ?_
    have g3 : a1.toNatClampNeg < 4 := (no_lt hza1)
    refine k_i (k := 0) (n := 0) hA B (u_S (rest := []) X (c_X4_number l g N ad (mg g ad y cr dr th kn rf pl pz mc) (32 + a1.toNatClampNeg) (ad (32 + a1.toNatClampNeg)) (dr a1.toNatClampNeg) (pl_dr hN g3) rfl (mg_dr g3) (okd_mo (hdr _ g3)) H.size) mw_X4_number md_X4_number rfl lk_X4_198 ⟨Nat.le_of_ble_eq_true rfl, Nat.le_of_ble_eq_true rfl⟩ hA hK hT B hl.1 rfl (Nat.le_of_ble_eq_true rfl) dX4_ofDateNow_11 ⟨Nat.le_of_ble_eq_true rfl, Nat.le_of_ble_eq_true rfl⟩) (Nat.le_of_ble_eq_true rfl) (Nat.le_of_ble_eq_true rfl) (fun r4 ad4 f' H locs hw B => ?_)
    obtain ⟨rfl, rfl, rfl⟩ := hw
    refine lv_goto (tgt := 25) hx hb dX4_ofDateNow_14 (by decide) ?_
    have ev := (show v_X4_ofDateNow dr a1 a2 = (v_X4_number (dr a1.toNatClampNeg)) from by unfold v_X4_ofDateNow; rw [if_pos c1])
    exact rt_i X hr (ad, mg g ad y cr dr th kn rf pl pz mc) B (PO_of B) ⟨rfl, by rw [ev], rfl⟩ rfl (Nat.le_of_ble_eq_true rfl) (Nat.le_of_ble_eq_true rfl) dX4_ofDateNow_25
def v_X4_ofDate (dr : Nat → TR) (a1 : Int32) (a2 : Int32) : Int32 × Int32 := if (v_X4_isIn a2.toInt64 0 3) = 0 then (if v_X4_isNone a1 = 0 then (0, 2) else (0, 1)) else (if v_X4_isNone a1 = 0 then ((v_X4_ofDateNow dr a1 a2), 0) else (0, 1))
set_option maxHeartbeats 4000000 in
set_option maxRecDepth 100000 in
theorem c_X4_ofDate (l : Launch) (g : GG) (N : Nat) (ad : Nat → Nat) (y : Nat → va_E) (cr dr : Nat → TR) (th kn rf : Int32) (pl : Nat → TR) (pz : Nat) (mc : Int32) (hN : 36 + pz ≤ N) (b0 : Nat) (hb0 : ad 24 = b0) (a1 : Int32) (a2 : Int32) (hdr : ∀ i, i < 4 → okd (dr i)) : KI l yX4_ofDate cX4_ofDate 3 (some .int) (rm 4 0 0) g [.ref b0, .int a1, .int a2] N ad (mg g ad y cr dr th kn rf pl pz mc) N (fun r ad' f' => ad = ad' ∧ (v_X4_ofDate dr a1 a2).1 = r ∧ mg g ad y cr dr (v_X4_ofDate dr a1 a2).2 kn rf pl pz mc = f') := by
  intro sz
  refine mt_start (by decide) (Nat.le_of_ble_eq_true rfl) ?_
  intro p e s m args below meth c hsz X hr hnam hA hK hT H locs B ls hl
  obtain ⟨hx, hb, hml, hown, hts, hlocks⟩ := id X
  have hl : lv_has ls 3 [(0, .ref b0), (1, .int a1), (2, .int a2)] := hl
  refine lv_aload_n hx hb dX4_ofDate_0 rfl (lv_at hl 0 rfl) ?_
  refine lv_iload_n hx hb dX4_ofDate_1 rfl (lv_at hl 1 rfl) ?_
  refine k_i (k := 0) (n := 0) hA B (u_S (rest := [.ref b0]) X (c_X4_isNone l g N ad (mg g ad y cr dr th kn rf pl pz mc) a1 H.size) mw_X4_isNone md_X4_isNone rfl lk_X4_95 ⟨Nat.le_of_ble_eq_true rfl, Nat.le_of_ble_eq_true rfl⟩ hA hK hT B hl.1 rfl (Nat.le_of_ble_eq_true rfl) dX4_ofDate_2 ⟨Nat.le_of_ble_eq_true rfl, Nat.le_of_ble_eq_true rfl⟩) (Nat.le_of_ble_eq_true rfl) (Nat.le_of_ble_eq_true rfl) (fun r1 ad1 f' H locs hw B => ?_)
  obtain ⟨rfl, rfl, rfl⟩ := hw
  refine lv_iload_n hx hb dX4_ofDate_5 rfl (lv_at hl 2 rfl) ?_
  refine lv_i2l (v := a2.toInt64) hx hb dX4_ofDate_6 rfl ?_
  refine lv_lconst (v := 0) hx hb dX4_ofDate_7 (by decide) ?_
  refine lv_ldc2 hx hb hown (hts _ (List.mem_cons_of_mem _ lk_X4_227)) dX4_ofDate_8 ?_
  refine k_i (k := 0) (n := 0) hA B (u_S (rest := [.int (v_X4_isNone a1), .ref b0]) X (c_X4_isIn l g N ad (mg g ad y cr dr th kn rf pl pz mc) a2.toInt64 0 3 H.size) mw_X4_isIn md_X4_isIn rfl lk_X4_37 ⟨Nat.le_of_ble_eq_true rfl, Nat.le_of_ble_eq_true rfl⟩ hA hK hT B hl.1 rfl (Nat.le_of_ble_eq_true rfl) dX4_ofDate_11 ⟨Nat.le_of_ble_eq_true rfl, Nat.le_of_ble_eq_true rfl⟩) (Nat.le_of_ble_eq_true rfl) (Nat.le_of_ble_eq_true rfl) (fun r2 ad2 f' H locs hw B => ?_)
  obtain ⟨rfl, rfl, rfl⟩ := hw
  refine lv_if_ne (tgt := 21) hx hb dX4_ofDate_14 (by decide) (fun c3 => ?_) (fun c3 => ?_)
  · refine lv_iconst (v := 0) hx hb dX4_ofDate_21 (by decide) ?_
    by_cases s4 : v_X4_isNone a1 = 0
    · rw [s4]
      refine k_i (k := 0) (n := 0) hA B (b_V (q := 24) (rest := []) hb0 X (c_X4_stops l g N ad y cr dr th kn rf pl pz mc (by omega) b0 hb0 0 0 H.size) mw_X4_stops md_X4_stops rfl lk_X4_99 ⟨Nat.le_of_ble_eq_true rfl, Nat.le_of_ble_eq_true rfl⟩ hA hK hT B (by omega) mg_24 rfl rfl hl.1 rfl (Nat.le_of_ble_eq_true rfl) dX4_ofDate_22 ⟨Nat.le_of_ble_eq_true rfl, Nat.le_of_ble_eq_true rfl⟩) (Nat.le_of_ble_eq_true rfl) (Nat.le_of_ble_eq_true rfl) (fun r ad' f' H locs hw B => ?_)
      rw [st_00] at hw
      dsimp only at hw
      obtain ⟨rfl, rfl, rfl⟩ := hw
      have B : WB g (aw N ad sz) s.heap N ad (mg g ad y cr dr 0 kn rf pl pz mc) H locs := B
      refine lv_if_eq (tgt := 32) hx hb dX4_ofDate_25 (by decide) (fun _ => ?_) (fun z => absurd z (by decide))
      refine lv_aload_n hx hb dX4_ofDate_32 rfl (lv_at hl 0 rfl) ?_
      refine lv_iload_n hx hb dX4_ofDate_33 rfl (lv_at hl 1 rfl) ?_
      refine lv_iload_n hx hb dX4_ofDate_34 rfl (lv_at hl 2 rfl) ?_
      refine k_i (k := 0) (n := 0) hA B (b_V (q := 24) (rest := []) hb0 X (c_X4_ofDateNow l g N ad y cr dr 0 kn rf pl pz mc (by omega) b0 hb0 a1 a2 s4 c3 hdr H.size) mw_X4_ofDateNow md_X4_ofDateNow rfl lk_X4_229 ⟨Nat.le_of_ble_eq_true rfl, Nat.le_of_ble_eq_true rfl⟩ hA hK hT B (by omega) mg_24 rfl rfl hl.1 rfl (Nat.le_of_ble_eq_true rfl) dX4_ofDate_35 ⟨Nat.le_of_ble_eq_true rfl, Nat.le_of_ble_eq_true rfl⟩) (Nat.le_of_ble_eq_true rfl) (Nat.le_of_ble_eq_true rfl) (fun r5 ad5 f' H locs hw B => ?_)
      obtain ⟨rfl, rfl, rfl⟩ := hw
      have ev := (show v_X4_ofDate dr a1 a2 = ((v_X4_ofDateNow dr a1 a2), 0) from by unfold v_X4_ofDate; rw [if_neg c3, if_pos s4])
      exact rt_i X hr (ad, mg g ad y cr dr 0 kn rf pl pz mc) B (PO_of B) ⟨rfl, by rw [ev], by rw [ev]⟩ rfl (Nat.le_of_ble_eq_true rfl) (Nat.le_of_ble_eq_true rfl) dX4_ofDate_38
    · have s4x : (v_X4_isNone a1) = 1 := (b01_X4_isNone).resolve_left s4
      rw [s4x]
      refine k_i (k := 0) (n := 0) hA B (b_V (q := 24) (rest := []) hb0 X (c_X4_stops l g N ad y cr dr th kn rf pl pz mc (by omega) b0 hb0 1 0 H.size) mw_X4_stops md_X4_stops rfl lk_X4_99 ⟨Nat.le_of_ble_eq_true rfl, Nat.le_of_ble_eq_true rfl⟩ hA hK hT B (by omega) mg_24 rfl rfl hl.1 rfl (Nat.le_of_ble_eq_true rfl) dX4_ofDate_22 ⟨Nat.le_of_ble_eq_true rfl, Nat.le_of_ble_eq_true rfl⟩) (Nat.le_of_ble_eq_true rfl) (Nat.le_of_ble_eq_true rfl) (fun r ad' f' H locs hw B => ?_)
      rw [st_10] at hw
      dsimp only at hw
      obtain ⟨rfl, rfl, rfl⟩ := hw
      have B : WB g (aw N ad sz) s.heap N ad (mg g ad y cr dr 1 kn rf pl pz mc) H locs := B
      refine lv_if_eq (tgt := 32) hx hb dX4_ofDate_25 (by decide) (fun z => absurd z (by decide)) (fun _ => ?_)
      refine lv_iconst (v := 0) hx hb dX4_ofDate_28 (by decide) ?_
      refine lv_goto (tgt := 38) hx hb dX4_ofDate_29 (by decide) ?_
      have ev := (show v_X4_ofDate dr a1 a2 = (0, 1) from by unfold v_X4_ofDate; rw [if_neg c3, if_neg s4])
      exact rt_i X hr (ad, mg g ad y cr dr 1 kn rf pl pz mc) B (PO_of B) ⟨rfl, by rw [ev], by rw [ev]⟩ rfl (Nat.le_of_ble_eq_true rfl) (Nat.le_of_ble_eq_true rfl) dX4_ofDate_38
  · refine lv_iconst (v := 1) hx hb dX4_ofDate_17 (by decide) ?_
    refine lv_goto (tgt := 22) hx hb dX4_ofDate_18 (by decide) ?_
    by_cases s6 : v_X4_isNone a1 = 0
    · rw [s6]
      refine k_i (k := 0) (n := 0) hA B (b_V (q := 24) (rest := []) hb0 X (c_X4_stops l g N ad y cr dr th kn rf pl pz mc (by omega) b0 hb0 0 1 H.size) mw_X4_stops md_X4_stops rfl lk_X4_99 ⟨Nat.le_of_ble_eq_true rfl, Nat.le_of_ble_eq_true rfl⟩ hA hK hT B (by omega) mg_24 rfl rfl hl.1 rfl (Nat.le_of_ble_eq_true rfl) dX4_ofDate_22 ⟨Nat.le_of_ble_eq_true rfl, Nat.le_of_ble_eq_true rfl⟩) (Nat.le_of_ble_eq_true rfl) (Nat.le_of_ble_eq_true rfl) (fun r ad' f' H locs hw B => ?_)
      rw [st_01] at hw
      dsimp only at hw
      obtain ⟨rfl, rfl, rfl⟩ := hw
      have B : WB g (aw N ad sz) s.heap N ad (mg g ad y cr dr 2 kn rf pl pz mc) H locs := B
      refine lv_if_eq (tgt := 32) hx hb dX4_ofDate_25 (by decide) (fun z => absurd z (by decide)) (fun _ => ?_)
      refine lv_iconst (v := 0) hx hb dX4_ofDate_28 (by decide) ?_
      refine lv_goto (tgt := 38) hx hb dX4_ofDate_29 (by decide) ?_
      have ev := (show v_X4_ofDate dr a1 a2 = (0, 2) from by unfold v_X4_ofDate; rw [if_pos c3, if_pos s6])
      exact rt_i X hr (ad, mg g ad y cr dr 2 kn rf pl pz mc) B (PO_of B) ⟨rfl, by rw [ev], by rw [ev]⟩ rfl (Nat.le_of_ble_eq_true rfl) (Nat.le_of_ble_eq_true rfl) dX4_ofDate_38
    · have s6x : (v_X4_isNone a1) = 1 := (b01_X4_isNone).resolve_left s6
      rw [s6x]
      refine k_i (k := 0) (n := 0) hA B (b_V (q := 24) (rest := []) hb0 X (c_X4_stops l g N ad y cr dr th kn rf pl pz mc (by omega) b0 hb0 1 1 H.size) mw_X4_stops md_X4_stops rfl lk_X4_99 ⟨Nat.le_of_ble_eq_true rfl, Nat.le_of_ble_eq_true rfl⟩ hA hK hT B (by omega) mg_24 rfl rfl hl.1 rfl (Nat.le_of_ble_eq_true rfl) dX4_ofDate_22 ⟨Nat.le_of_ble_eq_true rfl, Nat.le_of_ble_eq_true rfl⟩) (Nat.le_of_ble_eq_true rfl) (Nat.le_of_ble_eq_true rfl) (fun r ad' f' H locs hw B => ?_)
      rw [st_11] at hw
      dsimp only at hw
      obtain ⟨rfl, rfl, rfl⟩ := hw
      have B : WB g (aw N ad sz) s.heap N ad (mg g ad y cr dr 1 kn rf pl pz mc) H locs := B
      refine lv_if_eq (tgt := 32) hx hb dX4_ofDate_25 (by decide) (fun z => absurd z (by decide)) (fun _ => ?_)
      refine lv_iconst (v := 0) hx hb dX4_ofDate_28 (by decide) ?_
      refine lv_goto (tgt := 38) hx hb dX4_ofDate_29 (by decide) ?_
      have ev := (show v_X4_ofDate dr a1 a2 = (0, 1) from by unfold v_X4_ofDate; rw [if_pos c3, if_neg s6])
      exact rt_i X hr (ad, mg g ad y cr dr 1 kn rf pl pz mc) B (PO_of B) ⟨rfl, by rw [ev], by rw [ev]⟩ rfl (Nat.le_of_ble_eq_true rfl) (Nat.le_of_ble_eq_true rfl) dX4_ofDate_38
def v_X4_leadsBack (dr : Nat → TR) (a1 : Int32) (a2 : Int32) : Int32 := om (v_X4_apart (dr a1.toNatClampNeg) (dr a2.toNatClampNeg)) 0 (fun t4 => om (v_X4_onBy (dr a1.toNatClampNeg) t4 1) 0 (fun t7 => if (v_X4_number t7) = (v_X4_number (dr a2.toNatClampNeg)) then 1 else 0))
theorem b01_X4_leadsBack {dr : Nat → TR} {a1 : Int32} {a2 : Int32} : (v_X4_leadsBack dr a1 a2) = 0 ∨ (v_X4_leadsBack dr a1 a2) = 1 := by
  unfold v_X4_leadsBack
  cases q1 : (v_X4_apart (dr a1.toNatClampNeg) (dr a2.toNatClampNeg)) with
  | none =>
    rw [om_none rfl]
    exact Or.inl rfl
  | some t4 =>
    rw [om_some rfl]
    cases q2 : (v_X4_onBy (dr a1.toNatClampNeg) t4 1) with
    | none =>
      rw [om_none rfl]
      exact Or.inl rfl
    | some t7 =>
      rw [om_some rfl]
      by_cases q3 : (v_X4_number t7) = (v_X4_number (dr a2.toNatClampNeg))
      · rw [if_pos q3]
        exact Or.inr rfl
      · rw [if_neg q3]
        exact Or.inl rfl
set_option maxHeartbeats 4000000 in
set_option maxRecDepth 100000 in
theorem c_X4_leadsBack (l : Launch) (g : GG) (N : Nat) (ad : Nat → Nat) (y : Nat → va_E) (cr dr : Nat → TR) (th kn rf : Int32) (pl : Nat → TR) (pz : Nat) (mc : Int32) (hN : 36 + pz ≤ N) (b0 : Nat) (hb0 : ad 24 = b0) (a1 : Int32) (a2 : Int32) (hza1 : v_X4_isNone a1 = 0) (hza2 : v_X4_isNone a2 = 0) (hdr : ∀ i, i < 4 → okd (dr i)) : KI l yX4_leadsBack cX4_leadsBack 5 (some .boolean) (rm 4 4 12) g [.ref b0, .int a1, .int a2] N ad (mg g ad y cr dr th kn rf pl pz mc) N (fun r ad' f' => ad = ad' ∧ (v_X4_leadsBack dr a1 a2) = r ∧ mg g ad y cr dr th kn rf pl pz mc = f') := by
  intro sz
  refine mt_start (by decide) (Nat.le_of_ble_eq_true rfl) ?_
  intro p e s m args below meth c hsz X hr hnam hA hK hT H locs B ls hl
  obtain ⟨hx, hb, hml, hown, hts, hlocks⟩ := id X
  have hl : lv_has ls 5 [(0, .ref b0), (1, .int a1), (2, .int a2)] := hl
  refine lv_aload_n hx hb dX4_leadsBack_0 rfl (lv_at hl 0 rfl) ?_
  refine b_get (q := 24) (k := 3) hb0 X hK B rfl in_X4 (by omega) mg_24 (by decide) lk_X4_23 rfl rfl dX4_leadsBack_1 ?_
  refine lv_iload_n hx hb dX4_leadsBack_4 rfl (lv_at hl 1 rfl) ?_
  refine b_aald (q := 26) (t0 := 2) (v := ad (32 + a1.toNatClampNeg)) rfl X hK B (by omega) mg_26 rfl rfl (no_in hza1) rfl dX4_leadsBack_5 ?_
  have g1 : a1.toNatClampNeg < 4 := (no_lt hza1)
  refine lv_aload_n hx hb dX4_leadsBack_6 rfl (lv_at hl 0 rfl) ?_
  refine b_get (q := 24) (k := 3) hb0 X hK B rfl in_X4 (by omega) mg_24 (by decide) lk_X4_23 rfl rfl dX4_leadsBack_7 ?_
  refine lv_iload_n hx hb dX4_leadsBack_10 rfl (lv_at hl 2 rfl) ?_
  refine b_aald (q := 26) (t0 := 2) (v := ad (32 + a2.toNatClampNeg)) rfl X hK B (by omega) mg_26 rfl rfl (no_in hza2) rfl dX4_leadsBack_11 ?_
  have g2 : a2.toNatClampNeg < 4 := (no_lt hza2)
  refine k_r (k := 2) (n := 6) hA B (u_S (rest := []) X (c_X4_apart l g N ad (mg g ad y cr dr th kn rf pl pz mc) (32 + a1.toNatClampNeg) (ad (32 + a1.toNatClampNeg)) (dr a1.toNatClampNeg) (pl_dr hN g1) rfl (mg_dr g1) (32 + a2.toNatClampNeg) (ad (32 + a2.toNatClampNeg)) (dr a2.toNatClampNeg) (pl_dr hN g2) rfl (mg_dr g2) (hdr _ g1) (hdr _ g2) H.size) mw_X4_apart md_X4_apart rfl lk_X4_219 ⟨Nat.le_of_ble_eq_true rfl, Nat.le_of_ble_eq_true rfl⟩ hA hK hT B hl.1 rfl (Nat.le_of_ble_eq_true rfl) dX4_leadsBack_12 ⟨Nat.le_of_ble_eq_true rfl, Nat.le_of_ble_eq_true rfl⟩) (Nat.le_of_ble_eq_true rfl) (Nat.le_of_ble_eq_true rfl) (fun r3 ad3 f' H locs hw B => ?_)
  generalize o4 : (v_X4_apart (dr a1.toNatClampNeg) (dr a2.toNatClampNeg)) = v9 at hw B
  cases v9 with
  | none =>
    obtain ⟨rfl, rfl, rfl⟩ := pw_n hw
    refine lv_astore_nN (lv' := [(3, .null), (0, .ref b0), (1, .int a1), (2, .int a2)]) hx hb dX4_leadsBack_15 rfl hl (by decide) rfl (fun ls hl => ?_)
    refine lv_aload_nN hx hb dX4_leadsBack_16 rfl (lv_at hl 0 rfl) ?_
    refine lv_ifnonnullN hx hb dX4_leadsBack_17 ?_
    refine lv_iconst (v := 0) hx hb dX4_leadsBack_20 (by decide) ?_
    have ev := (show v_X4_leadsBack dr a1 a2 = 0 from by unfold v_X4_leadsBack; rw [om_none o4])
    exact rt_i X hr (ad, mg g ad y cr dr th kn rf pl pz mc) B (PO_of B) ⟨rfl, by rw [ev], rfl⟩ rfl (Nat.le_of_ble_eq_true rfl) (Nat.le_of_ble_eq_true rfl) dX4_leadsBack_21
  | some t4 =>
    obtain ⟨z4, rfl, rfl, rfl⟩ := pw_s hw
    have B : WB g (aw N ad sz) s.heap (N + 1) (va_up ad N z4) (mg g (va_up ad N z4) (va_up y N (c_row g t4)) cr dr th kn rf pl pz mc) H locs := WM_push (by omega) B
    refine lv_astore_n (lv' := [(3, .ref z4), (0, .ref b0), (1, .int a1), (2, .int a2)]) hx hb dX4_leadsBack_15 rfl hl (by decide) rfl (fun ls hl => ?_)
    refine lv_aload_n hx hb dX4_leadsBack_16 rfl (lv_at hl 0 rfl) ?_
    refine lv_ifnonnull (tgt := 22) hx hb dX4_leadsBack_17 (by decide) ?_
    refine lv_aload_n hx hb dX4_leadsBack_22 rfl (lv_at hl 1 rfl) ?_
    refine b_get (q := 24) (k := 3) ((up_lt (by omega)).trans hb0) X hK B rfl in_X4 (by omega) mg_24 (by decide) lk_X4_23 rfl rfl dX4_leadsBack_23 ?_
    refine lv_iload_n hx hb dX4_leadsBack_26 rfl (lv_at hl 2 rfl) ?_
    refine b_aald (q := 26) (t0 := 2) (v := (va_up ad N z4) (32 + a1.toNatClampNeg)) rfl X hK B (by omega) mg_26 rfl rfl (no_in hza1) rfl dX4_leadsBack_27 ?_
    have g5 : a1.toNatClampNeg < 4 := (no_lt hza1)
    rw [show (va_up ad N z4) (32 + a1.toNatClampNeg) = ad (32 + a1.toNatClampNeg) from (up_lt (by omega))]
    refine lv_aload_n hx hb dX4_leadsBack_28 rfl (lv_at hl 0 rfl) ?_
    refine lv_iconst (v := 1) hx hb dX4_leadsBack_29 (by decide) ?_
    refine k_r (k := 4) (n := 12) hA B (u_S (rest := []) X (c_X4_onBy l g (N + 1) (va_up ad N z4) (mg g (va_up ad N z4) (va_up y N (c_row g t4)) cr dr th kn rf pl pz mc) (32 + a1.toNatClampNeg) (ad (32 + a1.toNatClampNeg)) (dr a1.toNatClampNeg) (Nat.lt_succ_of_lt (pl_dr hN g5)) ((up_lt (pl_dr hN g5)).trans rfl) (mg_dr g5) N z4 t4 (Nat.lt_succ_self _) up_eq ((mg_hi (by omega)).trans up_eq) 1 H.size) mw_X4_onBy md_X4_onBy rfl lk_X4_215 ⟨Nat.le_of_ble_eq_true rfl, Nat.le_of_ble_eq_true rfl⟩ hA hK hT B hl.1 rfl (Nat.le_of_ble_eq_true rfl) dX4_leadsBack_30 ⟨Nat.le_of_ble_eq_true rfl, Nat.le_of_ble_eq_true rfl⟩) (Nat.le_of_ble_eq_true rfl) (Nat.le_of_ble_eq_true rfl) (fun r6 ad6 f' H locs hw B => ?_)
    generalize o7 : (v_X4_onBy (dr a1.toNatClampNeg) t4 1) = v9 at hw B
    cases v9 with
    | none =>
      obtain ⟨rfl, rfl, rfl⟩ := pw_n hw
      refine lv_astoreN (lv' := [(4, .null), (3, .ref z4), (0, .ref b0), (1, .int a1), (2, .int a2)]) hx hb dX4_leadsBack_33 hl (by decide) rfl (fun ls hl => ?_)
      refine lv_aloadN hx hb dX4_leadsBack_35 (lv_at hl 0 rfl) ?_
      refine lv_ifnullN (tgt := 61) hx hb dX4_leadsBack_37 (by decide) ?_
      refine lv_iconst (v := 0) hx hb dX4_leadsBack_61 (by decide) ?_
      have B : WB g (aw N ad sz) s.heap N ad (mg g ad y cr dr th kn rf pl pz mc) H locs := WM_drop B (by omega) (by omega) (fun _ hk => (up_lt hk)) (fun _ hk => (up_lt hk))
      have ev := (show v_X4_leadsBack dr a1 a2 = 0 from by unfold v_X4_leadsBack; rw [om_some o4, om_none o7])
      exact rt_i X hr (ad, mg g ad y cr dr th kn rf pl pz mc) B (PO_of B) ⟨rfl, by rw [ev], rfl⟩ rfl (Nat.le_of_ble_eq_true rfl) (Nat.le_of_ble_eq_true rfl) dX4_leadsBack_62
    | some t7 =>
      obtain ⟨z7, rfl, rfl, rfl⟩ := pw_s hw
      have B : WB g (aw N ad sz) s.heap (N + 1 + 1) (va_up (va_up ad N z4) (N + 1) z7) (mg g (va_up (va_up ad N z4) (N + 1) z7) (va_up (va_up y N (c_row g t4)) (N + 1) (c_row g t7)) cr dr th kn rf pl pz mc) H locs := WM_push (by omega) B
      refine lv_astore (lv' := [(4, .ref z7), (3, .ref z4), (0, .ref b0), (1, .int a1), (2, .int a2)]) hx hb dX4_leadsBack_33 hl (by decide) rfl (fun ls hl => ?_)
      refine lv_aload hx hb dX4_leadsBack_35 (lv_at hl 0 rfl) ?_
      refine lv_ifnull hx hb dX4_leadsBack_37 ?_
      refine lv_aload hx hb dX4_leadsBack_40 (lv_at hl 0 rfl) ?_
      refine k_i (k := 4) (n := 12) hA B (u_S (rest := []) X (c_X4_number l g (N + 1 + 1) (va_up (va_up ad N z4) (N + 1) z7) (mg g (va_up (va_up ad N z4) (N + 1) z7) (va_up (va_up y N (c_row g t4)) (N + 1) (c_row g t7)) cr dr th kn rf pl pz mc) (N + 1) z7 t7 (Nat.lt_succ_self _) up_eq ((mg_hi (by omega)).trans up_eq) (okd_mo (onBy_okd o7)) H.size) mw_X4_number md_X4_number rfl lk_X4_198 ⟨Nat.le_of_ble_eq_true rfl, Nat.le_of_ble_eq_true rfl⟩ hA hK hT B hl.1 rfl (Nat.le_of_ble_eq_true rfl) dX4_leadsBack_42 ⟨Nat.le_of_ble_eq_true rfl, Nat.le_of_ble_eq_true rfl⟩) (Nat.le_of_ble_eq_true rfl) (Nat.le_of_ble_eq_true rfl) (fun r8 ad8 f' H locs hw B => ?_)
      obtain ⟨rfl, rfl, rfl⟩ := hw
      refine lv_aload_n hx hb dX4_leadsBack_45 rfl (lv_at hl 2 rfl) ?_
      refine b_get (q := 24) (k := 3) ((up_lt (by omega)).trans ((up_lt (by omega)).trans hb0)) X hK B rfl in_X4 (by omega) mg_24 (by decide) lk_X4_23 rfl rfl dX4_leadsBack_46 ?_
      refine lv_iload_n hx hb dX4_leadsBack_49 rfl (lv_at hl 4 rfl) ?_
      refine b_aald (q := 26) (t0 := 2) (v := (va_up (va_up ad N z4) (N + 1) z7) (32 + a2.toNatClampNeg)) rfl X hK B (by omega) mg_26 rfl rfl (no_in hza2) rfl dX4_leadsBack_50 ?_
      have g9 : a2.toNatClampNeg < 4 := (no_lt hza2)
      rw [show (va_up (va_up ad N z4) (N + 1) z7) (32 + a2.toNatClampNeg) = ad (32 + a2.toNatClampNeg) from ((up_lt (by omega)).trans (up_lt (by omega)))]
      refine k_i (k := 4) (n := 12) hA B (u_S (rest := [.int (v_X4_number t7)]) X (c_X4_number l g (N + 1 + 1) (va_up (va_up ad N z4) (N + 1) z7) (mg g (va_up (va_up ad N z4) (N + 1) z7) (va_up (va_up y N (c_row g t4)) (N + 1) (c_row g t7)) cr dr th kn rf pl pz mc) (32 + a2.toNatClampNeg) (ad (32 + a2.toNatClampNeg)) (dr a2.toNatClampNeg) (Nat.lt_succ_of_lt (Nat.lt_succ_of_lt (pl_dr hN g9))) ((up_lt (Nat.lt_succ_of_lt (pl_dr hN g9))).trans ((up_lt (pl_dr hN g9)).trans rfl)) (mg_dr g9) (okd_mo (hdr _ g9)) H.size) mw_X4_number md_X4_number rfl lk_X4_198 ⟨Nat.le_of_ble_eq_true rfl, Nat.le_of_ble_eq_true rfl⟩ hA hK hT B hl.1 rfl (Nat.le_of_ble_eq_true rfl) dX4_leadsBack_51 ⟨Nat.le_of_ble_eq_true rfl, Nat.le_of_ble_eq_true rfl⟩) (Nat.le_of_ble_eq_true rfl) (Nat.le_of_ble_eq_true rfl) (fun r10 ad10 f' H locs hw B => ?_)
      obtain ⟨rfl, rfl, rfl⟩ := hw
      refine lv_icmp_ne (tgt := 61) hx hb dX4_leadsBack_54 (by decide) (fun c11 => ?_) (fun c11 => ?_)
      · refine lv_iconst (v := 0) hx hb dX4_leadsBack_61 (by decide) ?_
        have B : WB g (aw N ad sz) s.heap N ad (mg g ad y cr dr th kn rf pl pz mc) H locs := WM_drop B (by omega) (by omega) (fun _ hk => ((up_lt (Nat.lt_succ_of_lt hk)).trans (up_lt hk))) (fun _ hk => ((up_lt (Nat.lt_succ_of_lt hk)).trans (up_lt hk)))
        have ev := (show v_X4_leadsBack dr a1 a2 = 0 from by unfold v_X4_leadsBack; rw [om_some o4, om_some o7, if_neg c11])
        exact rt_i X hr (ad, mg g ad y cr dr th kn rf pl pz mc) B (PO_of B) ⟨rfl, by rw [ev], rfl⟩ rfl (Nat.le_of_ble_eq_true rfl) (Nat.le_of_ble_eq_true rfl) dX4_leadsBack_62
      · refine lv_iconst (v := 1) hx hb dX4_leadsBack_57 (by decide) ?_
        refine lv_goto (tgt := 62) hx hb dX4_leadsBack_58 (by decide) ?_
        have B : WB g (aw N ad sz) s.heap N ad (mg g ad y cr dr th kn rf pl pz mc) H locs := WM_drop B (by omega) (by omega) (fun _ hk => ((up_lt (Nat.lt_succ_of_lt hk)).trans (up_lt hk))) (fun _ hk => ((up_lt (Nat.lt_succ_of_lt hk)).trans (up_lt hk)))
        have ev := (show v_X4_leadsBack dr a1 a2 = 1 from by unfold v_X4_leadsBack; rw [om_some o4, om_some o7, if_pos c11])
        exact rt_i X hr (ad, mg g ad y cr dr th kn rf pl pz mc) B (PO_of B) ⟨rfl, by rw [ev], rfl⟩ rfl (Nat.le_of_ble_eq_true rfl) (Nat.le_of_ble_eq_true rfl) dX4_leadsBack_62
def v_X4_isToldBack (dr : Nat → TR) (a1 : Int32) (a2 : Int32) : Int32 × Int32 := if (v_X4_isNone a1) = 0 then (if (v_X4_isNone a2) = 0 then (if (v_X4_leadsBack dr a1 a2) = 0 then (0, 0) else (1, 0)) else (0, 1)) else (0, 1)
theorem b01_X4_isToldBack {dr : Nat → TR} {a1 : Int32} {a2 : Int32} : (v_X4_isToldBack dr a1 a2).1 = 0 ∨ (v_X4_isToldBack dr a1 a2).1 = 1 := by
  unfold v_X4_isToldBack
  by_cases q1 : (v_X4_isNone a1) = 0
  · rw [if_pos q1]
    by_cases q2 : (v_X4_isNone a2) = 0
    · rw [if_pos q2]
      by_cases q3 : (v_X4_leadsBack dr a1 a2) = 0
      · rw [if_pos q3]
        exact Or.inl rfl
      · rw [if_neg q3]
        exact Or.inr rfl
    · rw [if_neg q2]
      exact Or.inl rfl
  · rw [if_neg q1]
    exact Or.inl rfl
set_option maxHeartbeats 4000000 in
set_option maxRecDepth 100000 in
theorem c_X4_isToldBack (l : Launch) (g : GG) (N : Nat) (ad : Nat → Nat) (y : Nat → va_E) (cr dr : Nat → TR) (th kn rf : Int32) (pl : Nat → TR) (pz : Nat) (mc : Int32) (hN : 36 + pz ≤ N) (b0 : Nat) (hb0 : ad 24 = b0) (a1 : Int32) (a2 : Int32) (hdr : ∀ i, i < 4 → okd (dr i)) : KI l yX4_isToldBack cX4_isToldBack 3 (some .boolean) (rm 5 4 12) g [.ref b0, .int a1, .int a2] N ad (mg g ad y cr dr th kn rf pl pz mc) N (fun r ad' f' => ad = ad' ∧ (v_X4_isToldBack dr a1 a2).1 = r ∧ mg g ad y cr dr (v_X4_isToldBack dr a1 a2).2 kn rf pl pz mc = f') := by
  intro sz
  refine mt_start (by decide) (Nat.le_of_ble_eq_true rfl) ?_
  intro p e s m args below meth c hsz X hr hnam hA hK hT H locs B ls hl
  obtain ⟨hx, hb, hml, hown, hts, hlocks⟩ := id X
  have hl : lv_has ls 3 [(0, .ref b0), (1, .int a1), (2, .int a2)] := hl
  refine lv_aload_n hx hb dX4_isToldBack_0 rfl (lv_at hl 0 rfl) ?_
  refine lv_iload_n hx hb dX4_isToldBack_1 rfl (lv_at hl 1 rfl) ?_
  refine k_i (k := 0) (n := 0) hA B (u_S (rest := [.ref b0]) X (c_X4_isNone l g N ad (mg g ad y cr dr th kn rf pl pz mc) a1 H.size) mw_X4_isNone md_X4_isNone rfl lk_X4_95 ⟨Nat.le_of_ble_eq_true rfl, Nat.le_of_ble_eq_true rfl⟩ hA hK hT B hl.1 rfl (Nat.le_of_ble_eq_true rfl) dX4_isToldBack_2 ⟨Nat.le_of_ble_eq_true rfl, Nat.le_of_ble_eq_true rfl⟩) (Nat.le_of_ble_eq_true rfl) (Nat.le_of_ble_eq_true rfl) (fun r1 ad1 f' H locs hw B => ?_)
  obtain ⟨rfl, rfl, rfl⟩ := hw
  refine lv_if_ne (tgt := 15) hx hb dX4_isToldBack_5 (by decide) (fun c2 => ?_) (fun c2 => ?_)
  · refine lv_iconst (v := 1) hx hb dX4_isToldBack_15 (by decide) ?_
    refine lv_goto (tgt := 20) hx hb dX4_isToldBack_16 (by decide) ?_
    refine lv_iconst (v := 0) hx hb dX4_isToldBack_20 (by decide) ?_
    refine k_i (k := 0) (n := 0) hA B (b_V (q := 24) (rest := []) hb0 X (c_X4_stops l g N ad y cr dr th kn rf pl pz mc (by omega) b0 hb0 1 0 H.size) mw_X4_stops md_X4_stops rfl lk_X4_99 ⟨Nat.le_of_ble_eq_true rfl, Nat.le_of_ble_eq_true rfl⟩ hA hK hT B (by omega) mg_24 rfl rfl hl.1 rfl (Nat.le_of_ble_eq_true rfl) dX4_isToldBack_21 ⟨Nat.le_of_ble_eq_true rfl, Nat.le_of_ble_eq_true rfl⟩) (Nat.le_of_ble_eq_true rfl) (Nat.le_of_ble_eq_true rfl) (fun r ad' f' H locs hw B => ?_)
    rw [st_10] at hw
    dsimp only at hw
    obtain ⟨rfl, rfl, rfl⟩ := hw
    have B : WB g (aw N ad sz) s.heap N ad (mg g ad y cr dr 1 kn rf pl pz mc) H locs := B
    refine lv_if_ne (tgt := 40) hx hb dX4_isToldBack_24 (by decide) (fun _ => ?_) (fun z => absurd z (by decide))
    refine lv_iconst (v := 0) hx hb dX4_isToldBack_40 (by decide) ?_
    have ev := (show v_X4_isToldBack dr a1 a2 = (0, 1) from by unfold v_X4_isToldBack; rw [if_neg c2])
    exact rt_i X hr (ad, mg g ad y cr dr 1 kn rf pl pz mc) B (PO_of B) ⟨rfl, by rw [ev], by rw [ev]⟩ rfl (Nat.le_of_ble_eq_true rfl) (Nat.le_of_ble_eq_true rfl) dX4_isToldBack_41
  · refine lv_iload_n hx hb dX4_isToldBack_8 rfl (lv_at hl 2 rfl) ?_
    refine k_i (k := 0) (n := 0) hA B (u_S (rest := [.ref b0]) X (c_X4_isNone l g N ad (mg g ad y cr dr th kn rf pl pz mc) a2 H.size) mw_X4_isNone md_X4_isNone rfl lk_X4_95 ⟨Nat.le_of_ble_eq_true rfl, Nat.le_of_ble_eq_true rfl⟩ hA hK hT B hl.1 rfl (Nat.le_of_ble_eq_true rfl) dX4_isToldBack_9 ⟨Nat.le_of_ble_eq_true rfl, Nat.le_of_ble_eq_true rfl⟩) (Nat.le_of_ble_eq_true rfl) (Nat.le_of_ble_eq_true rfl) (fun r3 ad3 f' H locs hw B => ?_)
    obtain ⟨rfl, rfl, rfl⟩ := hw
    refine lv_if_eq (tgt := 19) hx hb dX4_isToldBack_12 (by decide) (fun c4 => ?_) (fun c4 => ?_)
    · refine lv_iconst (v := 0) hx hb dX4_isToldBack_19 (by decide) ?_
      refine lv_iconst (v := 0) hx hb dX4_isToldBack_20 (by decide) ?_
      refine k_i (k := 0) (n := 0) hA B (b_V (q := 24) (rest := []) hb0 X (c_X4_stops l g N ad y cr dr th kn rf pl pz mc (by omega) b0 hb0 0 0 H.size) mw_X4_stops md_X4_stops rfl lk_X4_99 ⟨Nat.le_of_ble_eq_true rfl, Nat.le_of_ble_eq_true rfl⟩ hA hK hT B (by omega) mg_24 rfl rfl hl.1 rfl (Nat.le_of_ble_eq_true rfl) dX4_isToldBack_21 ⟨Nat.le_of_ble_eq_true rfl, Nat.le_of_ble_eq_true rfl⟩) (Nat.le_of_ble_eq_true rfl) (Nat.le_of_ble_eq_true rfl) (fun r ad' f' H locs hw B => ?_)
      rw [st_00] at hw
      dsimp only at hw
      obtain ⟨rfl, rfl, rfl⟩ := hw
      have B : WB g (aw N ad sz) s.heap N ad (mg g ad y cr dr 0 kn rf pl pz mc) H locs := B
      refine lv_if_ne (tgt := 40) hx hb dX4_isToldBack_24 (by decide) (fun z => absurd z (by decide)) (fun _ => ?_)
      refine lv_aload_n hx hb dX4_isToldBack_27 rfl (lv_at hl 0 rfl) ?_
      refine lv_iload_n hx hb dX4_isToldBack_28 rfl (lv_at hl 1 rfl) ?_
      refine lv_iload_n hx hb dX4_isToldBack_29 rfl (lv_at hl 2 rfl) ?_
      refine k_i (k := 4) (n := 12) hA B (b_V (q := 24) (rest := []) hb0 X (c_X4_leadsBack l g N ad y cr dr 0 kn rf pl pz mc (by omega) b0 hb0 a1 a2 c2 c4 hdr H.size) mw_X4_leadsBack md_X4_leadsBack rfl lk_X4_239 ⟨Nat.le_of_ble_eq_true rfl, Nat.le_of_ble_eq_true rfl⟩ hA hK hT B (by omega) mg_24 rfl rfl hl.1 rfl (Nat.le_of_ble_eq_true rfl) dX4_isToldBack_30 ⟨Nat.le_of_ble_eq_true rfl, Nat.le_of_ble_eq_true rfl⟩) (Nat.le_of_ble_eq_true rfl) (Nat.le_of_ble_eq_true rfl) (fun r5 ad5 f' H locs hw B => ?_)
      obtain ⟨rfl, rfl, rfl⟩ := hw
      refine lv_if_eq (tgt := 40) hx hb dX4_isToldBack_33 (by decide) (fun c6 => ?_) (fun c6 => ?_)
      · refine lv_iconst (v := 0) hx hb dX4_isToldBack_40 (by decide) ?_
        have ev := (show v_X4_isToldBack dr a1 a2 = (0, 0) from by unfold v_X4_isToldBack; rw [if_pos c2, if_pos c4, if_pos c6])
        exact rt_i X hr (ad, mg g ad y cr dr 0 kn rf pl pz mc) B (PO_of B) ⟨rfl, by rw [ev], by rw [ev]⟩ rfl (Nat.le_of_ble_eq_true rfl) (Nat.le_of_ble_eq_true rfl) dX4_isToldBack_41
      · refine lv_iconst (v := 1) hx hb dX4_isToldBack_36 (by decide) ?_
        refine lv_goto (tgt := 41) hx hb dX4_isToldBack_37 (by decide) ?_
        have ev := (show v_X4_isToldBack dr a1 a2 = (1, 0) from by unfold v_X4_isToldBack; rw [if_pos c2, if_pos c4, if_neg c6])
        exact rt_i X hr (ad, mg g ad y cr dr 0 kn rf pl pz mc) B (PO_of B) ⟨rfl, by rw [ev], by rw [ev]⟩ rfl (Nat.le_of_ble_eq_true rfl) (Nat.le_of_ble_eq_true rfl) dX4_isToldBack_41
    · refine lv_iconst (v := 1) hx hb dX4_isToldBack_15 (by decide) ?_
      refine lv_goto (tgt := 20) hx hb dX4_isToldBack_16 (by decide) ?_
      refine lv_iconst (v := 0) hx hb dX4_isToldBack_20 (by decide) ?_
      refine k_i (k := 0) (n := 0) hA B (b_V (q := 24) (rest := []) hb0 X (c_X4_stops l g N ad y cr dr th kn rf pl pz mc (by omega) b0 hb0 1 0 H.size) mw_X4_stops md_X4_stops rfl lk_X4_99 ⟨Nat.le_of_ble_eq_true rfl, Nat.le_of_ble_eq_true rfl⟩ hA hK hT B (by omega) mg_24 rfl rfl hl.1 rfl (Nat.le_of_ble_eq_true rfl) dX4_isToldBack_21 ⟨Nat.le_of_ble_eq_true rfl, Nat.le_of_ble_eq_true rfl⟩) (Nat.le_of_ble_eq_true rfl) (Nat.le_of_ble_eq_true rfl) (fun r ad' f' H locs hw B => ?_)
      rw [st_10] at hw
      dsimp only at hw
      obtain ⟨rfl, rfl, rfl⟩ := hw
      have B : WB g (aw N ad sz) s.heap N ad (mg g ad y cr dr 1 kn rf pl pz mc) H locs := B
      refine lv_if_ne (tgt := 40) hx hb dX4_isToldBack_24 (by decide) (fun _ => ?_) (fun z => absurd z (by decide))
      refine lv_iconst (v := 0) hx hb dX4_isToldBack_40 (by decide) ?_
      have ev := (show v_X4_isToldBack dr a1 a2 = (0, 1) from by unfold v_X4_isToldBack; rw [if_pos c2, if_neg c4])
      exact rt_i X hr (ad, mg g ad y cr dr 1 kn rf pl pz mc) B (PO_of B) ⟨rfl, by rw [ev], by rw [ev]⟩ rfl (Nat.le_of_ble_eq_true rfl) (Nat.le_of_ble_eq_true rfl) dX4_isToldBack_41
def v_X4_orderNow (dr : Nat → TR) (a1 : Int32) (a2 : Int32) : Int32 := if 0 ≤ ((v_X4_number (dr a1.toNatClampNeg)) - (v_X4_number (dr a2.toNatClampNeg))) then (if ((v_X4_number (dr a1.toNatClampNeg)) - (v_X4_number (dr a2.toNatClampNeg))) ≤ 0 then (v_X4_one 0) else (v_X4_one 1)) else (-1)
set_option maxHeartbeats 4000000 in
set_option maxRecDepth 100000 in
theorem c_X4_orderNow (l : Launch) (g : GG) (N : Nat) (ad : Nat → Nat) (y : Nat → va_E) (cr dr : Nat → TR) (th kn rf : Int32) (pl : Nat → TR) (pz : Nat) (mc : Int32) (hN : 36 + pz ≤ N) (b0 : Nat) (hb0 : ad 24 = b0) (a1 : Int32) (a2 : Int32) (hza1 : v_X4_isNone a1 = 0) (hza2 : v_X4_isNone a2 = 0) (hdr : ∀ i, i < 4 → okd (dr i)) : KI l yX4_orderNow cX4_orderNow 4 (some .int) (rm 3 0 0) g [.ref b0, .int a1, .int a2] N ad (mg g ad y cr dr th kn rf pl pz mc) N (fun r ad' f' => ad = ad' ∧ (v_X4_orderNow dr a1 a2) = r ∧ mg g ad y cr dr th kn rf pl pz mc = f') := by
  intro sz
  refine mt_start (by decide) (Nat.le_of_ble_eq_true rfl) ?_
  intro p e s m args below meth c hsz X hr hnam hA hK hT H locs B ls hl
  obtain ⟨hx, hb, hml, hown, hts, hlocks⟩ := id X
  have hl : lv_has ls 4 [(0, .ref b0), (1, .int a1), (2, .int a2)] := hl
  refine lv_aload_n hx hb dX4_orderNow_0 rfl (lv_at hl 0 rfl) ?_
  refine b_get (q := 24) (k := 3) hb0 X hK B rfl in_X4 (by omega) mg_24 (by decide) lk_X4_23 rfl rfl dX4_orderNow_1 ?_
  refine lv_iload_n hx hb dX4_orderNow_4 rfl (lv_at hl 1 rfl) ?_
  refine b_aald (q := 26) (t0 := 2) (v := ad (32 + a1.toNatClampNeg)) rfl X hK B (by omega) mg_26 rfl rfl (no_in hza1) rfl dX4_orderNow_5 ?_
  have g1 : a1.toNatClampNeg < 4 := (no_lt hza1)
  refine k_i (k := 0) (n := 0) hA B (u_S (rest := []) X (c_X4_number l g N ad (mg g ad y cr dr th kn rf pl pz mc) (32 + a1.toNatClampNeg) (ad (32 + a1.toNatClampNeg)) (dr a1.toNatClampNeg) (pl_dr hN g1) rfl (mg_dr g1) (okd_mo (hdr _ g1)) H.size) mw_X4_number md_X4_number rfl lk_X4_198 ⟨Nat.le_of_ble_eq_true rfl, Nat.le_of_ble_eq_true rfl⟩ hA hK hT B hl.1 rfl (Nat.le_of_ble_eq_true rfl) dX4_orderNow_6 ⟨Nat.le_of_ble_eq_true rfl, Nat.le_of_ble_eq_true rfl⟩) (Nat.le_of_ble_eq_true rfl) (Nat.le_of_ble_eq_true rfl) (fun r2 ad2 f' H locs hw B => ?_)
  obtain ⟨rfl, rfl, rfl⟩ := hw
  refine lv_aload_n hx hb dX4_orderNow_9 rfl (lv_at hl 0 rfl) ?_
  refine b_get (q := 24) (k := 3) hb0 X hK B rfl in_X4 (by omega) mg_24 (by decide) lk_X4_23 rfl rfl dX4_orderNow_10 ?_
  refine lv_iload_n hx hb dX4_orderNow_13 rfl (lv_at hl 2 rfl) ?_
  refine b_aald (q := 26) (t0 := 2) (v := ad (32 + a2.toNatClampNeg)) rfl X hK B (by omega) mg_26 rfl rfl (no_in hza2) rfl dX4_orderNow_14 ?_
  have g3 : a2.toNatClampNeg < 4 := (no_lt hza2)
  refine k_i (k := 0) (n := 0) hA B (u_S (rest := [.int (v_X4_number (dr a1.toNatClampNeg))]) X (c_X4_number l g N ad (mg g ad y cr dr th kn rf pl pz mc) (32 + a2.toNatClampNeg) (ad (32 + a2.toNatClampNeg)) (dr a2.toNatClampNeg) (pl_dr hN g3) rfl (mg_dr g3) (okd_mo (hdr _ g3)) H.size) mw_X4_number md_X4_number rfl lk_X4_198 ⟨Nat.le_of_ble_eq_true rfl, Nat.le_of_ble_eq_true rfl⟩ hA hK hT B hl.1 rfl (Nat.le_of_ble_eq_true rfl) dX4_orderNow_15 ⟨Nat.le_of_ble_eq_true rfl, Nat.le_of_ble_eq_true rfl⟩) (Nat.le_of_ble_eq_true rfl) (Nat.le_of_ble_eq_true rfl) (fun r4 ad4 f' H locs hw B => ?_)
  obtain ⟨rfl, rfl, rfl⟩ := hw
  refine lv_isub hx hb dX4_orderNow_18 ?_
  refine lv_istore_n (lv' := [(3, .int ((v_X4_number (dr a1.toNatClampNeg)) - (v_X4_number (dr a2.toNatClampNeg)))), (0, .ref b0), (1, .int a1), (2, .int a2)]) hx hb dX4_orderNow_19 rfl hl (by decide) rfl (fun ls hl => ?_)
  refine lv_iload_n hx hb dX4_orderNow_20 rfl (lv_at hl 0 rfl) ?_
  refine lv_if_ge (tgt := 28) hx hb dX4_orderNow_21 (by decide) (fun c5 => ?_) (fun c5 => ?_)
  · refine lv_iload_n hx hb dX4_orderNow_28 rfl (lv_at hl 0 rfl) ?_
    refine lv_if_le (tgt := 36) hx hb dX4_orderNow_29 (by decide) (fun c6 => ?_) (fun c6 => ?_)
    · refine lv_iconst (v := 0) hx hb dX4_orderNow_36 (by decide) ?_
      refine k_i (k := 0) (n := 0) hA B (u_S (rest := []) X (c_X4_one l g N ad (mg g ad y cr dr th kn rf pl pz mc) 0 H.size) mw_X4_one md_X4_one rfl lk_X4_91 ⟨Nat.le_of_ble_eq_true rfl, Nat.le_of_ble_eq_true rfl⟩ hA hK hT B hl.1 rfl (Nat.le_of_ble_eq_true rfl) dX4_orderNow_37 ⟨Nat.le_of_ble_eq_true rfl, Nat.le_of_ble_eq_true rfl⟩) (Nat.le_of_ble_eq_true rfl) (Nat.le_of_ble_eq_true rfl) (fun r7 ad7 f' H locs hw B => ?_)
      obtain ⟨rfl, rfl, rfl⟩ := hw
      have ev := (show v_X4_orderNow dr a1 a2 = (v_X4_one 0) from by unfold v_X4_orderNow; rw [if_pos c5, if_pos c6])
      exact rt_i X hr (ad, mg g ad y cr dr th kn rf pl pz mc) B (PO_of B) ⟨rfl, by rw [ev], rfl⟩ rfl (Nat.le_of_ble_eq_true rfl) (Nat.le_of_ble_eq_true rfl) dX4_orderNow_40
    · refine lv_iconst (v := 1) hx hb dX4_orderNow_32 (by decide) ?_
      refine lv_goto (tgt := 37) hx hb dX4_orderNow_33 (by decide) ?_
      refine k_i (k := 0) (n := 0) hA B (u_S (rest := []) X (c_X4_one l g N ad (mg g ad y cr dr th kn rf pl pz mc) 1 H.size) mw_X4_one md_X4_one rfl lk_X4_91 ⟨Nat.le_of_ble_eq_true rfl, Nat.le_of_ble_eq_true rfl⟩ hA hK hT B hl.1 rfl (Nat.le_of_ble_eq_true rfl) dX4_orderNow_37 ⟨Nat.le_of_ble_eq_true rfl, Nat.le_of_ble_eq_true rfl⟩) (Nat.le_of_ble_eq_true rfl) (Nat.le_of_ble_eq_true rfl) (fun r8 ad8 f' H locs hw B => ?_)
      obtain ⟨rfl, rfl, rfl⟩ := hw
      have ev := (show v_X4_orderNow dr a1 a2 = (v_X4_one 1) from by unfold v_X4_orderNow; rw [if_pos c5, if_neg c6])
      exact rt_i X hr (ad, mg g ad y cr dr th kn rf pl pz mc) B (PO_of B) ⟨rfl, by rw [ev], rfl⟩ rfl (Nat.le_of_ble_eq_true rfl) (Nat.le_of_ble_eq_true rfl) dX4_orderNow_40
  · refine lv_iconst (v := (-1)) hx hb dX4_orderNow_24 (by decide) ?_
    refine lv_goto (tgt := 40) hx hb dX4_orderNow_25 (by decide) ?_
    have ev := (show v_X4_orderNow dr a1 a2 = (-1) from by unfold v_X4_orderNow; rw [if_neg c5])
    exact rt_i X hr (ad, mg g ad y cr dr th kn rf pl pz mc) B (PO_of B) ⟨rfl, by rw [ev], rfl⟩ rfl (Nat.le_of_ble_eq_true rfl) (Nat.le_of_ble_eq_true rfl) dX4_orderNow_40
def v_X4_order (dr : Nat → TR) (a1 : Int32) (a2 : Int32) : Int32 × Int32 := if (v_X4_isNone a1) = 0 then (if (v_X4_isNone a2) = 0 then ((v_X4_orderNow dr a1 a2), 0) else (0, 1)) else (0, 1)
set_option maxHeartbeats 4000000 in
set_option maxRecDepth 100000 in
theorem c_X4_order (l : Launch) (g : GG) (N : Nat) (ad : Nat → Nat) (y : Nat → va_E) (cr dr : Nat → TR) (th kn rf : Int32) (pl : Nat → TR) (pz : Nat) (mc : Int32) (hN : 36 + pz ≤ N) (b0 : Nat) (hb0 : ad 24 = b0) (a1 : Int32) (a2 : Int32) (hdr : ∀ i, i < 4 → okd (dr i)) : KI l yX4_order cX4_order 3 (some .int) (rm 4 0 0) g [.ref b0, .int a1, .int a2] N ad (mg g ad y cr dr th kn rf pl pz mc) N (fun r ad' f' => ad = ad' ∧ (v_X4_order dr a1 a2).1 = r ∧ mg g ad y cr dr (v_X4_order dr a1 a2).2 kn rf pl pz mc = f') := by
  intro sz
  refine mt_start (by decide) (Nat.le_of_ble_eq_true rfl) ?_
  intro p e s m args below meth c hsz X hr hnam hA hK hT H locs B ls hl
  obtain ⟨hx, hb, hml, hown, hts, hlocks⟩ := id X
  have hl : lv_has ls 3 [(0, .ref b0), (1, .int a1), (2, .int a2)] := hl
  refine lv_aload_n hx hb dX4_order_0 rfl (lv_at hl 0 rfl) ?_
  refine lv_iload_n hx hb dX4_order_1 rfl (lv_at hl 1 rfl) ?_
  refine k_i (k := 0) (n := 0) hA B (u_S (rest := [.ref b0]) X (c_X4_isNone l g N ad (mg g ad y cr dr th kn rf pl pz mc) a1 H.size) mw_X4_isNone md_X4_isNone rfl lk_X4_95 ⟨Nat.le_of_ble_eq_true rfl, Nat.le_of_ble_eq_true rfl⟩ hA hK hT B hl.1 rfl (Nat.le_of_ble_eq_true rfl) dX4_order_2 ⟨Nat.le_of_ble_eq_true rfl, Nat.le_of_ble_eq_true rfl⟩) (Nat.le_of_ble_eq_true rfl) (Nat.le_of_ble_eq_true rfl) (fun r1 ad1 f' H locs hw B => ?_)
  obtain ⟨rfl, rfl, rfl⟩ := hw
  refine lv_if_ne (tgt := 15) hx hb dX4_order_5 (by decide) (fun c2 => ?_) (fun c2 => ?_)
  · refine lv_iconst (v := 1) hx hb dX4_order_15 (by decide) ?_
    refine lv_goto (tgt := 20) hx hb dX4_order_16 (by decide) ?_
    refine lv_iconst (v := 0) hx hb dX4_order_20 (by decide) ?_
    refine k_i (k := 0) (n := 0) hA B (b_V (q := 24) (rest := []) hb0 X (c_X4_stops l g N ad y cr dr th kn rf pl pz mc (by omega) b0 hb0 1 0 H.size) mw_X4_stops md_X4_stops rfl lk_X4_99 ⟨Nat.le_of_ble_eq_true rfl, Nat.le_of_ble_eq_true rfl⟩ hA hK hT B (by omega) mg_24 rfl rfl hl.1 rfl (Nat.le_of_ble_eq_true rfl) dX4_order_21 ⟨Nat.le_of_ble_eq_true rfl, Nat.le_of_ble_eq_true rfl⟩) (Nat.le_of_ble_eq_true rfl) (Nat.le_of_ble_eq_true rfl) (fun r ad' f' H locs hw B => ?_)
    rw [st_10] at hw
    dsimp only at hw
    obtain ⟨rfl, rfl, rfl⟩ := hw
    have B : WB g (aw N ad sz) s.heap N ad (mg g ad y cr dr 1 kn rf pl pz mc) H locs := B
    refine lv_if_eq (tgt := 31) hx hb dX4_order_24 (by decide) (fun z => absurd z (by decide)) (fun _ => ?_)
    refine lv_iconst (v := 0) hx hb dX4_order_27 (by decide) ?_
    refine lv_goto (tgt := 37) hx hb dX4_order_28 (by decide) ?_
    have ev := (show v_X4_order dr a1 a2 = (0, 1) from by unfold v_X4_order; rw [if_neg c2])
    exact rt_i X hr (ad, mg g ad y cr dr 1 kn rf pl pz mc) B (PO_of B) ⟨rfl, by rw [ev], by rw [ev]⟩ rfl (Nat.le_of_ble_eq_true rfl) (Nat.le_of_ble_eq_true rfl) dX4_order_37
  · refine lv_iload_n hx hb dX4_order_8 rfl (lv_at hl 2 rfl) ?_
    refine k_i (k := 0) (n := 0) hA B (u_S (rest := [.ref b0]) X (c_X4_isNone l g N ad (mg g ad y cr dr th kn rf pl pz mc) a2 H.size) mw_X4_isNone md_X4_isNone rfl lk_X4_95 ⟨Nat.le_of_ble_eq_true rfl, Nat.le_of_ble_eq_true rfl⟩ hA hK hT B hl.1 rfl (Nat.le_of_ble_eq_true rfl) dX4_order_9 ⟨Nat.le_of_ble_eq_true rfl, Nat.le_of_ble_eq_true rfl⟩) (Nat.le_of_ble_eq_true rfl) (Nat.le_of_ble_eq_true rfl) (fun r3 ad3 f' H locs hw B => ?_)
    obtain ⟨rfl, rfl, rfl⟩ := hw
    refine lv_if_eq (tgt := 19) hx hb dX4_order_12 (by decide) (fun c4 => ?_) (fun c4 => ?_)
    · refine lv_iconst (v := 0) hx hb dX4_order_19 (by decide) ?_
      refine lv_iconst (v := 0) hx hb dX4_order_20 (by decide) ?_
      refine k_i (k := 0) (n := 0) hA B (b_V (q := 24) (rest := []) hb0 X (c_X4_stops l g N ad y cr dr th kn rf pl pz mc (by omega) b0 hb0 0 0 H.size) mw_X4_stops md_X4_stops rfl lk_X4_99 ⟨Nat.le_of_ble_eq_true rfl, Nat.le_of_ble_eq_true rfl⟩ hA hK hT B (by omega) mg_24 rfl rfl hl.1 rfl (Nat.le_of_ble_eq_true rfl) dX4_order_21 ⟨Nat.le_of_ble_eq_true rfl, Nat.le_of_ble_eq_true rfl⟩) (Nat.le_of_ble_eq_true rfl) (Nat.le_of_ble_eq_true rfl) (fun r ad' f' H locs hw B => ?_)
      rw [st_00] at hw
      dsimp only at hw
      obtain ⟨rfl, rfl, rfl⟩ := hw
      have B : WB g (aw N ad sz) s.heap N ad (mg g ad y cr dr 0 kn rf pl pz mc) H locs := B
      refine lv_if_eq (tgt := 31) hx hb dX4_order_24 (by decide) (fun _ => ?_) (fun z => absurd z (by decide))
      refine lv_aload_n hx hb dX4_order_31 rfl (lv_at hl 0 rfl) ?_
      refine lv_iload_n hx hb dX4_order_32 rfl (lv_at hl 1 rfl) ?_
      refine lv_iload_n hx hb dX4_order_33 rfl (lv_at hl 2 rfl) ?_
      refine k_i (k := 0) (n := 0) hA B (b_V (q := 24) (rest := []) hb0 X (c_X4_orderNow l g N ad y cr dr 0 kn rf pl pz mc (by omega) b0 hb0 a1 a2 c2 c4 hdr H.size) mw_X4_orderNow md_X4_orderNow rfl lk_X4_243 ⟨Nat.le_of_ble_eq_true rfl, Nat.le_of_ble_eq_true rfl⟩ hA hK hT B (by omega) mg_24 rfl rfl hl.1 rfl (Nat.le_of_ble_eq_true rfl) dX4_order_34 ⟨Nat.le_of_ble_eq_true rfl, Nat.le_of_ble_eq_true rfl⟩) (Nat.le_of_ble_eq_true rfl) (Nat.le_of_ble_eq_true rfl) (fun r5 ad5 f' H locs hw B => ?_)
      obtain ⟨rfl, rfl, rfl⟩ := hw
      have ev := (show v_X4_order dr a1 a2 = ((v_X4_orderNow dr a1 a2), 0) from by unfold v_X4_order; rw [if_pos c2, if_pos c4])
      exact rt_i X hr (ad, mg g ad y cr dr 0 kn rf pl pz mc) B (PO_of B) ⟨rfl, by rw [ev], by rw [ev]⟩ rfl (Nat.le_of_ble_eq_true rfl) (Nat.le_of_ble_eq_true rfl) dX4_order_37
    · refine lv_iconst (v := 1) hx hb dX4_order_15 (by decide) ?_
      refine lv_goto (tgt := 20) hx hb dX4_order_16 (by decide) ?_
      refine lv_iconst (v := 0) hx hb dX4_order_20 (by decide) ?_
      refine k_i (k := 0) (n := 0) hA B (b_V (q := 24) (rest := []) hb0 X (c_X4_stops l g N ad y cr dr th kn rf pl pz mc (by omega) b0 hb0 1 0 H.size) mw_X4_stops md_X4_stops rfl lk_X4_99 ⟨Nat.le_of_ble_eq_true rfl, Nat.le_of_ble_eq_true rfl⟩ hA hK hT B (by omega) mg_24 rfl rfl hl.1 rfl (Nat.le_of_ble_eq_true rfl) dX4_order_21 ⟨Nat.le_of_ble_eq_true rfl, Nat.le_of_ble_eq_true rfl⟩) (Nat.le_of_ble_eq_true rfl) (Nat.le_of_ble_eq_true rfl) (fun r ad' f' H locs hw B => ?_)
      rw [st_10] at hw
      dsimp only at hw
      obtain ⟨rfl, rfl, rfl⟩ := hw
      have B : WB g (aw N ad sz) s.heap N ad (mg g ad y cr dr 1 kn rf pl pz mc) H locs := B
      refine lv_if_eq (tgt := 31) hx hb dX4_order_24 (by decide) (fun z => absurd z (by decide)) (fun _ => ?_)
      refine lv_iconst (v := 0) hx hb dX4_order_27 (by decide) ?_
      refine lv_goto (tgt := 37) hx hb dX4_order_28 (by decide) ?_
      have ev := (show v_X4_order dr a1 a2 = (0, 1) from by unfold v_X4_order; rw [if_pos c2, if_neg c4])
      exact rt_i X hr (ad, mg g ad y cr dr 1 kn rf pl pz mc) B (PO_of B) ⟨rfl, by rw [ev], by rw [ev]⟩ rfl (Nat.le_of_ble_eq_true rfl) (Nat.le_of_ble_eq_true rfl) dX4_order_37
