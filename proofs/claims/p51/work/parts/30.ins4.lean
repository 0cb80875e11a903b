section
def v_X4_become (dr : Nat → TR) (a1 : Int32) (tj2 : TR) : Int32 × (Nat → TR) := if (v_X4_number (dr a1.toNatClampNeg)) = (v_X4_number tj2) then ((v_X4_one 0), va_up dr a1.toNatClampNeg (tj2.1, tj2.2.1, tj2.2.2)) else ((v_X4_one 1), va_up dr a1.toNatClampNeg (tj2.1, tj2.2.1, tj2.2.2))
set_option maxHeartbeats 4000000 in
set_option maxRecDepth 100000 in
theorem c_X4_become (l : Launch) (g : GG) (N : Nat) (ad : Nat → Nat) (y : Nat → va_E) (cr dr : Nat → TR) (th kn rf : Int32) (pl : Nat → TR) (pz : Nat) (mc : Int32) (hN : 36 + pz ≤ N) (b0 : Nat) (hb0 : ad 24 = b0) (a1 : Int32) (j2 bj2 : Nat) (tj2 : TR) (hj2 : j2 < N) (hbj2 : ad j2 = bj2) (hfj2 : mg g ad y cr dr th kn rf pl pz mc j2 = c_row g tj2) (hza1 : v_X4_isNone a1 = 0) (hdr : ∀ i, i < 4 → okd (dr i)) (hit : ¬ 12 < tj2.2.1) : KI l yX4_become cX4_become 4 (some .int) (rm 3 1 3) g [.ref b0, .int a1, .ref bj2] N ad (mg g ad y cr dr th kn rf pl pz mc) N (fun r ad' f' => (∀ k, k < N → k < 28 ∨ 36 ≤ k → ad' k = ad k) ∧ (v_X4_become dr a1 tj2).1 = r ∧ mg g ad' y cr (v_X4_become dr a1 tj2).2 th kn rf pl pz mc = f') := by
  intro sz
  refine mt_start (by decide) (Nat.le_of_ble_eq_true rfl) ?_
  intro p e s m args below meth c hsz X hr hnam hA hK hT H locs B ls hl
  obtain ⟨hx, hb, hml, hown, hts, hlocks⟩ := id X
  have hl : lv_has ls 4 [(0, .ref b0), (1, .int a1), (2, .ref bj2)] := hl
  refine lv_aload_n hx hb dX4_become_0 rfl (lv_at hl 2 rfl) ?_
  refine lv_ifnonnull (tgt := 9) hx hb dX4_become_1 (by decide) ?_
  refine lv_aload_n hx hb dX4_become_9 rfl (lv_at hl 0 rfl) ?_
  refine b_get (q := 24) (k := 3) hb0 X hK B rfl in_X4 (by omega) mg_24 (by decide) lk_X4_23 rfl rfl dX4_become_10 ?_
  refine lv_iload_n hx hb dX4_become_13 rfl (lv_at hl 1 rfl) ?_
  refine b_aald (q := 26) (t0 := 2) (v := ad (32 + a1.toNatClampNeg)) rfl X hK B (by omega) mg_26 rfl rfl (no_in hza1) rfl dX4_become_14 ?_
  have g1 : a1.toNatClampNeg < 4 := (no_lt hza1)
  refine k_i (k := 0) (n := 0) hA B (u_S (rest := []) X (c_X4_number l g N ad (mg g ad y cr dr th kn rf pl pz mc) (32 + a1.toNatClampNeg) (ad (32 + a1.toNatClampNeg)) (dr a1.toNatClampNeg) (pl_dr hN g1) rfl (mg_dr g1) (okd_mo (hdr _ g1)) H.size) mw_X4_number md_X4_number rfl lk_X4_198 ⟨Nat.le_of_ble_eq_true rfl, Nat.le_of_ble_eq_true rfl⟩ hA hK hT B hl.1 rfl (Nat.le_of_ble_eq_true rfl) dX4_become_15 ⟨Nat.le_of_ble_eq_true rfl, Nat.le_of_ble_eq_true rfl⟩) (Nat.le_of_ble_eq_true rfl) (Nat.le_of_ble_eq_true rfl) (fun r2 ad2 f' H locs hw B => ?_)
  obtain ⟨rfl, rfl, rfl⟩ := hw
  refine lv_aload_n hx hb dX4_become_18 rfl (lv_at hl 2 rfl) ?_
  refine k_i (k := 0) (n := 0) hA B (u_S (rest := [.int (v_X4_number (dr a1.toNatClampNeg))]) X (c_X4_number l g N ad (mg g ad y cr dr th kn rf pl pz mc) j2 bj2 tj2 hj2 hbj2 (mg_row hfj2 rfl) hit H.size) mw_X4_number md_X4_number rfl lk_X4_198 ⟨Nat.le_of_ble_eq_true rfl, Nat.le_of_ble_eq_true rfl⟩ hA hK hT B hl.1 rfl (Nat.le_of_ble_eq_true rfl) dX4_become_19 ⟨Nat.le_of_ble_eq_true rfl, Nat.le_of_ble_eq_true rfl⟩) (Nat.le_of_ble_eq_true rfl) (Nat.le_of_ble_eq_true rfl) (fun r3 ad3 f' H locs hw B => ?_)
  obtain ⟨rfl, rfl, rfl⟩ := hw
  refine lv_icmp_eq (tgt := 29) hx hb dX4_become_22 (by decide) (fun c4 => ?_) (fun c4 => ?_)
  · refine lv_iconst (v := 0) hx hb dX4_become_29 (by decide) ?_
    refine k_i (k := 0) (n := 0) hA B (u_S (rest := []) X (c_X4_one l g N ad (mg g ad y cr dr th kn rf pl pz mc) 0 H.size) mw_X4_one md_X4_one rfl lk_X4_91 ⟨Nat.le_of_ble_eq_true rfl, Nat.le_of_ble_eq_true rfl⟩ hA hK hT B hl.1 rfl (Nat.le_of_ble_eq_true rfl) dX4_become_30 ⟨Nat.le_of_ble_eq_true rfl, Nat.le_of_ble_eq_true rfl⟩) (Nat.le_of_ble_eq_true rfl) (Nat.le_of_ble_eq_true rfl) (fun r5 ad5 f' H locs hw B => ?_)
    obtain ⟨rfl, rfl, rfl⟩ := hw
    refine lv_istore_n (lv' := [(3, .int (v_X4_one 0)), (0, .ref b0), (1, .int a1), (2, .ref bj2)]) hx hb dX4_become_33 rfl hl (by decide) rfl (fun ls hl => ?_)
    refine lv_aload_n hx hb dX4_become_34 rfl (lv_at hl 1 rfl) ?_
    refine b_get (q := 24) (k := 3) hb0 X hK B rfl in_X4 (by omega) mg_24 (by decide) lk_X4_23 rfl rfl dX4_become_35 ?_
    refine lv_iload_n hx hb dX4_become_38 rfl (lv_at hl 2 rfl) ?_
    refine lv_iconst (v := 3) hx hb dX4_become_39 (by decide) ?_
    refine h_new3 (cz := 1) (sz := 3) X hA hK B (Nat.le_of_ble_eq_true rfl) (Nat.le_of_ble_eq_true rfl) (Nat.le_of_ble_eq_true rfl) (Nat.le_of_ble_eq_true rfl) dX4_become_40 (fun z6 H B => ?_)
    have B : WB g (aw N ad sz) s.heap (N + 1) (va_up ad N z6) (mg g (va_up ad N z6) (va_up y N (c_row g (0, 0, 0))) cr dr th kn rf pl pz mc) H locs := WM_push (by omega) B
    refine lv_dup hx hb dX4_become_42 rfl ?_
    refine lv_iconst (v := 0) hx hb dX4_become_43 (by decide) ?_
    refine lv_aload_n hx hb dX4_become_44 rfl (lv_at hl 3 rfl) ?_
    refine lv_iconst (v := 0) hx hb dX4_become_45 (by decide) ?_
    refine h_ld0 X hK B (Nat.lt_succ_of_lt hj2) ((up_lt hj2).trans hbj2) (mg_row hfj2 ((up_lt hj2).trans rfl)) dX4_become_46 ?_
    refine h_st (t := (0, 0, 0)) (t' := (tj2.1, 0, 0)) X hK B (Nat.lt_succ_self _) up_eq ((mg_hi (by omega)).trans up_eq) (by unfold vp_in; decide) (rw3_s0 _ _) dX4_become_47 (fun H locs B => ?_)
    rw [mg_yup (by omega), bx_uu] at B
    refine lv_dup hx hb dX4_become_48 rfl ?_
    refine lv_iconst (v := 1) hx hb dX4_become_49 (by decide) ?_
    refine lv_aload_n hx hb dX4_become_50 rfl (lv_at hl 3 rfl) ?_
    refine lv_iconst (v := 1) hx hb dX4_become_51 (by decide) ?_
    refine h_ld1 X hK B (Nat.lt_succ_of_lt hj2) ((up_lt hj2).trans hbj2) (mg_row hfj2 ((up_lt hj2).trans rfl)) dX4_become_52 ?_
    refine h_st (t := (tj2.1, 0, 0)) (t' := (tj2.1, tj2.2.1, 0)) X hK B (Nat.lt_succ_self _) up_eq ((mg_hi (by omega)).trans up_eq) (by unfold vp_in; decide) (rw3_s1 _ _) dX4_become_53 (fun H locs B => ?_)
    rw [mg_yup (by omega), bx_uu] at B
    refine lv_dup hx hb dX4_become_54 rfl ?_
    refine lv_iconst (v := 2) hx hb dX4_become_55 (by decide) ?_
    refine lv_aload_n hx hb dX4_become_56 rfl (lv_at hl 3 rfl) ?_
    refine lv_iconst (v := 2) hx hb dX4_become_57 (by decide) ?_
    refine h_ld2 X hK B (Nat.lt_succ_of_lt hj2) ((up_lt hj2).trans hbj2) (mg_row hfj2 ((up_lt hj2).trans rfl)) dX4_become_58 ?_
    refine h_st (t := (tj2.1, tj2.2.1, 0)) (t' := (tj2.1, tj2.2.1, tj2.2.2)) X hK B (Nat.lt_succ_self _) up_eq ((mg_hi (by omega)).trans up_eq) (by unfold vp_in; decide) (rw3_s2 _ _) dX4_become_59 (fun H locs B => ?_)
    rw [mg_yup (by omega), bx_uu] at B
    have g7 : a1.toNatClampNeg < 4 := (no_lt hza1)
    refine b_aast (q := 26) (qv := N) (up_lt (by omega)) X hK hT B (by omega) mg_26 (Nat.lt_succ_self _) up_eq ((mg_hi (by omega)).trans up_eq) (no_in hza1) dX4_become_60 (fun H locs B => ?_)
    have B : WB g (aw N ad sz) s.heap N (va_up ad (32 + a1.toNatClampNeg) z6) (mg g (va_up ad (32 + a1.toNatClampNeg) z6) y cr (va_up dr a1.toNatClampNeg (tj2.1, tj2.2.1, tj2.2.2)) th kn rf pl pz mc) H locs := WM_dr B (fun _ => rfl) hN g7
    have kk8 : ∀ k, k < N → k < 28 ∨ 36 ≤ k → (va_up ad (32 + a1.toNatClampNeg) z6) k = ad k := fun k hk hkq => (va_up_ne _ _ (by omega)).trans rfl
    have nb10 : (va_up ad (32 + a1.toNatClampNeg) z6) 24 = b0 := (va_up_ne _ _ (by omega)).trans hb0
    refine lv_iload_n hx hb dX4_become_61 rfl (lv_at hl 0 rfl) ?_
    have ev := (show v_X4_become dr a1 tj2 = ((v_X4_one 0), va_up dr a1.toNatClampNeg (tj2.1, tj2.2.1, tj2.2.2)) from by unfold v_X4_become; rw [if_pos c4])
    exact rt_i X hr ((va_up ad (32 + a1.toNatClampNeg) z6), mg g (va_up ad (32 + a1.toNatClampNeg) z6) y cr (va_up dr a1.toNatClampNeg (tj2.1, tj2.2.1, tj2.2.2)) th kn rf pl pz mc) B (PO_of B) ⟨kk8, by rw [ev], by rw [ev]⟩ rfl (Nat.le_of_ble_eq_true rfl) (Nat.le_of_ble_eq_true rfl) dX4_become_62
  · refine lv_iconst (v := 1) hx hb dX4_become_25 (by decide) ?_
    refine lv_goto (tgt := 30) hx hb dX4_become_26 (by decide) ?_
    refine k_i (k := 0) (n := 0) hA B (u_S (rest := []) X (c_X4_one l g N ad (mg g ad y cr dr th kn rf pl pz mc) 1 H.size) mw_X4_one md_X4_one rfl lk_X4_91 ⟨Nat.le_of_ble_eq_true rfl, Nat.le_of_ble_eq_true rfl⟩ hA hK hT B hl.1 rfl (Nat.le_of_ble_eq_true rfl) dX4_become_30 ⟨Nat.le_of_ble_eq_true rfl, Nat.le_of_ble_eq_true rfl⟩) (Nat.le_of_ble_eq_true rfl) (Nat.le_of_ble_eq_true rfl) (fun r11 ad11 f' H locs hw B => ?_)
    obtain ⟨rfl, rfl, rfl⟩ := hw
    refine lv_istore_n (lv' := [(3, .int (v_X4_one 1)), (0, .ref b0), (1, .int a1), (2, .ref bj2)]) hx hb dX4_become_33 rfl hl (by decide) rfl (fun ls hl => ?_)
    refine lv_aload_n hx hb dX4_become_34 rfl (lv_at hl 1 rfl) ?_
    refine b_get (q := 24) (k := 3) hb0 X hK B rfl in_X4 (by omega) mg_24 (by decide) lk_X4_23 rfl rfl dX4_become_35 ?_
    refine lv_iload_n hx hb dX4_become_38 rfl (lv_at hl 2 rfl) ?_
    refine lv_iconst (v := 3) hx hb dX4_become_39 (by decide) ?_
    refine h_new3 (cz := 1) (sz := 3) X hA hK B (Nat.le_of_ble_eq_true rfl) (Nat.le_of_ble_eq_true rfl) (Nat.le_of_ble_eq_true rfl) (Nat.le_of_ble_eq_true rfl) dX4_become_40 (fun z12 H B => ?_)
    have B : WB g (aw N ad sz) s.heap (N + 1) (va_up ad N z12) (mg g (va_up ad N z12) (va_up y N (c_row g (0, 0, 0))) cr dr th kn rf pl pz mc) H locs := WM_push (by omega) B
    refine lv_dup hx hb dX4_become_42 rfl ?_
    refine lv_iconst (v := 0) hx hb dX4_become_43 (by decide) ?_
    refine lv_aload_n hx hb dX4_become_44 rfl (lv_at hl 3 rfl) ?_
    refine lv_iconst (v := 0) hx hb dX4_become_45 (by decide) ?_
    refine h_ld0 X hK B (Nat.lt_succ_of_lt hj2) ((up_lt hj2).trans hbj2) (mg_row hfj2 ((up_lt hj2).trans rfl)) dX4_become_46 ?_
    refine h_st (t := (0, 0, 0)) (t' := (tj2.1, 0, 0)) X hK B (Nat.lt_succ_self _) up_eq ((mg_hi (by omega)).trans up_eq) (by unfold vp_in; decide) (rw3_s0 _ _) dX4_become_47 (fun H locs B => ?_)
    rw [mg_yup (by omega), bx_uu] at B
    refine lv_dup hx hb dX4_become_48 rfl ?_
    refine lv_iconst (v := 1) hx hb dX4_become_49 (by decide) ?_
    refine lv_aload_n hx hb dX4_become_50 rfl (lv_at hl 3 rfl) ?_
    refine lv_iconst (v := 1) hx hb dX4_become_51 (by decide) ?_
    refine h_ld1 X hK B (Nat.lt_succ_of_lt hj2) ((up_lt hj2).trans hbj2) (mg_row hfj2 ((up_lt hj2).trans rfl)) dX4_become_52 ?_
    refine h_st (t := (tj2.1, 0, 0)) (t' := (tj2.1, tj2.2.1, 0)) X hK B (Nat.lt_succ_self _) up_eq ((mg_hi (by omega)).trans up_eq) (by unfold vp_in; decide) (rw3_s1 _ _) dX4_become_53 (fun H locs B => ?_)
    rw [mg_yup (by omega), bx_uu] at B
    refine lv_dup hx hb dX4_become_54 rfl ?_
    refine lv_iconst (v := 2) hx hb dX4_become_55 (by decide) ?_
    refine lv_aload_n hx hb dX4_become_56 rfl (lv_at hl 3 rfl) ?_
    refine lv_iconst (v := 2) hx hb dX4_become_57 (by decide) ?_
    refine h_ld2 X hK B (Nat.lt_succ_of_lt hj2) ((up_lt hj2).trans hbj2) (mg_row hfj2 ((up_lt hj2).trans rfl)) dX4_become_58 ?_
    refine h_st (t := (tj2.1, tj2.2.1, 0)) (t' := (tj2.1, tj2.2.1, tj2.2.2)) X hK B (Nat.lt_succ_self _) up_eq ((mg_hi (by omega)).trans up_eq) (by unfold vp_in; decide) (rw3_s2 _ _) dX4_become_59 (fun H locs B => ?_)
    rw [mg_yup (by omega), bx_uu] at B
    have g13 : a1.toNatClampNeg < 4 := (no_lt hza1)
    refine b_aast (q := 26) (qv := N) (up_lt (by omega)) X hK hT B (by omega) mg_26 (Nat.lt_succ_self _) up_eq ((mg_hi (by omega)).trans up_eq) (no_in hza1) dX4_become_60 (fun H locs B => ?_)
    have B : WB g (aw N ad sz) s.heap N (va_up ad (32 + a1.toNatClampNeg) z12) (mg g (va_up ad (32 + a1.toNatClampNeg) z12) y cr (va_up dr a1.toNatClampNeg (tj2.1, tj2.2.1, tj2.2.2)) th kn rf pl pz mc) H locs := WM_dr B (fun _ => rfl) hN g13
    have kk14 : ∀ k, k < N → k < 28 ∨ 36 ≤ k → (va_up ad (32 + a1.toNatClampNeg) z12) k = ad k := fun k hk hkq => (va_up_ne _ _ (by omega)).trans rfl
    have nb16 : (va_up ad (32 + a1.toNatClampNeg) z12) 24 = b0 := (va_up_ne _ _ (by omega)).trans hb0
    refine lv_iload_n hx hb dX4_become_61 rfl (lv_at hl 0 rfl) ?_
    have ev := (show v_X4_become dr a1 tj2 = ((v_X4_one 1), va_up dr a1.toNatClampNeg (tj2.1, tj2.2.1, tj2.2.2)) from by unfold v_X4_become; rw [if_neg c4])
    exact rt_i X hr ((va_up ad (32 + a1.toNatClampNeg) z12), mg g (va_up ad (32 + a1.toNatClampNeg) z12) y cr (va_up dr a1.toNatClampNeg (tj2.1, tj2.2.1, tj2.2.2)) th kn rf pl pz mc) B (PO_of B) ⟨kk14, by rw [ev], by rw [ev]⟩ rfl (Nat.le_of_ble_eq_true rfl) (Nat.le_of_ble_eq_true rfl) dX4_become_62
def v_X4_becomeN (rf : Int32) : Int32 × Int32 := ((v_X4_refuse rf).1, (v_X4_refuse rf).2)
set_option maxHeartbeats 4000000 in
set_option maxRecDepth 100000 in
theorem c_X4_becomeN (l : Launch) (g : GG) (N : Nat) (ad : Nat → Nat) (y : Nat → va_E) (cr dr : Nat → TR) (th kn rf : Int32) (pl : Nat → TR) (pz : Nat) (mc : Int32) (hN : 36 + pz ≤ N) (b0 : Nat) (hb0 : ad 24 = b0) (a1 : Int32) : KI l yX4_become cX4_become 4 (some .int) (rm 1 0 0) g [.ref b0, .int a1, .null] N ad (mg g ad y cr dr th kn rf pl pz mc) N (fun r ad' f' => ad = ad' ∧ (v_X4_becomeN rf).1 = r ∧ mg g ad y cr dr th kn (v_X4_becomeN rf).2 pl pz mc = f') := by
  intro sz
  refine mt_start (by decide) (Nat.le_of_ble_eq_true rfl) ?_
  intro p e s m args below meth c hsz X hr hnam hA hK hT H locs B ls hl
  obtain ⟨hx, hb, hml, hown, hts, hlocks⟩ := id X
  have hl : lv_has ls 4 [(0, .ref b0), (1, .int a1), (2, .null)] := hl
  refine lv_aload_nN hx hb dX4_become_0 rfl (lv_at hl 2 rfl) ?_
  refine lv_ifnonnullN hx hb dX4_become_1 ?_
  refine lv_aload_n hx hb dX4_become_4 rfl (lv_at hl 0 rfl) ?_
  refine k_i (k := 0) (n := 0) hA B (b_V (q := 24) (rest := []) hb0 X (c_X4_refuse l g N ad y cr dr th kn rf pl pz mc (by omega) b0 hb0 H.size) mw_X4_refuse md_X4_refuse rfl lk_X4_83 ⟨Nat.le_of_ble_eq_true rfl, Nat.le_of_ble_eq_true rfl⟩ hA hK hT B (by omega) mg_24 rfl rfl hl.1 rfl (Nat.le_of_ble_eq_true rfl) dX4_become_5 ⟨Nat.le_of_ble_eq_true rfl, Nat.le_of_ble_eq_true rfl⟩) (Nat.le_of_ble_eq_true rfl) (Nat.le_of_ble_eq_true rfl) (fun r1 ad1 f' H locs hw B => ?_)
  obtain ⟨rfl, rfl, rfl⟩ := hw
  have ev := (show v_X4_becomeN rf = ((v_X4_refuse rf).1, (v_X4_refuse rf).2) from rfl)
  exact rt_i X hr (ad, mg g ad y cr dr th kn (v_X4_refuse rf).2 pl pz mc) B (PO_of B) ⟨rfl, by rw [ev], by rw [ev]⟩ rfl (Nat.le_of_ble_eq_true rfl) (Nat.le_of_ble_eq_true rfl) dX4_become_8
def v_X4_date (dr : Nat → TR) (a1 : Int32) (a2 : Int32) (a3 : Int32) (a4 : Int32) : Int32 × (Nat → TR) × Int32 := if (v_X4_isIn a2.toInt64 1600 2400) = 0 then (if v_X4_isNone a1 = 0 then (0, dr, 2) else (0, dr, 1)) else (if (v_X4_isIn a3.toInt64 1 12) = 0 then (if v_X4_isNone a1 = 0 then (0, dr, 2) else (0, dr, 1)) else (if (v_X4_isIn a4.toInt64 1 ((v_X4_length a2 a3).toInt64)) = 0 then (if v_X4_isNone a1 = 0 then (0, dr, 2) else (0, dr, 1)) else (if v_X4_isNone a1 = 0 then ((v_X4_become dr a1 (a2, a3, a4)).1, (v_X4_become dr a1 (a2, a3, a4)).2, 0) else (0, dr, 1))))
set_option maxHeartbeats 4000000 in
set_option maxRecDepth 100000 in
theorem c_X4_date (l : Launch) (g : GG) (N : Nat) (ad : Nat → Nat) (y : Nat → va_E) (cr dr : Nat → TR) (th kn rf : Int32) (pl : Nat → TR) (pz : Nat) (mc : Int32) (hN : 36 + pz ≤ N) (b0 : Nat) (hb0 : ad 24 = b0) (a1 : Int32) (a2 : Int32) (a3 : Int32) (a4 : Int32) (hdr : ∀ i, i < 4 → okd (dr i)) : KI l yX4_date cX4_date 6 (some .int) (rm 4 2 6) g [.ref b0, .int a1, .int a2, .int a3, .int a4] N ad (mg g ad y cr dr th kn rf pl pz mc) N (fun r ad' f' => (∀ k, k < N → k < 28 ∨ 36 ≤ k → ad' k = ad k) ∧ (v_X4_date dr a1 a2 a3 a4).1 = r ∧ mg g ad' y cr (v_X4_date dr a1 a2 a3 a4).2.1 (v_X4_date dr a1 a2 a3 a4).2.2 kn rf pl pz mc = f') := by
  intro sz
  refine mt_start (by decide) (Nat.le_of_ble_eq_true rfl) ?_
  intro p e s m args below meth c hsz X hr hnam hA hK hT H locs B ls hl
  obtain ⟨hx, hb, hml, hown, hts, hlocks⟩ := id X
  have hl : lv_has ls 6 [(0, .ref b0), (1, .int a1), (2, .int a2), (3, .int a3), (4, .int a4)] := hl
  refine lv_iload_n hx hb dX4_date_0 rfl (lv_at hl 2 rfl) ?_
  refine lv_i2l (v := a2.toInt64) hx hb dX4_date_1 rfl ?_
  refine lv_ldc2 hx hb hown (hts _ (List.mem_cons_of_mem _ lk_X4_208)) dX4_date_2 ?_
  refine lv_ldc2 hx hb hown (hts _ (List.mem_cons_of_mem _ lk_X4_210)) dX4_date_5 ?_
  refine k_i (k := 0) (n := 0) hA B (u_S (rest := []) X (c_X4_isIn l g N ad (mg g ad y cr dr th kn rf pl pz mc) a2.toInt64 1600 2400 H.size) mw_X4_isIn md_X4_isIn rfl lk_X4_37 ⟨Nat.le_of_ble_eq_true rfl, Nat.le_of_ble_eq_true rfl⟩ hA hK hT B hl.1 rfl (Nat.le_of_ble_eq_true rfl) dX4_date_8 ⟨Nat.le_of_ble_eq_true rfl, Nat.le_of_ble_eq_true rfl⟩) (Nat.le_of_ble_eq_true rfl) (Nat.le_of_ble_eq_true rfl) (fun r1 ad1 f' H locs hw B => ?_)
  obtain ⟨rfl, rfl, rfl⟩ := hw
  refine lv_if_eq (tgt := 42) hx hb dX4_date_11 (by decide) (fun c2 => ?_) (fun c2 => ?_)
  · refine lv_iconst (v := 1) hx hb dX4_date_42 (by decide) ?_
    refine lv_goto (tgt := 47) hx hb dX4_date_43 (by decide) ?_
    refine lv_istore (lv' := [(5, .int 1), (0, .ref b0), (1, .int a1), (2, .int a2), (3, .int a3), (4, .int a4)]) hx hb dX4_date_47 hl (by decide) rfl (fun ls hl => ?_)
    refine lv_aload_n hx hb dX4_date_49 rfl (lv_at hl 1 rfl) ?_
    refine lv_iload_n hx hb dX4_date_50 rfl (lv_at hl 2 rfl) ?_
    refine k_i (k := 0) (n := 0) hA B (u_S (rest := [.ref b0]) X (c_X4_isNone l g N ad (mg g ad y cr dr th kn rf pl pz mc) a1 H.size) mw_X4_isNone md_X4_isNone rfl lk_X4_95 ⟨Nat.le_of_ble_eq_true rfl, Nat.le_of_ble_eq_true rfl⟩ hA hK hT B hl.1 rfl (Nat.le_of_ble_eq_true rfl) dX4_date_51 ⟨Nat.le_of_ble_eq_true rfl, Nat.le_of_ble_eq_true rfl⟩) (Nat.le_of_ble_eq_true rfl) (Nat.le_of_ble_eq_true rfl) (fun r3 ad3 f' H locs hw B => ?_)
    obtain ⟨rfl, rfl, rfl⟩ := hw
    refine lv_iload hx hb dX4_date_54 (lv_at hl 0 rfl) ?_
    by_cases s4 : v_X4_isNone a1 = 0
    · rw [s4]
      refine k_i (k := 0) (n := 0) hA B (b_V (q := 24) (rest := []) hb0 X (c_X4_stops l g N ad y cr dr th kn rf pl pz mc (by omega) b0 hb0 0 1 H.size) mw_X4_stops md_X4_stops rfl lk_X4_99 ⟨Nat.le_of_ble_eq_true rfl, Nat.le_of_ble_eq_true rfl⟩ hA hK hT B (by omega) mg_24 rfl rfl hl.1 rfl (Nat.le_of_ble_eq_true rfl) dX4_date_56 ⟨Nat.le_of_ble_eq_true rfl, Nat.le_of_ble_eq_true rfl⟩) (Nat.le_of_ble_eq_true rfl) (Nat.le_of_ble_eq_true rfl) (fun r ad' f' H locs hw B => ?_)
      rw [st_01] at hw
      dsimp only at hw
      obtain ⟨rfl, rfl, rfl⟩ := hw
      have B : WB g (aw N ad sz) s.heap N ad (mg g ad y cr dr 2 kn rf pl pz mc) H locs := B
      refine lv_if_eq (tgt := 66) hx hb dX4_date_59 (by decide) (fun z => absurd z (by decide)) (fun _ => ?_)
      refine lv_iconst (v := 0) hx hb dX4_date_62 (by decide) ?_
      refine lv_goto (tgt := 87) hx hb dX4_date_63 (by decide) ?_
      have ev := (show v_X4_date dr a1 a2 a3 a4 = (0, dr, 2) from by unfold v_X4_date; rw [if_pos c2, if_pos s4])
      exact rt_i X hr (ad, mg g ad y cr dr 2 kn rf pl pz mc) B (PO_of B) ⟨(fun _ _ _ => rfl), by rw [ev], by rw [ev]⟩ rfl (Nat.le_of_ble_eq_true rfl) (Nat.le_of_ble_eq_true rfl) dX4_date_87
    · have s4x : (v_X4_isNone a1) = 1 := (b01_X4_isNone).resolve_left s4
      rw [s4x]
      refine k_i (k := 0) (n := 0) hA B (b_V (q := 24) (rest := []) hb0 X (c_X4_stops l g N ad y cr dr th kn rf pl pz mc (by omega) b0 hb0 1 1 H.size) mw_X4_stops md_X4_stops rfl lk_X4_99 ⟨Nat.le_of_ble_eq_true rfl, Nat.le_of_ble_eq_true rfl⟩ hA hK hT B (by omega) mg_24 rfl rfl hl.1 rfl (Nat.le_of_ble_eq_true rfl) dX4_date_56 ⟨Nat.le_of_ble_eq_true rfl, Nat.le_of_ble_eq_true rfl⟩) (Nat.le_of_ble_eq_true rfl) (Nat.le_of_ble_eq_true rfl) (fun r ad' f' H locs hw B => ?_)
      rw [st_11] at hw
      dsimp only at hw
      obtain ⟨rfl, rfl, rfl⟩ := hw
      have B : WB g (aw N ad sz) s.heap N ad (mg g ad y cr dr 1 kn rf pl pz mc) H locs := B
      refine lv_if_eq (tgt := 66) hx hb dX4_date_59 (by decide) (fun z => absurd z (by decide)) (fun _ => ?_)
      refine lv_iconst (v := 0) hx hb dX4_date_62 (by decide) ?_
      refine lv_goto (tgt := 87) hx hb dX4_date_63 (by decide) ?_
      have ev := (show v_X4_date dr a1 a2 a3 a4 = (0, dr, 1) from by unfold v_X4_date; rw [if_pos c2, if_neg s4])
      exact rt_i X hr (ad, mg g ad y cr dr 1 kn rf pl pz mc) B (PO_of B) ⟨(fun _ _ _ => rfl), by rw [ev], by rw [ev]⟩ rfl (Nat.le_of_ble_eq_true rfl) (Nat.le_of_ble_eq_true rfl) dX4_date_87
  · refine lv_iload_n hx hb dX4_date_14 rfl (lv_at hl 3 rfl) ?_
    refine lv_i2l (v := a3.toInt64) hx hb dX4_date_15 rfl ?_
    refine lv_lconst (v := 1) hx hb dX4_date_16 (by decide) ?_
    refine lv_ldc2 hx hb hown (hts _ (List.mem_cons_of_mem _ lk_X4_41)) dX4_date_17 ?_
    refine k_i (k := 0) (n := 0) hA B (u_S (rest := []) X (c_X4_isIn l g N ad (mg g ad y cr dr th kn rf pl pz mc) a3.toInt64 1 12 H.size) mw_X4_isIn md_X4_isIn rfl lk_X4_37 ⟨Nat.le_of_ble_eq_true rfl, Nat.le_of_ble_eq_true rfl⟩ hA hK hT B hl.1 rfl (Nat.le_of_ble_eq_true rfl) dX4_date_20 ⟨Nat.le_of_ble_eq_true rfl, Nat.le_of_ble_eq_true rfl⟩) (Nat.le_of_ble_eq_true rfl) (Nat.le_of_ble_eq_true rfl) (fun r5 ad5 f' H locs hw B => ?_)
    obtain ⟨rfl, rfl, rfl⟩ := hw
    refine lv_if_eq (tgt := 42) hx hb dX4_date_23 (by decide) (fun c6 => ?_) (fun c6 => ?_)
    · refine lv_iconst (v := 1) hx hb dX4_date_42 (by decide) ?_
      refine lv_goto (tgt := 47) hx hb dX4_date_43 (by decide) ?_
      refine lv_istore (lv' := [(5, .int 1), (0, .ref b0), (1, .int a1), (2, .int a2), (3, .int a3), (4, .int a4)]) hx hb dX4_date_47 hl (by decide) rfl (fun ls hl => ?_)
      refine lv_aload_n hx hb dX4_date_49 rfl (lv_at hl 1 rfl) ?_
      refine lv_iload_n hx hb dX4_date_50 rfl (lv_at hl 2 rfl) ?_
      refine k_i (k := 0) (n := 0) hA B (u_S (rest := [.ref b0]) X (c_X4_isNone l g N ad (mg g ad y cr dr th kn rf pl pz mc) a1 H.size) mw_X4_isNone md_X4_isNone rfl lk_X4_95 ⟨Nat.le_of_ble_eq_true rfl, Nat.le_of_ble_eq_true rfl⟩ hA hK hT B hl.1 rfl (Nat.le_of_ble_eq_true rfl) dX4_date_51 ⟨Nat.le_of_ble_eq_true rfl, Nat.le_of_ble_eq_true rfl⟩) (Nat.le_of_ble_eq_true rfl) (Nat.le_of_ble_eq_true rfl) (fun r7 ad7 f' H locs hw B => ?_)
      obtain ⟨rfl, rfl, rfl⟩ := hw
      refine lv_iload hx hb dX4_date_54 (lv_at hl 0 rfl) ?_
      by_cases s8 : v_X4_isNone a1 = 0
      · rw [s8]
        refine k_i (k := 0) (n := 0) hA B (b_V (q := 24) (rest := []) hb0 X (c_X4_stops l g N ad y cr dr th kn rf pl pz mc (by omega) b0 hb0 0 1 H.size) mw_X4_stops md_X4_stops rfl lk_X4_99 ⟨Nat.le_of_ble_eq_true rfl, Nat.le_of_ble_eq_true rfl⟩ hA hK hT B (by omega) mg_24 rfl rfl hl.1 rfl (Nat.le_of_ble_eq_true rfl) dX4_date_56 ⟨Nat.le_of_ble_eq_true rfl, Nat.le_of_ble_eq_true rfl⟩) (Nat.le_of_ble_eq_true rfl) (Nat.le_of_ble_eq_true rfl) (fun r ad' f' H locs hw B => ?_)
        rw [st_01] at hw
        dsimp only at hw
        obtain ⟨rfl, rfl, rfl⟩ := hw
        have B : WB g (aw N ad sz) s.heap N ad (mg g ad y cr dr 2 kn rf pl pz mc) H locs := B
        refine lv_if_eq (tgt := 66) hx hb dX4_date_59 (by decide) (fun z => absurd z (by decide)) (fun _ => ?_)
        refine lv_iconst (v := 0) hx hb dX4_date_62 (by decide) ?_
        refine lv_goto (tgt := 87) hx hb dX4_date_63 (by decide) ?_
        have ev := (show v_X4_date dr a1 a2 a3 a4 = (0, dr, 2) from by unfold v_X4_date; rw [if_neg c2, if_pos c6, if_pos s8])
        exact rt_i X hr (ad, mg g ad y cr dr 2 kn rf pl pz mc) B (PO_of B) ⟨(fun _ _ _ => rfl), by rw [ev], by rw [ev]⟩ rfl (Nat.le_of_ble_eq_true rfl) (Nat.le_of_ble_eq_true rfl) dX4_date_87
      · have s8x : (v_X4_isNone a1) = 1 := (b01_X4_isNone).resolve_left s8
        rw [s8x]
        refine k_i (k := 0) (n := 0) hA B (b_V (q := 24) (rest := []) hb0 X (c_X4_stops l g N ad y cr dr th kn rf pl pz mc (by omega) b0 hb0 1 1 H.size) mw_X4_stops md_X4_stops rfl lk_X4_99 ⟨Nat.le_of_ble_eq_true rfl, Nat.le_of_ble_eq_true rfl⟩ hA hK hT B (by omega) mg_24 rfl rfl hl.1 rfl (Nat.le_of_ble_eq_true rfl) dX4_date_56 ⟨Nat.le_of_ble_eq_true rfl, Nat.le_of_ble_eq_true rfl⟩) (Nat.le_of_ble_eq_true rfl) (Nat.le_of_ble_eq_true rfl) (fun r ad' f' H locs hw B => ?_)
        rw [st_11] at hw
        dsimp only at hw
        obtain ⟨rfl, rfl, rfl⟩ := hw
        have B : WB g (aw N ad sz) s.heap N ad (mg g ad y cr dr 1 kn rf pl pz mc) H locs := B
        refine lv_if_eq (tgt := 66) hx hb dX4_date_59 (by decide) (fun z => absurd z (by decide)) (fun _ => ?_)
        refine lv_iconst (v := 0) hx hb dX4_date_62 (by decide) ?_
        refine lv_goto (tgt := 87) hx hb dX4_date_63 (by decide) ?_
        have ev := (show v_X4_date dr a1 a2 a3 a4 = (0, dr, 1) from by unfold v_X4_date; rw [if_neg c2, if_pos c6, if_neg s8])
        exact rt_i X hr (ad, mg g ad y cr dr 1 kn rf pl pz mc) B (PO_of B) ⟨(fun _ _ _ => rfl), by rw [ev], by rw [ev]⟩ rfl (Nat.le_of_ble_eq_true rfl) (Nat.le_of_ble_eq_true rfl) dX4_date_87
    · refine lv_iload hx hb dX4_date_26 (lv_at hl 4 rfl) ?_
      refine lv_i2l (v := a4.toInt64) hx hb dX4_date_28 rfl ?_
      refine lv_lconst (v := 1) hx hb dX4_date_29 (by decide) ?_
      refine lv_iload_n hx hb dX4_date_30 rfl (lv_at hl 2 rfl) ?_
      refine lv_iload_n hx hb dX4_date_31 rfl (lv_at hl 3 rfl) ?_
      refine k_i (k := 0) (n := 0) hA B (u_S (rest := [.long 1, .long a4.toInt64]) X (c_X4_length l g N ad (mg g ad y cr dr th kn rf pl pz mc) a2 a3 (isin_mp c6) H.size) mw_X4_length md_X4_length rfl lk_X4_181 ⟨Nat.le_of_ble_eq_true rfl, Nat.le_of_ble_eq_true rfl⟩ hA hK hT B hl.1 rfl (Nat.le_of_ble_eq_true rfl) dX4_date_32 ⟨Nat.le_of_ble_eq_true rfl, Nat.le_of_ble_eq_true rfl⟩) (Nat.le_of_ble_eq_true rfl) (Nat.le_of_ble_eq_true rfl) (fun r9 ad9 f' H locs hw B => ?_)
      obtain ⟨rfl, rfl, rfl⟩ := hw
      refine lv_i2l (v := (v_X4_length a2 a3).toInt64) hx hb dX4_date_35 rfl ?_
      refine k_i (k := 0) (n := 0) hA B (u_S (rest := []) X (c_X4_isIn l g N ad (mg g ad y cr dr th kn rf pl pz mc) a4.toInt64 1 ((v_X4_length a2 a3).toInt64) H.size) mw_X4_isIn md_X4_isIn rfl lk_X4_37 ⟨Nat.le_of_ble_eq_true rfl, Nat.le_of_ble_eq_true rfl⟩ hA hK hT B hl.1 rfl (Nat.le_of_ble_eq_true rfl) dX4_date_36 ⟨Nat.le_of_ble_eq_true rfl, Nat.le_of_ble_eq_true rfl⟩) (Nat.le_of_ble_eq_true rfl) (Nat.le_of_ble_eq_true rfl) (fun r10 ad10 f' H locs hw B => ?_)
      obtain ⟨rfl, rfl, rfl⟩ := hw
      refine lv_if_ne (tgt := 46) hx hb dX4_date_39 (by decide) (fun c11 => ?_) (fun c11 => ?_)
      · refine lv_iconst (v := 0) hx hb dX4_date_46 (by decide) ?_
        refine lv_istore (lv' := [(5, .int 0), (0, .ref b0), (1, .int a1), (2, .int a2), (3, .int a3), (4, .int a4)]) hx hb dX4_date_47 hl (by decide) rfl (fun ls hl => ?_)
        refine lv_aload_n hx hb dX4_date_49 rfl (lv_at hl 1 rfl) ?_
        refine lv_iload_n hx hb dX4_date_50 rfl (lv_at hl 2 rfl) ?_
        refine k_i (k := 0) (n := 0) hA B (u_S (rest := [.ref b0]) X (c_X4_isNone l g N ad (mg g ad y cr dr th kn rf pl pz mc) a1 H.size) mw_X4_isNone md_X4_isNone rfl lk_X4_95 ⟨Nat.le_of_ble_eq_true rfl, Nat.le_of_ble_eq_true rfl⟩ hA hK hT B hl.1 rfl (Nat.le_of_ble_eq_true rfl) dX4_date_51 ⟨Nat.le_of_ble_eq_true rfl, Nat.le_of_ble_eq_true rfl⟩) (Nat.le_of_ble_eq_true rfl) (Nat.le_of_ble_eq_true rfl) (fun r12 ad12 f' H locs hw B => ?_)
        obtain ⟨rfl, rfl, rfl⟩ := hw
        refine lv_iload hx hb dX4_date_54 (lv_at hl 0 rfl) ?_
        by_cases s13 : v_X4_isNone a1 = 0
        · rw [s13]
          refine k_i (k := 0) (n := 0) hA B (b_V (q := 24) (rest := []) hb0 X (c_X4_stops l g N ad y cr dr th kn rf pl pz mc (by omega) b0 hb0 0 0 H.size) mw_X4_stops md_X4_stops rfl lk_X4_99 ⟨Nat.le_of_ble_eq_true rfl, Nat.le_of_ble_eq_true rfl⟩ hA hK hT B (by omega) mg_24 rfl rfl hl.1 rfl (Nat.le_of_ble_eq_true rfl) dX4_date_56 ⟨Nat.le_of_ble_eq_true rfl, Nat.le_of_ble_eq_true rfl⟩) (Nat.le_of_ble_eq_true rfl) (Nat.le_of_ble_eq_true rfl) (fun r ad' f' H locs hw B => ?_)
          rw [st_00] at hw
          dsimp only at hw
          obtain ⟨rfl, rfl, rfl⟩ := hw
          have B : WB g (aw N ad sz) s.heap N ad (mg g ad y cr dr 0 kn rf pl pz mc) H locs := B
          refine lv_if_eq (tgt := 66) hx hb dX4_date_59 (by decide) (fun _ => ?_) (fun z => absurd z (by decide))
          refine lv_aload_n hx hb dX4_date_66 rfl (lv_at hl 1 rfl) ?_
          refine lv_iload_n hx hb dX4_date_67 rfl (lv_at hl 2 rfl) ?_
          refine lv_iconst (v := 3) hx hb dX4_date_68 (by decide) ?_
          refine h_new3 (cz := 1) (sz := 3) X hA hK B (Nat.le_of_ble_eq_true rfl) (Nat.le_of_ble_eq_true rfl) (Nat.le_of_ble_eq_true rfl) (Nat.le_of_ble_eq_true rfl) dX4_date_69 (fun z14 H B => ?_)
          have B : WB g (aw N ad sz) s.heap (N + 1) (va_up ad N z14) (mg g (va_up ad N z14) (va_up y N (c_row g (0, 0, 0))) cr dr 0 kn rf pl pz mc) H locs := WM_push (by omega) B
          refine lv_dup hx hb dX4_date_71 rfl ?_
          refine lv_iconst (v := 0) hx hb dX4_date_72 (by decide) ?_
          refine lv_iload_n hx hb dX4_date_73 rfl (lv_at hl 3 rfl) ?_
          refine h_st (t := (0, 0, 0)) (t' := (a2, 0, 0)) X hK B (Nat.lt_succ_self _) up_eq ((mg_hi (by omega)).trans up_eq) (by unfold vp_in; decide) (rw3_s0 _ _) dX4_date_74 (fun H locs B => ?_)
          rw [mg_yup (by omega), bx_uu] at B
          refine lv_dup hx hb dX4_date_75 rfl ?_
          refine lv_iconst (v := 1) hx hb dX4_date_76 (by decide) ?_
          refine lv_iload_n hx hb dX4_date_77 rfl (lv_at hl 4 rfl) ?_
          refine h_st (t := (a2, 0, 0)) (t' := (a2, a3, 0)) X hK B (Nat.lt_succ_self _) up_eq ((mg_hi (by omega)).trans up_eq) (by unfold vp_in; decide) (rw3_s1 _ _) dX4_date_78 (fun H locs B => ?_)
          rw [mg_yup (by omega), bx_uu] at B
          refine lv_dup hx hb dX4_date_79 rfl ?_
          refine lv_iconst (v := 2) hx hb dX4_date_80 (by decide) ?_
          refine lv_iload hx hb dX4_date_81 (lv_at hl 5 rfl) ?_
          refine h_st (t := (a2, a3, 0)) (t' := (a2, a3, a4)) X hK B (Nat.lt_succ_self _) up_eq ((mg_hi (by omega)).trans up_eq) (by unfold vp_in; decide) (rw3_s2 _ _) dX4_date_83 (fun H locs B => ?_)
          rw [mg_yup (by omega), bx_uu] at B
          refine k_i (k := 2) (n := 6) hA B (b_V (q := 24) (rest := []) ((up_lt (by omega)).trans hb0) X (c_X4_become l g (N + 1) (va_up ad N z14) (va_up y N (c_row g (a2, a3, a4))) cr dr 0 kn rf pl pz mc (by omega) b0 ((up_lt (by omega)).trans hb0) a1 N z14 (a2, a3, a4) (Nat.lt_succ_self _) up_eq ((mg_hi (by omega)).trans up_eq) s13 hdr (okd_mo (isin_okd c2 c6 c11)) H.size) mw_X4_become md_X4_become rfl lk_X4_212 ⟨Nat.le_of_ble_eq_true rfl, Nat.le_of_ble_eq_true rfl⟩ hA hK hT B (by omega) mg_24 rfl rfl hl.1 rfl (Nat.le_of_ble_eq_true rfl) dX4_date_84 ⟨Nat.le_of_ble_eq_true rfl, Nat.le_of_ble_eq_true rfl⟩) (Nat.le_of_ble_eq_true rfl) (Nat.le_of_ble_eq_true rfl) (fun r15 ad15 f' H locs hw B => ?_)
          dsimp only at hw
          obtain ⟨mv16, rfl, rfl⟩ := hw
          have B : WB g (aw N ad sz) s.heap N ad15 (mg g ad15 y cr (v_X4_become dr a1 (a2, a3, a4)).2 0 kn rf pl pz mc) H locs := WM_drop B (by omega) (by omega) (fun _ _ => rfl) (fun _ hk => (up_lt hk))
          have kk17 : ∀ k, k < N → k < 28 ∨ 36 ≤ k → ad15 k = ad k := fun k hk hkq => (mv16 k (by omega) hkq).trans (((fun _ hk => (up_lt hk)) k hk).trans rfl)
          have nb18 : ad15 24 = b0 := (mv16 24 (by omega) (Or.inl (by decide))).trans ((up_lt (by omega)).trans hb0)
          have ev := (show v_X4_date dr a1 a2 a3 a4 = ((v_X4_become dr a1 (a2, a3, a4)).1, (v_X4_become dr a1 (a2, a3, a4)).2, 0) from by unfold v_X4_date; rw [if_neg c2, if_neg c6, if_neg c11, if_pos s13])
          exact rt_i X hr (ad15, mg g ad15 y cr (v_X4_become dr a1 (a2, a3, a4)).2 0 kn rf pl pz mc) B (PO_of B) ⟨kk17, by rw [ev], by rw [ev]⟩ rfl (Nat.le_of_ble_eq_true rfl) (Nat.le_of_ble_eq_true rfl) dX4_date_87
        · have s13x : (v_X4_isNone a1) = 1 := (b01_X4_isNone).resolve_left s13
          rw [s13x]
          refine k_i (k := 0) (n := 0) hA B (b_V (q := 24) (rest := []) hb0 X (c_X4_stops l g N ad y cr dr th kn rf pl pz mc (by omega) b0 hb0 1 0 H.size) mw_X4_stops md_X4_stops rfl lk_X4_99 ⟨Nat.le_of_ble_eq_true rfl, Nat.le_of_ble_eq_true rfl⟩ hA hK hT B (by omega) mg_24 rfl rfl hl.1 rfl (Nat.le_of_ble_eq_true rfl) dX4_date_56 ⟨Nat.le_of_ble_eq_true rfl, Nat.le_of_ble_eq_true rfl⟩) (Nat.le_of_ble_eq_true rfl) (Nat.le_of_ble_eq_true rfl) (fun r ad' f' H locs hw B => ?_)
          rw [st_10] at hw
          dsimp only at hw
          obtain ⟨rfl, rfl, rfl⟩ := hw
          have B : WB g (aw N ad sz) s.heap N ad (mg g ad y cr dr 1 kn rf pl pz mc) H locs := B
          refine lv_if_eq (tgt := 66) hx hb dX4_date_59 (by decide) (fun z => absurd z (by decide)) (fun _ => ?_)
          refine lv_iconst (v := 0) hx hb dX4_date_62 (by decide) ?_
          refine lv_goto (tgt := 87) hx hb dX4_date_63 (by decide) ?_
          have ev := (show v_X4_date dr a1 a2 a3 a4 = (0, dr, 1) from by unfold v_X4_date; rw [if_neg c2, if_neg c6, if_neg c11, if_neg s13])
          exact rt_i X hr (ad, mg g ad y cr dr 1 kn rf pl pz mc) B (PO_of B) ⟨(fun _ _ _ => rfl), by rw [ev], by rw [ev]⟩ rfl (Nat.le_of_ble_eq_true rfl) (Nat.le_of_ble_eq_true rfl) dX4_date_87
      · refine lv_iconst (v := 1) hx hb dX4_date_42 (by decide) ?_
        refine lv_goto (tgt := 47) hx hb dX4_date_43 (by decide) ?_
        refine lv_istore (lv' := [(5, .int 1), (0, .ref b0), (1, .int a1), (2, .int a2), (3, .int a3), (4, .int a4)]) hx hb dX4_date_47 hl (by decide) rfl (fun ls hl => ?_)
        refine lv_aload_n hx hb dX4_date_49 rfl (lv_at hl 1 rfl) ?_
        refine lv_iload_n hx hb dX4_date_50 rfl (lv_at hl 2 rfl) ?_
        refine k_i (k := 0) (n := 0) hA B (u_S (rest := [.ref b0]) X (c_X4_isNone l g N ad (mg g ad y cr dr th kn rf pl pz mc) a1 H.size) mw_X4_isNone md_X4_isNone rfl lk_X4_95 ⟨Nat.le_of_ble_eq_true rfl, Nat.le_of_ble_eq_true rfl⟩ hA hK hT B hl.1 rfl (Nat.le_of_ble_eq_true rfl) dX4_date_51 ⟨Nat.le_of_ble_eq_true rfl, Nat.le_of_ble_eq_true rfl⟩) (Nat.le_of_ble_eq_true rfl) (Nat.le_of_ble_eq_true rfl) (fun r19 ad19 f' H locs hw B => ?_)
        obtain ⟨rfl, rfl, rfl⟩ := hw
        refine lv_iload hx hb dX4_date_54 (lv_at hl 0 rfl) ?_
        by_cases s20 : v_X4_isNone a1 = 0
        · rw [s20]
          refine k_i (k := 0) (n := 0) hA B (b_V (q := 24) (rest := []) hb0 X (c_X4_stops l g N ad y cr dr th kn rf pl pz mc (by omega) b0 hb0 0 1 H.size) mw_X4_stops md_X4_stops rfl lk_X4_99 ⟨Nat.le_of_ble_eq_true rfl, Nat.le_of_ble_eq_true rfl⟩ hA hK hT B (by omega) mg_24 rfl rfl hl.1 rfl (Nat.le_of_ble_eq_true rfl) dX4_date_56 ⟨Nat.le_of_ble_eq_true rfl, Nat.le_of_ble_eq_true rfl⟩) (Nat.le_of_ble_eq_true rfl) (Nat.le_of_ble_eq_true rfl) (fun r ad' f' H locs hw B => ?_)
          rw [st_01] at hw
          dsimp only at hw
          obtain ⟨rfl, rfl, rfl⟩ := hw
          have B : WB g (aw N ad sz) s.heap N ad (mg g ad y cr dr 2 kn rf pl pz mc) H locs := B
          refine lv_if_eq (tgt := 66) hx hb dX4_date_59 (by decide) (fun z => absurd z (by decide)) (fun _ => ?_)
          refine lv_iconst (v := 0) hx hb dX4_date_62 (by decide) ?_
          refine lv_goto (tgt := 87) hx hb dX4_date_63 (by decide) ?_
          have ev := (show v_X4_date dr a1 a2 a3 a4 = (0, dr, 2) from by unfold v_X4_date; rw [if_neg c2, if_neg c6, if_pos c11, if_pos s20])
          exact rt_i X hr (ad, mg g ad y cr dr 2 kn rf pl pz mc) B (PO_of B) ⟨(fun _ _ _ => rfl), by rw [ev], by rw [ev]⟩ rfl (Nat.le_of_ble_eq_true rfl) (Nat.le_of_ble_eq_true rfl) dX4_date_87
        · have s20x : (v_X4_isNone a1) = 1 := (b01_X4_isNone).resolve_left s20
          rw [s20x]
          refine k_i (k := 0) (n := 0) hA B (b_V (q := 24) (rest := []) hb0 X (c_X4_stops l g N ad y cr dr th kn rf pl pz mc (by omega) b0 hb0 1 1 H.size) mw_X4_stops md_X4_stops rfl lk_X4_99 ⟨Nat.le_of_ble_eq_true rfl, Nat.le_of_ble_eq_true rfl⟩ hA hK hT B (by omega) mg_24 rfl rfl hl.1 rfl (Nat.le_of_ble_eq_true rfl) dX4_date_56 ⟨Nat.le_of_ble_eq_true rfl, Nat.le_of_ble_eq_true rfl⟩) (Nat.le_of_ble_eq_true rfl) (Nat.le_of_ble_eq_true rfl) (fun r ad' f' H locs hw B => ?_)
          rw [st_11] at hw
          dsimp only at hw
          obtain ⟨rfl, rfl, rfl⟩ := hw
          have B : WB g (aw N ad sz) s.heap N ad (mg g ad y cr dr 1 kn rf pl pz mc) H locs := B
          refine lv_if_eq (tgt := 66) hx hb dX4_date_59 (by decide) (fun z => absurd z (by decide)) (fun _ => ?_)
          refine lv_iconst (v := 0) hx hb dX4_date_62 (by decide) ?_
          refine lv_goto (tgt := 87) hx hb dX4_date_63 (by decide) ?_
          have ev := (show v_X4_date dr a1 a2 a3 a4 = (0, dr, 1) from by unfold v_X4_date; rw [if_neg c2, if_neg c6, if_pos c11, if_neg s20])
          exact rt_i X hr (ad, mg g ad y cr dr 1 kn rf pl pz mc) B (PO_of B) ⟨(fun _ _ _ => rfl), by rw [ev], by rw [ev]⟩ rfl (Nat.le_of_ble_eq_true rfl) (Nat.le_of_ble_eq_true rfl) dX4_date_87
def v_X4_copyDate (dr : Nat → TR) (a1 : Int32) (a2 : Int32) : Int32 × (Nat → TR) × Int32 := if (v_X4_isNone a1) = 0 then (if (v_X4_isNone a2) = 0 then ((v_X4_become dr a1 (dr a2.toNatClampNeg)).1, (v_X4_become dr a1 (dr a2.toNatClampNeg)).2, 0) else (0, dr, 1)) else (0, dr, 1)
set_option maxHeartbeats 4000000 in
set_option maxRecDepth 100000 in
theorem c_X4_copyDate (l : Launch) (g : GG) (N : Nat) (ad : Nat → Nat) (y : Nat → va_E) (cr dr : Nat → TR) (th kn rf : Int32) (pl : Nat → TR) (pz : Nat) (mc : Int32) (hN : 36 + pz ≤ N) (b0 : Nat) (hb0 : ad 24 = b0) (a1 : Int32) (a2 : Int32) (hdr : ∀ i, i < 4 → okd (dr i)) : KI l yX4_copyDate cX4_copyDate 3 (some .int) (rm 4 1 3) g [.ref b0, .int a1, .int a2] N ad (mg g ad y cr dr th kn rf pl pz mc) N (fun r ad' f' => (∀ k, k < N → k < 28 ∨ 36 ≤ k → ad' k = ad k) ∧ (v_X4_copyDate dr a1 a2).1 = r ∧ mg g ad' y cr (v_X4_copyDate dr a1 a2).2.1 (v_X4_copyDate dr a1 a2).2.2 kn rf pl pz mc = f') := by
  intro sz
  refine mt_start (by decide) (Nat.le_of_ble_eq_true rfl) ?_
  intro p e s m args below meth c hsz X hr hnam hA hK hT H locs B ls hl
  obtain ⟨hx, hb, hml, hown, hts, hlocks⟩ := id X
  have hl : lv_has ls 3 [(0, .ref b0), (1, .int a1), (2, .int a2)] := hl
  refine lv_aload_n hx hb dX4_copyDate_0 rfl (lv_at hl 0 rfl) ?_
  refine lv_iload_n hx hb dX4_copyDate_1 rfl (lv_at hl 1 rfl) ?_
  refine k_i (k := 0) (n := 0) hA B (u_S (rest := [.ref b0]) X (c_X4_isNone l g N ad (mg g ad y cr dr th kn rf pl pz mc) a1 H.size) mw_X4_isNone md_X4_isNone rfl lk_X4_95 ⟨Nat.le_of_ble_eq_true rfl, Nat.le_of_ble_eq_true rfl⟩ hA hK hT B hl.1 rfl (Nat.le_of_ble_eq_true rfl) dX4_copyDate_2 ⟨Nat.le_of_ble_eq_true rfl, Nat.le_of_ble_eq_true rfl⟩) (Nat.le_of_ble_eq_true rfl) (Nat.le_of_ble_eq_true rfl) (fun r1 ad1 f' H locs hw B => ?_)
  obtain ⟨rfl, rfl, rfl⟩ := hw
  refine lv_if_ne (tgt := 15) hx hb dX4_copyDate_5 (by decide) (fun c2 => ?_) (fun c2 => ?_)
  · refine lv_iconst (v := 1) hx hb dX4_copyDate_15 (by decide) ?_
    refine lv_goto (tgt := 20) hx hb dX4_copyDate_16 (by decide) ?_
    refine lv_iconst (v := 0) hx hb dX4_copyDate_20 (by decide) ?_
    refine k_i (k := 0) (n := 0) hA B (b_V (q := 24) (rest := []) hb0 X (c_X4_stops l g N ad y cr dr th kn rf pl pz mc (by omega) b0 hb0 1 0 H.size) mw_X4_stops md_X4_stops rfl lk_X4_99 ⟨Nat.le_of_ble_eq_true rfl, Nat.le_of_ble_eq_true rfl⟩ hA hK hT B (by omega) mg_24 rfl rfl hl.1 rfl (Nat.le_of_ble_eq_true rfl) dX4_copyDate_21 ⟨Nat.le_of_ble_eq_true rfl, Nat.le_of_ble_eq_true rfl⟩) (Nat.le_of_ble_eq_true rfl) (Nat.le_of_ble_eq_true rfl) (fun r ad' f' H locs hw B => ?_)
    rw [st_10] at hw
    dsimp only at hw
    obtain ⟨rfl, rfl, rfl⟩ := hw
    have B : WB g (aw N ad sz) s.heap N ad (mg g ad y cr dr 1 kn rf pl pz mc) H locs := B
    refine lv_if_eq (tgt := 31) hx hb dX4_copyDate_24 (by decide) (fun z => absurd z (by decide)) (fun _ => ?_)
    refine lv_iconst (v := 0) hx hb dX4_copyDate_27 (by decide) ?_
    refine lv_goto (tgt := 42) hx hb dX4_copyDate_28 (by decide) ?_
    have ev := (show v_X4_copyDate dr a1 a2 = (0, dr, 1) from by unfold v_X4_copyDate; rw [if_neg c2])
    exact rt_i X hr (ad, mg g ad y cr dr 1 kn rf pl pz mc) B (PO_of B) ⟨(fun _ _ _ => rfl), by rw [ev], by rw [ev]⟩ rfl (Nat.le_of_ble_eq_true rfl) (Nat.le_of_ble_eq_true rfl) dX4_copyDate_42
  · refine lv_iload_n hx hb dX4_copyDate_8 rfl (lv_at hl 2 rfl) ?_
    refine k_i (k := 0) (n := 0) hA B (u_S (rest := [.ref b0]) X (c_X4_isNone l g N ad (mg g ad y cr dr th kn rf pl pz mc) a2 H.size) mw_X4_isNone md_X4_isNone rfl lk_X4_95 ⟨Nat.le_of_ble_eq_true rfl, Nat.le_of_ble_eq_true rfl⟩ hA hK hT B hl.1 rfl (Nat.le_of_ble_eq_true rfl) dX4_copyDate_9 ⟨Nat.le_of_ble_eq_true rfl, Nat.le_of_ble_eq_true rfl⟩) (Nat.le_of_ble_eq_true rfl) (Nat.le_of_ble_eq_true rfl) (fun r3 ad3 f' H locs hw B => ?_)
    obtain ⟨rfl, rfl, rfl⟩ := hw
    refine lv_if_eq (tgt := 19) hx hb dX4_copyDate_12 (by decide) (fun c4 => ?_) (fun c4 => ?_)
    · refine lv_iconst (v := 0) hx hb dX4_copyDate_19 (by decide) ?_
      refine lv_iconst (v := 0) hx hb dX4_copyDate_20 (by decide) ?_
      refine k_i (k := 0) (n := 0) hA B (b_V (q := 24) (rest := []) hb0 X (c_X4_stops l g N ad y cr dr th kn rf pl pz mc (by omega) b0 hb0 0 0 H.size) mw_X4_stops md_X4_stops rfl lk_X4_99 ⟨Nat.le_of_ble_eq_true rfl, Nat.le_of_ble_eq_true rfl⟩ hA hK hT B (by omega) mg_24 rfl rfl hl.1 rfl (Nat.le_of_ble_eq_true rfl) dX4_copyDate_21 ⟨Nat.le_of_ble_eq_true rfl, Nat.le_of_ble_eq_true rfl⟩) (Nat.le_of_ble_eq_true rfl) (Nat.le_of_ble_eq_true rfl) (fun r ad' f' H locs hw B => ?_)
      rw [st_00] at hw
      dsimp only at hw
      obtain ⟨rfl, rfl, rfl⟩ := hw
      have B : WB g (aw N ad sz) s.heap N ad (mg g ad y cr dr 0 kn rf pl pz mc) H locs := B
      refine lv_if_eq (tgt := 31) hx hb dX4_copyDate_24 (by decide) (fun _ => ?_) (fun z => absurd z (by decide))
      refine lv_aload_n hx hb dX4_copyDate_31 rfl (lv_at hl 0 rfl) ?_
      refine lv_iload_n hx hb dX4_copyDate_32 rfl (lv_at hl 1 rfl) ?_
      refine lv_aload_n hx hb dX4_copyDate_33 rfl (lv_at hl 0 rfl) ?_
      refine b_get (q := 24) (k := 3) hb0 X hK B rfl in_X4 (by omega) mg_24 (by decide) lk_X4_23 rfl rfl dX4_copyDate_34 ?_
      refine lv_iload_n hx hb dX4_copyDate_37 rfl (lv_at hl 2 rfl) ?_
      refine b_aald (q := 26) (t0 := 2) (v := ad (32 + a2.toNatClampNeg)) rfl X hK B (by omega) mg_26 rfl rfl (no_in c4) rfl dX4_copyDate_38 ?_
      have g5 : a2.toNatClampNeg < 4 := (no_lt c4)
      refine k_i (k := 1) (n := 3) hA B (b_V (q := 24) (rest := []) hb0 X (c_X4_become l g N ad y cr dr 0 kn rf pl pz mc (by omega) b0 hb0 a1 (32 + a2.toNatClampNeg) (ad (32 + a2.toNatClampNeg)) (dr a2.toNatClampNeg) (pl_dr hN g5) rfl (mg_dr g5) c2 hdr (okd_mo (hdr _ g5)) H.size) mw_X4_become md_X4_become rfl lk_X4_212 ⟨Nat.le_of_ble_eq_true rfl, Nat.le_of_ble_eq_true rfl⟩ hA hK hT B (by omega) mg_24 rfl rfl hl.1 rfl (Nat.le_of_ble_eq_true rfl) dX4_copyDate_39 ⟨Nat.le_of_ble_eq_true rfl, Nat.le_of_ble_eq_true rfl⟩) (Nat.le_of_ble_eq_true rfl) (Nat.le_of_ble_eq_true rfl) (fun r6 ad6 f' H locs hw B => ?_)
      dsimp only at hw
      obtain ⟨mv7, rfl, rfl⟩ := hw
      have kk8 : ∀ k, k < N → k < 28 ∨ 36 ≤ k → ad6 k = ad k := fun k hk hkq => (mv7 k (by omega) hkq).trans (rfl.trans rfl)
      have nb9 : ad6 24 = b0 := (mv7 24 (by omega) (Or.inl (by decide))).trans hb0
      have ev := (show v_X4_copyDate dr a1 a2 = ((v_X4_become dr a1 (dr a2.toNatClampNeg)).1, (v_X4_become dr a1 (dr a2.toNatClampNeg)).2, 0) from by unfold v_X4_copyDate; rw [if_pos c2, if_pos c4])
      exact rt_i X hr (ad6, mg g ad6 y cr (v_X4_become dr a1 (dr a2.toNatClampNeg)).2 0 kn rf pl pz mc) B (PO_of B) ⟨kk8, by rw [ev], by rw [ev]⟩ rfl (Nat.le_of_ble_eq_true rfl) (Nat.le_of_ble_eq_true rfl) dX4_copyDate_42
    · refine lv_iconst (v := 1) hx hb dX4_copyDate_15 (by decide) ?_
      refine lv_goto (tgt := 20) hx hb dX4_copyDate_16 (by decide) ?_
      refine lv_iconst (v := 0) hx hb dX4_copyDate_20 (by decide) ?_
      refine k_i (k := 0) (n := 0) hA B (b_V (q := 24) (rest := []) hb0 X (c_X4_stops l g N ad y cr dr th kn rf pl pz mc (by omega) b0 hb0 1 0 H.size) mw_X4_stops md_X4_stops rfl lk_X4_99 ⟨Nat.le_of_ble_eq_true rfl, Nat.le_of_ble_eq_true rfl⟩ hA hK hT B (by omega) mg_24 rfl rfl hl.1 rfl (Nat.le_of_ble_eq_true rfl) dX4_copyDate_21 ⟨Nat.le_of_ble_eq_true rfl, Nat.le_of_ble_eq_true rfl⟩) (Nat.le_of_ble_eq_true rfl) (Nat.le_of_ble_eq_true rfl) (fun r ad' f' H locs hw B => ?_)
      rw [st_10] at hw
      dsimp only at hw
      obtain ⟨rfl, rfl, rfl⟩ := hw
      have B : WB g (aw N ad sz) s.heap N ad (mg g ad y cr dr 1 kn rf pl pz mc) H locs := B
      refine lv_if_eq (tgt := 31) hx hb dX4_copyDate_24 (by decide) (fun z => absurd z (by decide)) (fun _ => ?_)
      refine lv_iconst (v := 0) hx hb dX4_copyDate_27 (by decide) ?_
      refine lv_goto (tgt := 42) hx hb dX4_copyDate_28 (by decide) ?_
      have ev := (show v_X4_copyDate dr a1 a2 = (0, dr, 1) from by unfold v_X4_copyDate; rw [if_pos c2, if_neg c4])
      exact rt_i X hr (ad, mg g ad y cr dr 1 kn rf pl pz mc) B (PO_of B) ⟨(fun _ _ _ => rfl), by rw [ev], by rw [ev]⟩ rfl (Nat.le_of_ble_eq_true rfl) (Nat.le_of_ble_eq_true rfl) dX4_copyDate_42
def v_X4_move (cr : Nat → TR) (dr : Nat → TR) (rf : Int32) (a1 : Int32) (a2 : Int32) : Int32 × (Nat → TR) × Int32 × Int32 := if (v_X4_isNone a1) = 0 then (if (v_X4_isNone a2) = 0 then (om (v_X4_onBy (dr a1.toNatClampNeg) (cr a2.toNatClampNeg) 1) ((v_X4_becomeN rf).1, dr, 0, (v_X4_becomeN rf).2) (fun t8 => ((v_X4_become dr a1 t8).1, (v_X4_become dr a1 t8).2, 0, rf))) else (0, dr, 1, rf)) else (0, dr, 1, rf)
set_option maxHeartbeats 4000000 in
set_option maxRecDepth 100000 in
theorem c_X4_move (l : Launch) (g : GG) (N : Nat) (ad : Nat → Nat) (y : Nat → va_E) (cr dr : Nat → TR) (th kn rf : Int32) (pl : Nat → TR) (pz : Nat) (mc : Int32) (hN : 36 + pz ≤ N) (b0 : Nat) (hb0 : ad 24 = b0) (a1 : Int32) (a2 : Int32) (hdr : ∀ i, i < 4 → okd (dr i)) : KI l yX4_move cX4_move 3 (some .int) (rm 4 3 9) g [.ref b0, .int a1, .int a2] N ad (mg g ad y cr dr th kn rf pl pz mc) N (fun r ad' f' => (∀ k, k < N → k < 28 ∨ 36 ≤ k → ad' k = ad k) ∧ (v_X4_move cr dr rf a1 a2).1 = r ∧ mg g ad' y cr (v_X4_move cr dr rf a1 a2).2.1 (v_X4_move cr dr rf a1 a2).2.2.1 kn (v_X4_move cr dr rf a1 a2).2.2.2 pl pz mc = f') := by
  intro sz
  refine mt_start (by decide) (Nat.le_of_ble_eq_true rfl) ?_
  intro p e s m args below meth c hsz X hr hnam hA hK hT H locs B ls hl
  obtain ⟨hx, hb, hml, hown, hts, hlocks⟩ := id X
  have hl : lv_has ls 3 [(0, .ref b0), (1, .int a1), (2, .int a2)] := hl
  refine lv_aload_n hx hb dX4_move_0 rfl (lv_at hl 0 rfl) ?_
  refine lv_iload_n hx hb dX4_move_1 rfl (lv_at hl 1 rfl) ?_
  refine k_i (k := 0) (n := 0) hA B (u_S (rest := [.ref b0]) X (c_X4_isNone l g N ad (mg g ad y cr dr th kn rf pl pz mc) a1 H.size) mw_X4_isNone md_X4_isNone rfl lk_X4_95 ⟨Nat.le_of_ble_eq_true rfl, Nat.le_of_ble_eq_true rfl⟩ hA hK hT B hl.1 rfl (Nat.le_of_ble_eq_true rfl) dX4_move_2 ⟨Nat.le_of_ble_eq_true rfl, Nat.le_of_ble_eq_true rfl⟩) (Nat.le_of_ble_eq_true rfl) (Nat.le_of_ble_eq_true rfl) (fun r1 ad1 f' H locs hw B => ?_)
  obtain ⟨rfl, rfl, rfl⟩ := hw
  refine lv_if_ne (tgt := 15) hx hb dX4_move_5 (by decide) (fun c2 => ?_) (fun c2 => ?_)
  · refine lv_iconst (v := 1) hx hb dX4_move_15 (by decide) ?_
    refine lv_goto (tgt := 20) hx hb dX4_move_16 (by decide) ?_
    refine lv_iconst (v := 0) hx hb dX4_move_20 (by decide) ?_
    refine k_i (k := 0) (n := 0) hA B (b_V (q := 24) (rest := []) hb0 X (c_X4_stops l g N ad y cr dr th kn rf pl pz mc (by omega) b0 hb0 1 0 H.size) mw_X4_stops md_X4_stops rfl lk_X4_99 ⟨Nat.le_of_ble_eq_true rfl, Nat.le_of_ble_eq_true rfl⟩ hA hK hT B (by omega) mg_24 rfl rfl hl.1 rfl (Nat.le_of_ble_eq_true rfl) dX4_move_21 ⟨Nat.le_of_ble_eq_true rfl, Nat.le_of_ble_eq_true rfl⟩) (Nat.le_of_ble_eq_true rfl) (Nat.le_of_ble_eq_true rfl) (fun r ad' f' H locs hw B => ?_)
    rw [st_10] at hw
    dsimp only at hw
    obtain ⟨rfl, rfl, rfl⟩ := hw
    have B : WB g (aw N ad sz) s.heap N ad (mg g ad y cr dr 1 kn rf pl pz mc) H locs := B
    refine lv_if_eq (tgt := 31) hx hb dX4_move_24 (by decide) (fun z => absurd z (by decide)) (fun _ => ?_)
    refine lv_iconst (v := 0) hx hb dX4_move_27 (by decide) ?_
    refine lv_goto (tgt := 52) hx hb dX4_move_28 (by decide) ?_
    have ev := (show v_X4_move cr dr rf a1 a2 = (0, dr, 1, rf) from by unfold v_X4_move; rw [if_neg c2])
    exact rt_i X hr (ad, mg g ad y cr dr 1 kn rf pl pz mc) B (PO_of B) ⟨(fun _ _ _ => rfl), by rw [ev], by rw [ev]⟩ rfl (Nat.le_of_ble_eq_true rfl) (Nat.le_of_ble_eq_true rfl) dX4_move_52
  · refine lv_iload_n hx hb dX4_move_8 rfl (lv_at hl 2 rfl) ?_
    refine k_i (k := 0) (n := 0) hA B (u_S (rest := [.ref b0]) X (c_X4_isNone l g N ad (mg g ad y cr dr th kn rf pl pz mc) a2 H.size) mw_X4_isNone md_X4_isNone rfl lk_X4_95 ⟨Nat.le_of_ble_eq_true rfl, Nat.le_of_ble_eq_true rfl⟩ hA hK hT B hl.1 rfl (Nat.le_of_ble_eq_true rfl) dX4_move_9 ⟨Nat.le_of_ble_eq_true rfl, Nat.le_of_ble_eq_true rfl⟩) (Nat.le_of_ble_eq_true rfl) (Nat.le_of_ble_eq_true rfl) (fun r3 ad3 f' H locs hw B => ?_)
    obtain ⟨rfl, rfl, rfl⟩ := hw
    refine lv_if_eq (tgt := 19) hx hb dX4_move_12 (by decide) (fun c4 => ?_) (fun c4 => ?_)
    · refine lv_iconst (v := 0) hx hb dX4_move_19 (by decide) ?_
      refine lv_iconst (v := 0) hx hb dX4_move_20 (by decide) ?_
      refine k_i (k := 0) (n := 0) hA B (b_V (q := 24) (rest := []) hb0 X (c_X4_stops l g N ad y cr dr th kn rf pl pz mc (by omega) b0 hb0 0 0 H.size) mw_X4_stops md_X4_stops rfl lk_X4_99 ⟨Nat.le_of_ble_eq_true rfl, Nat.le_of_ble_eq_true rfl⟩ hA hK hT B (by omega) mg_24 rfl rfl hl.1 rfl (Nat.le_of_ble_eq_true rfl) dX4_move_21 ⟨Nat.le_of_ble_eq_true rfl, Nat.le_of_ble_eq_true rfl⟩) (Nat.le_of_ble_eq_true rfl) (Nat.le_of_ble_eq_true rfl) (fun r ad' f' H locs hw B => ?_)
      rw [st_00] at hw
      dsimp only at hw
      obtain ⟨rfl, rfl, rfl⟩ := hw
      have B : WB g (aw N ad sz) s.heap N ad (mg g ad y cr dr 0 kn rf pl pz mc) H locs := B
      refine lv_if_eq (tgt := 31) hx hb dX4_move_24 (by decide) (fun _ => ?_) (fun z => absurd z (by decide))
      refine lv_aload_n hx hb dX4_move_31 rfl (lv_at hl 0 rfl) ?_
      refine lv_iload_n hx hb dX4_move_32 rfl (lv_at hl 1 rfl) ?_
      refine lv_aload_n hx hb dX4_move_33 rfl (lv_at hl 0 rfl) ?_
      refine b_get (q := 24) (k := 3) hb0 X hK B rfl in_X4 (by omega) mg_24 (by decide) lk_X4_23 rfl rfl dX4_move_34 ?_
      refine lv_iload_n hx hb dX4_move_37 rfl (lv_at hl 1 rfl) ?_
      refine b_aald (q := 26) (t0 := 2) (v := ad (32 + a1.toNatClampNeg)) rfl X hK B (by omega) mg_26 rfl rfl (no_in c2) rfl dX4_move_38 ?_
      have g5 : a1.toNatClampNeg < 4 := (no_lt c2)
      refine lv_aload_n hx hb dX4_move_39 rfl (lv_at hl 0 rfl) ?_
      refine b_get (q := 24) (k := 1) hb0 X hK B rfl in_X4 (by omega) mg_24 (by decide) lk_X4_11 rfl rfl dX4_move_40 ?_
      refine lv_iload_n hx hb dX4_move_43 rfl (lv_at hl 2 rfl) ?_
      refine b_aald (q := 25) (t0 := 2) (v := ad (28 + a2.toNatClampNeg)) rfl X hK B (by omega) mg_25 rfl rfl (no_in c4) rfl dX4_move_44 ?_
      have g6 : a2.toNatClampNeg < 4 := (no_lt c4)
      refine lv_iconst (v := 1) hx hb dX4_move_45 (by decide) ?_
      refine k_r (k := 2) (n := 6) hA B (u_S (rest := [.int a1, .ref b0]) X (c_X4_onBy l g N ad (mg g ad y cr dr 0 kn rf pl pz mc) (32 + a1.toNatClampNeg) (ad (32 + a1.toNatClampNeg)) (dr a1.toNatClampNeg) (pl_dr hN g5) rfl (mg_dr g5) (28 + a2.toNatClampNeg) (ad (28 + a2.toNatClampNeg)) (cr a2.toNatClampNeg) (pl_cr hN g6) rfl (mg_cr g6) 1 H.size) mw_X4_onBy md_X4_onBy rfl lk_X4_215 ⟨Nat.le_of_ble_eq_true rfl, Nat.le_of_ble_eq_true rfl⟩ hA hK hT B hl.1 rfl (Nat.le_of_ble_eq_true rfl) dX4_move_46 ⟨Nat.le_of_ble_eq_true rfl, Nat.le_of_ble_eq_true rfl⟩) (Nat.le_of_ble_eq_true rfl) (Nat.le_of_ble_eq_true rfl) (fun r7 ad7 f' H locs hw B => ?_)
      generalize o8 : (v_X4_onBy (dr a1.toNatClampNeg) (cr a2.toNatClampNeg) 1) = v9 at hw B
      cases v9 with
      | none =>
        obtain ⟨rfl, rfl, rfl⟩ := pw_n hw
        refine k_i (k := 2) (n := 6) hA B (b_V (q := 24) (rest := []) hb0 X (c_X4_becomeN l g N ad y cr dr 0 kn rf pl pz mc (by omega) b0 hb0 a1 H.size) mw_X4_become md_X4_become rfl lk_X4_212 ⟨Nat.le_of_ble_eq_true rfl, Nat.le_of_ble_eq_true rfl⟩ hA hK hT B (by omega) mg_24 rfl rfl hl.1 rfl (Nat.le_of_ble_eq_true rfl) dX4_move_49 ⟨Nat.le_of_ble_eq_true rfl, Nat.le_of_ble_eq_true rfl⟩) (Nat.le_of_ble_eq_true rfl) (Nat.le_of_ble_eq_true rfl) (fun r9 ad9 f' H locs hw B => ?_)
        obtain ⟨rfl, rfl, rfl⟩ := hw
        have ev := (show v_X4_move cr dr rf a1 a2 = ((v_X4_becomeN rf).1, dr, 0, (v_X4_becomeN rf).2) from by unfold v_X4_move; rw [if_pos c2, if_pos c4, om_none o8])
        exact rt_i X hr (ad, mg g ad y cr dr 0 kn (v_X4_becomeN rf).2 pl pz mc) B (PO_of B) ⟨(fun _ _ _ => rfl), by rw [ev], by rw [ev]⟩ rfl (Nat.le_of_ble_eq_true rfl) (Nat.le_of_ble_eq_true rfl) dX4_move_52
      | some t8 =>
        obtain ⟨z8, rfl, rfl, rfl⟩ := pw_s hw
        have B : WB g (aw N ad sz) s.heap (N + 1) (va_up ad N z8) (mg g (va_up ad N z8) (va_up y N (c_row g t8)) cr dr 0 kn rf pl pz mc) H locs := WM_push (by omega) B
        refine k_i (k := 3) (n := 9) hA B (b_V (q := 24) (rest := []) ((up_lt (by omega)).trans hb0) X (c_X4_become l g (N + 1) (va_up ad N z8) (va_up y N (c_row g t8)) cr dr 0 kn rf pl pz mc (by omega) b0 ((up_lt (by omega)).trans hb0) a1 N z8 t8 (Nat.lt_succ_self _) up_eq ((mg_hi (by omega)).trans up_eq) c2 hdr (okd_mo (onBy_okd o8)) H.size) mw_X4_become md_X4_become rfl lk_X4_212 ⟨Nat.le_of_ble_eq_true rfl, Nat.le_of_ble_eq_true rfl⟩ hA hK hT B (by omega) mg_24 rfl rfl hl.1 rfl (Nat.le_of_ble_eq_true rfl) dX4_move_49 ⟨Nat.le_of_ble_eq_true rfl, Nat.le_of_ble_eq_true rfl⟩) (Nat.le_of_ble_eq_true rfl) (Nat.le_of_ble_eq_true rfl) (fun r10 ad10 f' H locs hw B => ?_)
        dsimp only at hw
        obtain ⟨mv11, rfl, rfl⟩ := hw
        have B : WB g (aw N ad sz) s.heap N ad10 (mg g ad10 y cr (v_X4_become dr a1 t8).2 0 kn rf pl pz mc) H locs := WM_drop B (by omega) (by omega) (fun _ _ => rfl) (fun _ hk => (up_lt hk))
        have kk12 : ∀ k, k < N → k < 28 ∨ 36 ≤ k → ad10 k = ad k := fun k hk hkq => (mv11 k (by omega) hkq).trans (((fun _ hk => (up_lt hk)) k hk).trans rfl)
        have nb13 : ad10 24 = b0 := (mv11 24 (by omega) (Or.inl (by decide))).trans ((up_lt (by omega)).trans hb0)
        have ev := (show v_X4_move cr dr rf a1 a2 = ((v_X4_become dr a1 t8).1, (v_X4_become dr a1 t8).2, 0, rf) from by unfold v_X4_move; rw [if_pos c2, if_pos c4, om_some o8])
        exact rt_i X hr (ad10, mg g ad10 y cr (v_X4_become dr a1 t8).2 0 kn rf pl pz mc) B (PO_of B) ⟨kk12, by rw [ev], by rw [ev]⟩ rfl (Nat.le_of_ble_eq_true rfl) (Nat.le_of_ble_eq_true rfl) dX4_move_52
    · refine lv_iconst (v := 1) hx hb dX4_move_15 (by decide) ?_
      refine lv_goto (tgt := 20) hx hb dX4_move_16 (by decide) ?_
      refine lv_iconst (v := 0) hx hb dX4_move_20 (by decide) ?_
      refine k_i (k := 0) (n := 0) hA B (b_V (q := 24) (rest := []) hb0 X (c_X4_stops l g N ad y cr dr th kn rf pl pz mc (by omega) b0 hb0 1 0 H.size) mw_X4_stops md_X4_stops rfl lk_X4_99 ⟨Nat.le_of_ble_eq_true rfl, Nat.le_of_ble_eq_true rfl⟩ hA hK hT B (by omega) mg_24 rfl rfl hl.1 rfl (Nat.le_of_ble_eq_true rfl) dX4_move_21 ⟨Nat.le_of_ble_eq_true rfl, Nat.le_of_ble_eq_true rfl⟩) (Nat.le_of_ble_eq_true rfl) (Nat.le_of_ble_eq_true rfl) (fun r ad' f' H locs hw B => ?_)
      rw [st_10] at hw
      dsimp only at hw
      obtain ⟨rfl, rfl, rfl⟩ := hw
      have B : WB g (aw N ad sz) s.heap N ad (mg g ad y cr dr 1 kn rf pl pz mc) H locs := B
      refine lv_if_eq (tgt := 31) hx hb dX4_move_24 (by decide) (fun z => absurd z (by decide)) (fun _ => ?_)
      refine lv_iconst (v := 0) hx hb dX4_move_27 (by decide) ?_
      refine lv_goto (tgt := 52) hx hb dX4_move_28 (by decide) ?_
      have ev := (show v_X4_move cr dr rf a1 a2 = (0, dr, 1, rf) from by unfold v_X4_move; rw [if_pos c2, if_neg c4])
      exact rt_i X hr (ad, mg g ad y cr dr 1 kn rf pl pz mc) B (PO_of B) ⟨(fun _ _ _ => rfl), by rw [ev], by rw [ev]⟩ rfl (Nat.le_of_ble_eq_true rfl) (Nat.le_of_ble_eq_true rfl) dX4_move_52
def v_X4_back (cr : Nat → TR) (dr : Nat → TR) (rf : Int32) (a1 : Int32) (a2 : Int32) : Int32 × (Nat → TR) × Int32 × Int32 := if (v_X4_isNone a1) = 0 then (if (v_X4_isNone a2) = 0 then (om (v_X4_onBy (dr a1.toNatClampNeg) (cr a2.toNatClampNeg) (-1)) ((v_X4_becomeN rf).1, dr, 0, (v_X4_becomeN rf).2) (fun t8 => ((v_X4_become dr a1 t8).1, (v_X4_become dr a1 t8).2, 0, rf))) else (0, dr, 1, rf)) else (0, dr, 1, rf)
set_option maxHeartbeats 4000000 in
set_option maxRecDepth 100000 in
theorem c_X4_back (l : Launch) (g : GG) (N : Nat) (ad : Nat → Nat) (y : Nat → va_E) (cr dr : Nat → TR) (th kn rf : Int32) (pl : Nat → TR) (pz : Nat) (mc : Int32) (hN : 36 + pz ≤ N) (b0 : Nat) (hb0 : ad 24 = b0) (a1 : Int32) (a2 : Int32) (hdr : ∀ i, i < 4 → okd (dr i)) : KI l yX4_back cX4_back 3 (some .int) (rm 4 3 9) g [.ref b0, .int a1, .int a2] N ad (mg g ad y cr dr th kn rf pl pz mc) N (fun r ad' f' => (∀ k, k < N → k < 28 ∨ 36 ≤ k → ad' k = ad k) ∧ (v_X4_back cr dr rf a1 a2).1 = r ∧ mg g ad' y cr (v_X4_back cr dr rf a1 a2).2.1 (v_X4_back cr dr rf a1 a2).2.2.1 kn (v_X4_back cr dr rf a1 a2).2.2.2 pl pz mc = f') := by
  intro sz
  refine mt_start (by decide) (Nat.le_of_ble_eq_true rfl) ?_
  intro p e s m args below meth c hsz X hr hnam hA hK hT H locs B ls hl
  obtain ⟨hx, hb, hml, hown, hts, hlocks⟩ := id X
  have hl : lv_has ls 3 [(0, .ref b0), (1, .int a1), (2, .int a2)] := hl
  refine lv_aload_n hx hb dX4_back_0 rfl (lv_at hl 0 rfl) ?_
  refine lv_iload_n hx hb dX4_back_1 rfl (lv_at hl 1 rfl) ?_
  refine k_i (k := 0) (n := 0) hA B (u_S (rest := [.ref b0]) X (c_X4_isNone l g N ad (mg g ad y cr dr th kn rf pl pz mc) a1 H.size) mw_X4_isNone md_X4_isNone rfl lk_X4_95 ⟨Nat.le_of_ble_eq_true rfl, Nat.le_of_ble_eq_true rfl⟩ hA hK hT B hl.1 rfl (Nat.le_of_ble_eq_true rfl) dX4_back_2 ⟨Nat.le_of_ble_eq_true rfl, Nat.le_of_ble_eq_true rfl⟩) (Nat.le_of_ble_eq_true rfl) (Nat.le_of_ble_eq_true rfl) (fun r1 ad1 f' H locs hw B => ?_)
  obtain ⟨rfl, rfl, rfl⟩ := hw
  refine lv_if_ne (tgt := 15) hx hb dX4_back_5 (by decide) (fun c2 => ?_) (fun c2 => ?_)
  · refine lv_iconst (v := 1) hx hb dX4_back_15 (by decide) ?_
    refine lv_goto (tgt := 20) hx hb dX4_back_16 (by decide) ?_
    refine lv_iconst (v := 0) hx hb dX4_back_20 (by decide) ?_
    refine k_i (k := 0) (n := 0) hA B (b_V (q := 24) (rest := []) hb0 X (c_X4_stops l g N ad y cr dr th kn rf pl pz mc (by omega) b0 hb0 1 0 H.size) mw_X4_stops md_X4_stops rfl lk_X4_99 ⟨Nat.le_of_ble_eq_true rfl, Nat.le_of_ble_eq_true rfl⟩ hA hK hT B (by omega) mg_24 rfl rfl hl.1 rfl (Nat.le_of_ble_eq_true rfl) dX4_back_21 ⟨Nat.le_of_ble_eq_true rfl, Nat.le_of_ble_eq_true rfl⟩) (Nat.le_of_ble_eq_true rfl) (Nat.le_of_ble_eq_true rfl) (fun r ad' f' H locs hw B => ?_)
    rw [st_10] at hw
    dsimp only at hw
    obtain ⟨rfl, rfl, rfl⟩ := hw
    have B : WB g (aw N ad sz) s.heap N ad (mg g ad y cr dr 1 kn rf pl pz mc) H locs := B
    refine lv_if_eq (tgt := 31) hx hb dX4_back_24 (by decide) (fun z => absurd z (by decide)) (fun _ => ?_)
    refine lv_iconst (v := 0) hx hb dX4_back_27 (by decide) ?_
    refine lv_goto (tgt := 52) hx hb dX4_back_28 (by decide) ?_
    have ev := (show v_X4_back cr dr rf a1 a2 = (0, dr, 1, rf) from by unfold v_X4_back; rw [if_neg c2])
    exact rt_i X hr (ad, mg g ad y cr dr 1 kn rf pl pz mc) B (PO_of B) ⟨(fun _ _ _ => rfl), by rw [ev], by rw [ev]⟩ rfl (Nat.le_of_ble_eq_true rfl) (Nat.le_of_ble_eq_true rfl) dX4_back_52
  · refine lv_iload_n hx hb dX4_back_8 rfl (lv_at hl 2 rfl) ?_
    refine k_i (k := 0) (n := 0) hA B (u_S (rest := [.ref b0]) X (c_X4_isNone l g N ad (mg g ad y cr dr th kn rf pl pz mc) a2 H.size) mw_X4_isNone md_X4_isNone rfl lk_X4_95 ⟨Nat.le_of_ble_eq_true rfl, Nat.le_of_ble_eq_true rfl⟩ hA hK hT B hl.1 rfl (Nat.le_of_ble_eq_true rfl) dX4_back_9 ⟨Nat.le_of_ble_eq_true rfl, Nat.le_of_ble_eq_true rfl⟩) (Nat.le_of_ble_eq_true rfl) (Nat.le_of_ble_eq_true rfl) (fun r3 ad3 f' H locs hw B => ?_)
    obtain ⟨rfl, rfl, rfl⟩ := hw
    refine lv_if_eq (tgt := 19) hx hb dX4_back_12 (by decide) (fun c4 => ?_) (fun c4 => ?_)
    · refine lv_iconst (v := 0) hx hb dX4_back_19 (by decide) ?_
      refine lv_iconst (v := 0) hx hb dX4_back_20 (by decide) ?_
      refine k_i (k := 0) (n := 0) hA B (b_V (q := 24) (rest := []) hb0 X (c_X4_stops l g N ad y cr dr th kn rf pl pz mc (by omega) b0 hb0 0 0 H.size) mw_X4_stops md_X4_stops rfl lk_X4_99 ⟨Nat.le_of_ble_eq_true rfl, Nat.le_of_ble_eq_true rfl⟩ hA hK hT B (by omega) mg_24 rfl rfl hl.1 rfl (Nat.le_of_ble_eq_true rfl) dX4_back_21 ⟨Nat.le_of_ble_eq_true rfl, Nat.le_of_ble_eq_true rfl⟩) (Nat.le_of_ble_eq_true rfl) (Nat.le_of_ble_eq_true rfl) (fun r ad' f' H locs hw B => ?_)
      rw [st_00] at hw
      dsimp only at hw
      obtain ⟨rfl, rfl, rfl⟩ := hw
      have B : WB g (aw N ad sz) s.heap N ad (mg g ad y cr dr 0 kn rf pl pz mc) H locs := B
      refine lv_if_eq (tgt := 31) hx hb dX4_back_24 (by decide) (fun _ => ?_) (fun z => absurd z (by decide))
      refine lv_aload_n hx hb dX4_back_31 rfl (lv_at hl 0 rfl) ?_
      refine lv_iload_n hx hb dX4_back_32 rfl (lv_at hl 1 rfl) ?_
      refine lv_aload_n hx hb dX4_back_33 rfl (lv_at hl 0 rfl) ?_
      refine b_get (q := 24) (k := 3) hb0 X hK B rfl in_X4 (by omega) mg_24 (by decide) lk_X4_23 rfl rfl dX4_back_34 ?_
      refine lv_iload_n hx hb dX4_back_37 rfl (lv_at hl 1 rfl) ?_
      refine b_aald (q := 26) (t0 := 2) (v := ad (32 + a1.toNatClampNeg)) rfl X hK B (by omega) mg_26 rfl rfl (no_in c2) rfl dX4_back_38 ?_
      have g5 : a1.toNatClampNeg < 4 := (no_lt c2)
      refine lv_aload_n hx hb dX4_back_39 rfl (lv_at hl 0 rfl) ?_
      refine b_get (q := 24) (k := 1) hb0 X hK B rfl in_X4 (by omega) mg_24 (by decide) lk_X4_11 rfl rfl dX4_back_40 ?_
      refine lv_iload_n hx hb dX4_back_43 rfl (lv_at hl 2 rfl) ?_
      refine b_aald (q := 25) (t0 := 2) (v := ad (28 + a2.toNatClampNeg)) rfl X hK B (by omega) mg_25 rfl rfl (no_in c4) rfl dX4_back_44 ?_
      have g6 : a2.toNatClampNeg < 4 := (no_lt c4)
      refine lv_iconst (v := (-1)) hx hb dX4_back_45 (by decide) ?_
      refine k_r (k := 2) (n := 6) hA B (u_S (rest := [.int a1, .ref b0]) X (c_X4_onBy l g N ad (mg g ad y cr dr 0 kn rf pl pz mc) (32 + a1.toNatClampNeg) (ad (32 + a1.toNatClampNeg)) (dr a1.toNatClampNeg) (pl_dr hN g5) rfl (mg_dr g5) (28 + a2.toNatClampNeg) (ad (28 + a2.toNatClampNeg)) (cr a2.toNatClampNeg) (pl_cr hN g6) rfl (mg_cr g6) (-1) H.size) mw_X4_onBy md_X4_onBy rfl lk_X4_215 ⟨Nat.le_of_ble_eq_true rfl, Nat.le_of_ble_eq_true rfl⟩ hA hK hT B hl.1 rfl (Nat.le_of_ble_eq_true rfl) dX4_back_46 ⟨Nat.le_of_ble_eq_true rfl, Nat.le_of_ble_eq_true rfl⟩) (Nat.le_of_ble_eq_true rfl) (Nat.le_of_ble_eq_true rfl) (fun r7 ad7 f' H locs hw B => ?_)
      generalize o8 : (v_X4_onBy (dr a1.toNatClampNeg) (cr a2.toNatClampNeg) (-1)) = v9 at hw B
      cases v9 with
      | none =>
        obtain ⟨rfl, rfl, rfl⟩ := pw_n hw
        refine k_i (k := 2) (n := 6) hA B (b_V (q := 24) (rest := []) hb0 X (c_X4_becomeN l g N ad y cr dr 0 kn rf pl pz mc (by omega) b0 hb0 a1 H.size) mw_X4_become md_X4_become rfl lk_X4_212 ⟨Nat.le_of_ble_eq_true rfl, Nat.le_of_ble_eq_true rfl⟩ hA hK hT B (by omega) mg_24 rfl rfl hl.1 rfl (Nat.le_of_ble_eq_true rfl) dX4_back_49 ⟨Nat.le_of_ble_eq_true rfl, Nat.le_of_ble_eq_true rfl⟩) (Nat.le_of_ble_eq_true rfl) (Nat.le_of_ble_eq_true rfl) (fun r9 ad9 f' H locs hw B => ?_)
        obtain ⟨rfl, rfl, rfl⟩ := hw
        have ev := (show v_X4_back cr dr rf a1 a2 = ((v_X4_becomeN rf).1, dr, 0, (v_X4_becomeN rf).2) from by unfold v_X4_back; rw [if_pos c2, if_pos c4, om_none o8])
        exact rt_i X hr (ad, mg g ad y cr dr 0 kn (v_X4_becomeN rf).2 pl pz mc) B (PO_of B) ⟨(fun _ _ _ => rfl), by rw [ev], by rw [ev]⟩ rfl (Nat.le_of_ble_eq_true rfl) (Nat.le_of_ble_eq_true rfl) dX4_back_52
      | some t8 =>
        obtain ⟨z8, rfl, rfl, rfl⟩ := pw_s hw
        have B : WB g (aw N ad sz) s.heap (N + 1) (va_up ad N z8) (mg g (va_up ad N z8) (va_up y N (c_row g t8)) cr dr 0 kn rf pl pz mc) H locs := WM_push (by omega) B
        refine k_i (k := 3) (n := 9) hA B (b_V (q := 24) (rest := []) ((up_lt (by omega)).trans hb0) X (c_X4_become l g (N + 1) (va_up ad N z8) (va_up y N (c_row g t8)) cr dr 0 kn rf pl pz mc (by omega) b0 ((up_lt (by omega)).trans hb0) a1 N z8 t8 (Nat.lt_succ_self _) up_eq ((mg_hi (by omega)).trans up_eq) c2 hdr (okd_mo (onBy_okd o8)) H.size) mw_X4_become md_X4_become rfl lk_X4_212 ⟨Nat.le_of_ble_eq_true rfl, Nat.le_of_ble_eq_true rfl⟩ hA hK hT B (by omega) mg_24 rfl rfl hl.1 rfl (Nat.le_of_ble_eq_true rfl) dX4_back_49 ⟨Nat.le_of_ble_eq_true rfl, Nat.le_of_ble_eq_true rfl⟩) (Nat.le_of_ble_eq_true rfl) (Nat.le_of_ble_eq_true rfl) (fun r10 ad10 f' H locs hw B => ?_)
        dsimp only at hw
        obtain ⟨mv11, rfl, rfl⟩ := hw
        have B : WB g (aw N ad sz) s.heap N ad10 (mg g ad10 y cr (v_X4_become dr a1 t8).2 0 kn rf pl pz mc) H locs := WM_drop B (by omega) (by omega) (fun _ _ => rfl) (fun _ hk => (up_lt hk))
        have kk12 : ∀ k, k < N → k < 28 ∨ 36 ≤ k → ad10 k = ad k := fun k hk hkq => (mv11 k (by omega) hkq).trans (((fun _ hk => (up_lt hk)) k hk).trans rfl)
        have nb13 : ad10 24 = b0 := (mv11 24 (by omega) (Or.inl (by decide))).trans ((up_lt (by omega)).trans hb0)
        have ev := (show v_X4_back cr dr rf a1 a2 = ((v_X4_become dr a1 t8).1, (v_X4_become dr a1 t8).2, 0, rf) from by unfold v_X4_back; rw [if_pos c2, if_pos c4, om_some o8])
        exact rt_i X hr (ad10, mg g ad10 y cr (v_X4_become dr a1 t8).2 0 kn rf pl pz mc) B (PO_of B) ⟨kk12, by rw [ev], by rw [ev]⟩ rfl (Nat.le_of_ble_eq_true rfl) (Nat.le_of_ble_eq_true rfl) dX4_back_52
    · refine lv_iconst (v := 1) hx hb dX4_back_15 (by decide) ?_
      refine lv_goto (tgt := 20) hx hb dX4_back_16 (by decide) ?_
      refine lv_iconst (v := 0) hx hb dX4_back_20 (by decide) ?_
      refine k_i (k := 0) (n := 0) hA B (b_V (q := 24) (rest := []) hb0 X (c_X4_stops l g N ad y cr dr th kn rf pl pz mc (by omega) b0 hb0 1 0 H.size) mw_X4_stops md_X4_stops rfl lk_X4_99 ⟨Nat.le_of_ble_eq_true rfl, Nat.le_of_ble_eq_true rfl⟩ hA hK hT B (by omega) mg_24 rfl rfl hl.1 rfl (Nat.le_of_ble_eq_true rfl) dX4_back_21 ⟨Nat.le_of_ble_eq_true rfl, Nat.le_of_ble_eq_true rfl⟩) (Nat.le_of_ble_eq_true rfl) (Nat.le_of_ble_eq_true rfl) (fun r ad' f' H locs hw B => ?_)
      rw [st_10] at hw
      dsimp only at hw
      obtain ⟨rfl, rfl, rfl⟩ := hw
      have B : WB g (aw N ad sz) s.heap N ad (mg g ad y cr dr 1 kn rf pl pz mc) H locs := B
      refine lv_if_eq (tgt := 31) hx hb dX4_back_24 (by decide) (fun z => absurd z (by decide)) (fun _ => ?_)
      refine lv_iconst (v := 0) hx hb dX4_back_27 (by decide) ?_
      refine lv_goto (tgt := 52) hx hb dX4_back_28 (by decide) ?_
      have ev := (show v_X4_back cr dr rf a1 a2 = (0, dr, 1, rf) from by unfold v_X4_back; rw [if_pos c2, if_neg c4])
      exact rt_i X hr (ad, mg g ad y cr dr 1 kn rf pl pz mc) B (PO_of B) ⟨(fun _ _ _ => rfl), by rw [ev], by rw [ev]⟩ rfl (Nat.le_of_ble_eq_true rfl) (Nat.le_of_ble_eq_true rfl) dX4_back_52
def v_X4_between (cr : Nat → TR) (dr : Nat → TR) (rf : Int32) (a1 : Int32) (a2 : Int32) (a3 : Int32) : Int32 × (Nat → TR) × Int32 × Int32 := if (v_X4_isNone a1) = 0 then (if (v_X4_isNone a2) = 0 then (if (v_X4_isNone a3) = 0 then (om (v_X4_apart (dr a2.toNatClampNeg) (dr a3.toNatClampNeg)) ((v_X4_getN rf).1, cr, 0, (v_X4_getN rf).2) (fun t10 => ((v_X4_get cr a1 t10).1, (v_X4_get cr a1 t10).2, 0, rf))) else (0, cr, 1, rf)) else (0, cr, 1, rf)) else (0, cr, 1, rf)
set_option maxHeartbeats 4000000 in
set_option maxRecDepth 100000 in
theorem c_X4_between (l : Launch) (g : GG) (N : Nat) (ad : Nat → Nat) (y : Nat → va_E) (cr dr : Nat → TR) (th kn rf : Int32) (pl : Nat → TR) (pz : Nat) (mc : Int32) (hN : 36 + pz ≤ N) (b0 : Nat) (hb0 : ad 24 = b0) (a1 : Int32) (a2 : Int32) (a3 : Int32) (hdr : ∀ i, i < 4 → okd (dr i)) : KI l yX4_between cX4_between 4 (some .int) (rm 4 3 9) g [.ref b0, .int a1, .int a2, .int a3] N ad (mg g ad y cr dr th kn rf pl pz mc) N (fun r ad' f' => (∀ k, k < N → k < 28 ∨ 36 ≤ k → ad' k = ad k) ∧ (v_X4_between cr dr rf a1 a2 a3).1 = r ∧ mg g ad' y (v_X4_between cr dr rf a1 a2 a3).2.1 dr (v_X4_between cr dr rf a1 a2 a3).2.2.1 kn (v_X4_between cr dr rf a1 a2 a3).2.2.2 pl pz mc = f') := by
  intro sz
  refine mt_start (by decide) (Nat.le_of_ble_eq_true rfl) ?_
  intro p e s m args below meth c hsz X hr hnam hA hK hT H locs B ls hl
  obtain ⟨hx, hb, hml, hown, hts, hlocks⟩ := id X
  have hl : lv_has ls 4 [(0, .ref b0), (1, .int a1), (2, .int a2), (3, .int a3)] := hl
  refine lv_aload_n hx hb dX4_between_0 rfl (lv_at hl 0 rfl) ?_
  refine lv_iload_n hx hb dX4_between_1 rfl (lv_at hl 1 rfl) ?_
  refine k_i (k := 0) (n := 0) hA B (u_S (rest := [.ref b0]) X (c_X4_isNone l g N ad (mg g ad y cr dr th kn rf pl pz mc) a1 H.size) mw_X4_isNone md_X4_isNone rfl lk_X4_95 ⟨Nat.le_of_ble_eq_true rfl, Nat.le_of_ble_eq_true rfl⟩ hA hK hT B hl.1 rfl (Nat.le_of_ble_eq_true rfl) dX4_between_2 ⟨Nat.le_of_ble_eq_true rfl, Nat.le_of_ble_eq_true rfl⟩) (Nat.le_of_ble_eq_true rfl) (Nat.le_of_ble_eq_true rfl) (fun r1 ad1 f' H locs hw B => ?_)
  obtain ⟨rfl, rfl, rfl⟩ := hw
  refine lv_if_ne (tgt := 22) hx hb dX4_between_5 (by decide) (fun c2 => ?_) (fun c2 => ?_)
  · refine lv_iconst (v := 1) hx hb dX4_between_22 (by decide) ?_
    refine lv_goto (tgt := 27) hx hb dX4_between_23 (by decide) ?_
    refine lv_iconst (v := 0) hx hb dX4_between_27 (by decide) ?_
    refine k_i (k := 0) (n := 0) hA B (b_V (q := 24) (rest := []) hb0 X (c_X4_stops l g N ad y cr dr th kn rf pl pz mc (by omega) b0 hb0 1 0 H.size) mw_X4_stops md_X4_stops rfl lk_X4_99 ⟨Nat.le_of_ble_eq_true rfl, Nat.le_of_ble_eq_true rfl⟩ hA hK hT B (by omega) mg_24 rfl rfl hl.1 rfl (Nat.le_of_ble_eq_true rfl) dX4_between_28 ⟨Nat.le_of_ble_eq_true rfl, Nat.le_of_ble_eq_true rfl⟩) (Nat.le_of_ble_eq_true rfl) (Nat.le_of_ble_eq_true rfl) (fun r ad' f' H locs hw B => ?_)
    rw [st_10] at hw
    dsimp only at hw
    obtain ⟨rfl, rfl, rfl⟩ := hw
    have B : WB g (aw N ad sz) s.heap N ad (mg g ad y cr dr 1 kn rf pl pz mc) H locs := B
    refine lv_if_eq (tgt := 38) hx hb dX4_between_31 (by decide) (fun z => absurd z (by decide)) (fun _ => ?_)
    refine lv_iconst (v := 0) hx hb dX4_between_34 (by decide) ?_
    refine lv_goto (tgt := 58) hx hb dX4_between_35 (by decide) ?_
    have ev := (show v_X4_between cr dr rf a1 a2 a3 = (0, cr, 1, rf) from by unfold v_X4_between; rw [if_neg c2])
    exact rt_i X hr (ad, mg g ad y cr dr 1 kn rf pl pz mc) B (PO_of B) ⟨(fun _ _ _ => rfl), by rw [ev], by rw [ev]⟩ rfl (Nat.le_of_ble_eq_true rfl) (Nat.le_of_ble_eq_true rfl) dX4_between_58
  · refine lv_iload_n hx hb dX4_between_8 rfl (lv_at hl 2 rfl) ?_
    refine k_i (k := 0) (n := 0) hA B (u_S (rest := [.ref b0]) X (c_X4_isNone l g N ad (mg g ad y cr dr th kn rf pl pz mc) a2 H.size) mw_X4_isNone md_X4_isNone rfl lk_X4_95 ⟨Nat.le_of_ble_eq_true rfl, Nat.le_of_ble_eq_true rfl⟩ hA hK hT B hl.1 rfl (Nat.le_of_ble_eq_true rfl) dX4_between_9 ⟨Nat.le_of_ble_eq_true rfl, Nat.le_of_ble_eq_true rfl⟩) (Nat.le_of_ble_eq_true rfl) (Nat.le_of_ble_eq_true rfl) (fun r3 ad3 f' H locs hw B => ?_)
    obtain ⟨rfl, rfl, rfl⟩ := hw
    refine lv_if_ne (tgt := 22) hx hb dX4_between_12 (by decide) (fun c4 => ?_) (fun c4 => ?_)
    · refine lv_iconst (v := 1) hx hb dX4_between_22 (by decide) ?_
      refine lv_goto (tgt := 27) hx hb dX4_between_23 (by decide) ?_
      refine lv_iconst (v := 0) hx hb dX4_between_27 (by decide) ?_
      refine k_i (k := 0) (n := 0) hA B (b_V (q := 24) (rest := []) hb0 X (c_X4_stops l g N ad y cr dr th kn rf pl pz mc (by omega) b0 hb0 1 0 H.size) mw_X4_stops md_X4_stops rfl lk_X4_99 ⟨Nat.le_of_ble_eq_true rfl, Nat.le_of_ble_eq_true rfl⟩ hA hK hT B (by omega) mg_24 rfl rfl hl.1 rfl (Nat.le_of_ble_eq_true rfl) dX4_between_28 ⟨Nat.le_of_ble_eq_true rfl, Nat.le_of_ble_eq_true rfl⟩) (Nat.le_of_ble_eq_true rfl) (Nat.le_of_ble_eq_true rfl) (fun r ad' f' H locs hw B => ?_)
      rw [st_10] at hw
      dsimp only at hw
      obtain ⟨rfl, rfl, rfl⟩ := hw
      have B : WB g (aw N ad sz) s.heap N ad (mg g ad y cr dr 1 kn rf pl pz mc) H locs := B
      refine lv_if_eq (tgt := 38) hx hb dX4_between_31 (by decide) (fun z => absurd z (by decide)) (fun _ => ?_)
      refine lv_iconst (v := 0) hx hb dX4_between_34 (by decide) ?_
      refine lv_goto (tgt := 58) hx hb dX4_between_35 (by decide) ?_
      have ev := (show v_X4_between cr dr rf a1 a2 a3 = (0, cr, 1, rf) from by unfold v_X4_between; rw [if_pos c2, if_neg c4])
      exact rt_i X hr (ad, mg g ad y cr dr 1 kn rf pl pz mc) B (PO_of B) ⟨(fun _ _ _ => rfl), by rw [ev], by rw [ev]⟩ rfl (Nat.le_of_ble_eq_true rfl) (Nat.le_of_ble_eq_true rfl) dX4_between_58
    · refine lv_iload_n hx hb dX4_between_15 rfl (lv_at hl 3 rfl) ?_
      refine k_i (k := 0) (n := 0) hA B (u_S (rest := [.ref b0]) X (c_X4_isNone l g N ad (mg g ad y cr dr th kn rf pl pz mc) a3 H.size) mw_X4_isNone md_X4_isNone rfl lk_X4_95 ⟨Nat.le_of_ble_eq_true rfl, Nat.le_of_ble_eq_true rfl⟩ hA hK hT B hl.1 rfl (Nat.le_of_ble_eq_true rfl) dX4_between_16 ⟨Nat.le_of_ble_eq_true rfl, Nat.le_of_ble_eq_true rfl⟩) (Nat.le_of_ble_eq_true rfl) (Nat.le_of_ble_eq_true rfl) (fun r5 ad5 f' H locs hw B => ?_)
      obtain ⟨rfl, rfl, rfl⟩ := hw
      refine lv_if_eq (tgt := 26) hx hb dX4_between_19 (by decide) (fun c6 => ?_) (fun c6 => ?_)
      · refine lv_iconst (v := 0) hx hb dX4_between_26 (by decide) ?_
        refine lv_iconst (v := 0) hx hb dX4_between_27 (by decide) ?_
        refine k_i (k := 0) (n := 0) hA B (b_V (q := 24) (rest := []) hb0 X (c_X4_stops l g N ad y cr dr th kn rf pl pz mc (by omega) b0 hb0 0 0 H.size) mw_X4_stops md_X4_stops rfl lk_X4_99 ⟨Nat.le_of_ble_eq_true rfl, Nat.le_of_ble_eq_true rfl⟩ hA hK hT B (by omega) mg_24 rfl rfl hl.1 rfl (Nat.le_of_ble_eq_true rfl) dX4_between_28 ⟨Nat.le_of_ble_eq_true rfl, Nat.le_of_ble_eq_true rfl⟩) (Nat.le_of_ble_eq_true rfl) (Nat.le_of_ble_eq_true rfl) (fun r ad' f' H locs hw B => ?_)
        rw [st_00] at hw
        dsimp only at hw
        obtain ⟨rfl, rfl, rfl⟩ := hw
        have B : WB g (aw N ad sz) s.heap N ad (mg g ad y cr dr 0 kn rf pl pz mc) H locs := B
        refine lv_if_eq (tgt := 38) hx hb dX4_between_31 (by decide) (fun _ => ?_) (fun z => absurd z (by decide))
        refine lv_aload_n hx hb dX4_between_38 rfl (lv_at hl 0 rfl) ?_
        refine lv_iload_n hx hb dX4_between_39 rfl (lv_at hl 1 rfl) ?_
        refine lv_aload_n hx hb dX4_between_40 rfl (lv_at hl 0 rfl) ?_
        refine b_get (q := 24) (k := 3) hb0 X hK B rfl in_X4 (by omega) mg_24 (by decide) lk_X4_23 rfl rfl dX4_between_41 ?_
        refine lv_iload_n hx hb dX4_between_44 rfl (lv_at hl 2 rfl) ?_
        refine b_aald (q := 26) (t0 := 2) (v := ad (32 + a2.toNatClampNeg)) rfl X hK B (by omega) mg_26 rfl rfl (no_in c4) rfl dX4_between_45 ?_
        have g7 : a2.toNatClampNeg < 4 := (no_lt c4)
        refine lv_aload_n hx hb dX4_between_46 rfl (lv_at hl 0 rfl) ?_
        refine b_get (q := 24) (k := 3) hb0 X hK B rfl in_X4 (by omega) mg_24 (by decide) lk_X4_23 rfl rfl dX4_between_47 ?_
        refine lv_iload_n hx hb dX4_between_50 rfl (lv_at hl 3 rfl) ?_
        refine b_aald (q := 26) (t0 := 2) (v := ad (32 + a3.toNatClampNeg)) rfl X hK B (by omega) mg_26 rfl rfl (no_in c6) rfl dX4_between_51 ?_
        have g8 : a3.toNatClampNeg < 4 := (no_lt c6)
        refine k_r (k := 2) (n := 6) hA B (u_S (rest := [.int a1, .ref b0]) X (c_X4_apart l g N ad (mg g ad y cr dr 0 kn rf pl pz mc) (32 + a2.toNatClampNeg) (ad (32 + a2.toNatClampNeg)) (dr a2.toNatClampNeg) (pl_dr hN g7) rfl (mg_dr g7) (32 + a3.toNatClampNeg) (ad (32 + a3.toNatClampNeg)) (dr a3.toNatClampNeg) (pl_dr hN g8) rfl (mg_dr g8) (hdr _ g7) (hdr _ g8) H.size) mw_X4_apart md_X4_apart rfl lk_X4_219 ⟨Nat.le_of_ble_eq_true rfl, Nat.le_of_ble_eq_true rfl⟩ hA hK hT B hl.1 rfl (Nat.le_of_ble_eq_true rfl) dX4_between_52 ⟨Nat.le_of_ble_eq_true rfl, Nat.le_of_ble_eq_true rfl⟩) (Nat.le_of_ble_eq_true rfl) (Nat.le_of_ble_eq_true rfl) (fun r9 ad9 f' H locs hw B => ?_)
        generalize o10 : (v_X4_apart (dr a2.toNatClampNeg) (dr a3.toNatClampNeg)) = v9 at hw B
        cases v9 with
        | none =>
          obtain ⟨rfl, rfl, rfl⟩ := pw_n hw
          refine k_i (k := 2) (n := 6) hA B (b_V (q := 24) (rest := []) hb0 X (c_X4_getN l g N ad y cr dr 0 kn rf pl pz mc (by omega) b0 hb0 a1 H.size) mw_X4_get md_X4_get rfl lk_X4_103 ⟨Nat.le_of_ble_eq_true rfl, Nat.le_of_ble_eq_true rfl⟩ hA hK hT B (by omega) mg_24 rfl rfl hl.1 rfl (Nat.le_of_ble_eq_true rfl) dX4_between_55 ⟨Nat.le_of_ble_eq_true rfl, Nat.le_of_ble_eq_true rfl⟩) (Nat.le_of_ble_eq_true rfl) (Nat.le_of_ble_eq_true rfl) (fun r11 ad11 f' H locs hw B => ?_)
          obtain ⟨rfl, rfl, rfl⟩ := hw
          have ev := (show v_X4_between cr dr rf a1 a2 a3 = ((v_X4_getN rf).1, cr, 0, (v_X4_getN rf).2) from by unfold v_X4_between; rw [if_pos c2, if_pos c4, if_pos c6, om_none o10])
          exact rt_i X hr (ad, mg g ad y cr dr 0 kn (v_X4_getN rf).2 pl pz mc) B (PO_of B) ⟨(fun _ _ _ => rfl), by rw [ev], by rw [ev]⟩ rfl (Nat.le_of_ble_eq_true rfl) (Nat.le_of_ble_eq_true rfl) dX4_between_58
        | some t10 =>
          obtain ⟨z10, rfl, rfl, rfl⟩ := pw_s hw
          have B : WB g (aw N ad sz) s.heap (N + 1) (va_up ad N z10) (mg g (va_up ad N z10) (va_up y N (c_row g t10)) cr dr 0 kn rf pl pz mc) H locs := WM_push (by omega) B
          refine k_i (k := 3) (n := 9) hA B (b_V (q := 24) (rest := []) ((up_lt (by omega)).trans hb0) X (c_X4_get l g (N + 1) (va_up ad N z10) (va_up y N (c_row g t10)) cr dr 0 kn rf pl pz mc (by omega) b0 ((up_lt (by omega)).trans hb0) a1 N z10 t10 (Nat.lt_succ_self _) up_eq ((mg_hi (by omega)).trans up_eq) c2 H.size) mw_X4_get md_X4_get rfl lk_X4_103 ⟨Nat.le_of_ble_eq_true rfl, Nat.le_of_ble_eq_true rfl⟩ hA hK hT B (by omega) mg_24 rfl rfl hl.1 rfl (Nat.le_of_ble_eq_true rfl) dX4_between_55 ⟨Nat.le_of_ble_eq_true rfl, Nat.le_of_ble_eq_true rfl⟩) (Nat.le_of_ble_eq_true rfl) (Nat.le_of_ble_eq_true rfl) (fun r12 ad12 f' H locs hw B => ?_)
          dsimp only at hw
          obtain ⟨mv13, rfl, rfl⟩ := hw
          have B : WB g (aw N ad sz) s.heap N ad12 (mg g ad12 y (v_X4_get cr a1 t10).2 dr 0 kn rf pl pz mc) H locs := WM_drop B (by omega) (by omega) (fun _ _ => rfl) (fun _ hk => (up_lt hk))
          have kk14 : ∀ k, k < N → k < 28 ∨ 36 ≤ k → ad12 k = ad k := fun k hk hkq => (mv13 k (by omega) hkq).trans (((fun _ hk => (up_lt hk)) k hk).trans rfl)
          have nb15 : ad12 24 = b0 := (mv13 24 (by omega) (Or.inl (by decide))).trans ((up_lt (by omega)).trans hb0)
          have ev := (show v_X4_between cr dr rf a1 a2 a3 = ((v_X4_get cr a1 t10).1, (v_X4_get cr a1 t10).2, 0, rf) from by unfold v_X4_between; rw [if_pos c2, if_pos c4, if_pos c6, om_some o10])
          exact rt_i X hr (ad12, mg g ad12 y (v_X4_get cr a1 t10).2 dr 0 kn rf pl pz mc) B (PO_of B) ⟨kk14, by rw [ev], by rw [ev]⟩ rfl (Nat.le_of_ble_eq_true rfl) (Nat.le_of_ble_eq_true rfl) dX4_between_58
      · refine lv_iconst (v := 1) hx hb dX4_between_22 (by decide) ?_
        refine lv_goto (tgt := 27) hx hb dX4_between_23 (by decide) ?_
        refine lv_iconst (v := 0) hx hb dX4_between_27 (by decide) ?_
        refine k_i (k := 0) (n := 0) hA B (b_V (q := 24) (rest := []) hb0 X (c_X4_stops l g N ad y cr dr th kn rf pl pz mc (by omega) b0 hb0 1 0 H.size) mw_X4_stops md_X4_stops rfl lk_X4_99 ⟨Nat.le_of_ble_eq_true rfl, Nat.le_of_ble_eq_true rfl⟩ hA hK hT B (by omega) mg_24 rfl rfl hl.1 rfl (Nat.le_of_ble_eq_true rfl) dX4_between_28 ⟨Nat.le_of_ble_eq_true rfl, Nat.le_of_ble_eq_true rfl⟩) (Nat.le_of_ble_eq_true rfl) (Nat.le_of_ble_eq_true rfl) (fun r ad' f' H locs hw B => ?_)
        rw [st_10] at hw
        dsimp only at hw
        obtain ⟨rfl, rfl, rfl⟩ := hw
        have B : WB g (aw N ad sz) s.heap N ad (mg g ad y cr dr 1 kn rf pl pz mc) H locs := B
        refine lv_if_eq (tgt := 38) hx hb dX4_between_31 (by decide) (fun z => absurd z (by decide)) (fun _ => ?_)
        refine lv_iconst (v := 0) hx hb dX4_between_34 (by decide) ?_
        refine lv_goto (tgt := 58) hx hb dX4_between_35 (by decide) ?_
        have ev := (show v_X4_between cr dr rf a1 a2 a3 = (0, cr, 1, rf) from by unfold v_X4_between; rw [if_pos c2, if_pos c4, if_neg c6])
        exact rt_i X hr (ad, mg g ad y cr dr 1 kn rf pl pz mc) B (PO_of B) ⟨(fun _ _ _ => rfl), by rw [ev], by rw [ev]⟩ rfl (Nat.le_of_ble_eq_true rfl) (Nat.le_of_ble_eq_true rfl) dX4_between_58
def v_X4_until (cr : Nat → TR) (dr : Nat → TR) (rf : Int32) (a1 : Int32) (a2 : Int32) (a3 : Int32) : Int32 × (Nat → TR) × Int32 × Int32 := ((v_X4_between cr dr rf a1 a2 a3).1, (v_X4_between cr dr rf a1 a2 a3).2.1, (v_X4_between cr dr rf a1 a2 a3).2.2.1, (v_X4_between cr dr rf a1 a2 a3).2.2.2)
set_option maxHeartbeats 4000000 in
set_option maxRecDepth 100000 in
theorem c_X4_until (l : Launch) (g : GG) (N : Nat) (ad : Nat → Nat) (y : Nat → va_E) (cr dr : Nat → TR) (th kn rf : Int32) (pl : Nat → TR) (pz : Nat) (mc : Int32) (hN : 36 + pz ≤ N) (b0 : Nat) (hb0 : ad 24 = b0) (a1 : Int32) (a2 : Int32) (a3 : Int32) (hdr : ∀ i, i < 4 → okd (dr i)) : KI l yX4_until cX4_until 4 (some .int) (rm 5 3 9) g [.ref b0, .int a1, .int a2, .int a3] N ad (mg g ad y cr dr th kn rf pl pz mc) N (fun r ad' f' => (∀ k, k < N → k < 28 ∨ 36 ≤ k → ad' k = ad k) ∧ (v_X4_until cr dr rf a1 a2 a3).1 = r ∧ mg g ad' y (v_X4_until cr dr rf a1 a2 a3).2.1 dr (v_X4_until cr dr rf a1 a2 a3).2.2.1 kn (v_X4_until cr dr rf a1 a2 a3).2.2.2 pl pz mc = f') := by
  intro sz
  refine mt_start (by decide) (Nat.le_of_ble_eq_true rfl) ?_
  intro p e s m args below meth c hsz X hr hnam hA hK hT H locs B ls hl
  obtain ⟨hx, hb, hml, hown, hts, hlocks⟩ := id X
  have hl : lv_has ls 4 [(0, .ref b0), (1, .int a1), (2, .int a2), (3, .int a3)] := hl
  refine lv_aload_n hx hb dX4_until_0 rfl (lv_at hl 0 rfl) ?_
  refine lv_iload_n hx hb dX4_until_1 rfl (lv_at hl 1 rfl) ?_
  refine lv_iload_n hx hb dX4_until_2 rfl (lv_at hl 2 rfl) ?_
  refine lv_iload_n hx hb dX4_until_3 rfl (lv_at hl 3 rfl) ?_
  refine k_i (k := 3) (n := 9) hA B (b_V (q := 24) (rest := []) hb0 X (c_X4_between l g N ad y cr dr th kn rf pl pz mc (by omega) b0 hb0 a1 a2 a3 hdr H.size) mw_X4_between md_X4_between rfl lk_X4_223 ⟨Nat.le_of_ble_eq_true rfl, Nat.le_of_ble_eq_true rfl⟩ hA hK hT B (by omega) mg_24 rfl rfl hl.1 rfl (Nat.le_of_ble_eq_true rfl) dX4_until_4 ⟨Nat.le_of_ble_eq_true rfl, Nat.le_of_ble_eq_true rfl⟩) (Nat.le_of_ble_eq_true rfl) (Nat.le_of_ble_eq_true rfl) (fun r1 ad1 f' H locs hw B => ?_)
  dsimp only at hw
  obtain ⟨mv2, rfl, rfl⟩ := hw
  have kk3 : ∀ k, k < N → k < 28 ∨ 36 ≤ k → ad1 k = ad k := fun k hk hkq => (mv2 k (by omega) hkq).trans (rfl.trans rfl)
  have nb4 : ad1 24 = b0 := (mv2 24 (by omega) (Or.inl (by decide))).trans hb0
  have ev := (show v_X4_until cr dr rf a1 a2 a3 = ((v_X4_between cr dr rf a1 a2 a3).1, (v_X4_between cr dr rf a1 a2 a3).2.1, (v_X4_between cr dr rf a1 a2 a3).2.2.1, (v_X4_between cr dr rf a1 a2 a3).2.2.2) from rfl)
  exact rt_i X hr (ad1, mg g ad1 y (v_X4_between cr dr rf a1 a2 a3).2.1 dr (v_X4_between cr dr rf a1 a2 a3).2.2.1 kn (v_X4_between cr dr rf a1 a2 a3).2.2.2 pl pz mc) B (PO_of B) ⟨kk3, by rw [ev], by rw [ev]⟩ rfl (Nat.le_of_ble_eq_true rfl) (Nat.le_of_ble_eq_true rfl) dX4_until_7
def v_X4_ofDateNow (dr : Nat → TR) (a1 : Int32) (a2 : Int32) : Int32 := if a2 = 3 then (v_X4_number (dr a1.toNatClampNeg)) else (rw3 (dr a1.toNatClampNeg) a2.toNatClampNeg)
set_option maxHeartbeats 4000000 in
set_option maxRecDepth 100000 in
theorem c_X4_ofDateNow (l : Launch) (g : GG) (N : Nat) (ad : Nat → Nat) (y : Nat → va_E) (cr dr : Nat → TR) (th kn rf : Int32) (pl : Nat → TR) (pz : Nat) (mc : Int32) (hN : 36 + pz ≤ N) (b0 : Nat) (hb0 : ad 24 = b0) (a1 : Int32) (a2 : Int32) (hza1 : v_X4_isNone a1 = 0) (hw3 : ¬ v_X4_isIn a2.toInt64 0 3 = 0) (hdr : ∀ i, i < 4 → okd (dr i)) : KI l yX4_ofDateNow cX4_ofDateNow 3 (some .int) (rm 3 0 0) g [.ref b0, .int a1, .int a2] N ad (mg g ad y cr dr th kn rf pl pz mc) N (fun r ad' f' => ad = ad' ∧ (v_X4_ofDateNow dr a1 a2) = r ∧ mg g ad y cr dr th kn rf pl pz mc = f') := by
  intro sz
  refine mt_start (by decide) (Nat.le_of_ble_eq_true rfl) ?_
  intro p e s m args below meth c hsz X hr hnam hA hK hT H locs B ls hl
  obtain ⟨hx, hb, hml, hown, hts, hlocks⟩ := id X
  have hl : lv_has ls 3 [(0, .ref b0), (1, .int a1), (2, .int a2)] := hl
  refine lv_iload_n hx hb dX4_ofDateNow_0 rfl (lv_at hl 2 rfl) ?_
  refine lv_iconst (v := 3) hx hb dX4_ofDateNow_1 (by decide) ?_
  refine lv_icmp_ne (tgt := 17) hx hb dX4_ofDateNow_2 (by decide) (fun c1 => ?_) (fun c1 => ?_)
  · refine lv_aload_n hx hb dX4_ofDateNow_17 rfl (lv_at hl 0 rfl) ?_
    refine b_get (q := 24) (k := 3) hb0 X hK B rfl in_X4 (by omega) mg_24 (by decide) lk_X4_23 rfl rfl dX4_ofDateNow_18 ?_
    refine lv_iload_n hx hb dX4_ofDateNow_21 rfl (lv_at hl 1 rfl) ?_
    refine b_aald (q := 26) (t0 := 2) (v := ad (32 + a1.toNatClampNeg)) rfl X hK B (by omega) mg_26 rfl rfl (no_in hza1) rfl dX4_ofDateNow_22 ?_
    have g2 : a1.toNatClampNeg < 4 := (no_lt hza1)
    refine lv_iload_n hx hb dX4_ofDateNow_23 rfl (lv_at hl 2 rfl) ?_
    refine h_ld X hK B (pl_dr hN g2) rfl (mg_dr g2) (isin_3 hw3 c1).1 dX4_ofDateNow_24 ?_
    have ev := (show v_X4_ofDateNow dr a1 a2 = rw3 (dr a1.toNatClampNeg) a2.toNatClampNeg from by unfold v_X4_ofDateNow; rw [if_neg c1])
    exact rt_i X hr (ad, mg g ad y cr dr th kn rf pl pz mc) B (PO_of B) ⟨rfl, by rw [ev], rfl⟩ rfl (Nat.le_of_ble_eq_true rfl) (Nat.le_of_ble_eq_true rfl) dX4_ofDateNow_25
  · refine lv_aload_n hx hb dX4_ofDateNow_5 rfl (lv_at hl 0 rfl) ?_
    refine b_get (q := 24) (k := 3) hb0 X hK B rfl in_X4 (by omega) mg_24 (by decide) lk_X4_23 rfl rfl dX4_ofDateNow_6 ?_
    refine lv_iload_n hx hb dX4_ofDateNow_9 rfl (lv_at hl 1 rfl) ?_
    refine b_aald (q := 26) (t0 := 2) (v := ad (32 + a1.toNatClampNeg)) rfl X hK B (by omega) mg_26 rfl rfl (no_in hza1) rfl dX4_ofDateNow_10 ?_
    have g3 : a1.toNatClampNeg < 4 := (no_lt hza1)
    refine k_i (k := 0) (n := 0) hA B (u_S (rest := []) X (c_X4_number l g N ad (mg g ad y cr dr th kn rf pl pz mc) (32 + a1.toNatClampNeg) (ad (32 + a1.toNatClampNeg)) (dr a1.toNatClampNeg) (pl_dr hN g3) rfl (mg_dr g3) (okd_mo (hdr _ g3)) H.size) mw_X4_number md_X4_number rfl lk_X4_198 ⟨Nat.le_of_ble_eq_true rfl, Nat.le_of_ble_eq_true rfl⟩ hA hK hT B hl.1 rfl (Nat.le_of_ble_eq_true rfl) dX4_ofDateNow_11 ⟨Nat.le_of_ble_eq_true rfl, Nat.le_of_ble_eq_true rfl⟩) (Nat.le_of_ble_eq_true rfl) (Nat.le_of_ble_eq_true rfl) (fun r4 ad4 f' H locs hw B => ?_)
    obtain ⟨rfl, rfl, rfl⟩ := hw
    refine lv_goto (tgt := 25) hx hb dX4_ofDateNow_14 (by decide) ?_
    have ev := (show v_X4_ofDateNow dr a1 a2 = (v_X4_number (dr a1.toNatClampNeg)) from by unfold v_X4_ofDateNow; rw [if_pos c1])
    exact rt_i X hr (ad, mg g ad y cr dr th kn rf pl pz mc) B (PO_of B) ⟨rfl, by rw [ev], rfl⟩ rfl (Nat.le_of_ble_eq_true rfl) (Nat.le_of_ble_eq_true rfl) dX4_ofDateNow_25
def v_X4_ofDate (dr : Nat → TR) (a1 : Int32) (a2 : Int32) : Int32 × Int32 := if (v_X4_isIn a2.toInt64 0 3) = 0 then (if v_X4_isNone a1 = 0 then (0, 2) else (0, 1)) else (if v_X4_isNone a1 = 0 then ((v_X4_ofDateNow dr a1 a2), 0) else (0, 1))
set_option maxHeartbeats 4000000 in
set_option maxRecDepth 100000 in
theorem c_X4_ofDate (l : Launch) (g : GG) (N : Nat) (ad : Nat → Nat) (y : Nat → va_E) (cr dr : Nat → TR) (th kn rf : Int32) (pl : Nat → TR) (pz : Nat) (mc : Int32) (hN : 36 + pz ≤ N) (b0 : Nat) (hb0 : ad 24 = b0) (a1 : Int32) (a2 : Int32) (hdr : ∀ i, i < 4 → okd (dr i)) : KI l yX4_ofDate cX4_ofDate 3 (some .int) (rm 4 0 0) g [.ref b0, .int a1, .int a2] N ad (mg g ad y cr dr th kn rf pl pz mc) N (fun r ad' f' => ad = ad' ∧ (v_X4_ofDate dr a1 a2).1 = r ∧ mg g ad y cr dr (v_X4_ofDate dr a1 a2).2 kn rf pl pz mc = f') := by
  intro sz
  refine mt_start (by decide) (Nat.le_of_ble_eq_true rfl) ?_
  intro p e s m args below meth c hsz X hr hnam hA hK hT H locs B ls hl
  obtain ⟨hx, hb, hml, hown, hts, hlocks⟩ := id X
  have hl : lv_has ls 3 [(0, .ref b0), (1, .int a1), (2, .int a2)] := hl
  refine lv_aload_n hx hb dX4_ofDate_0 rfl (lv_at hl 0 rfl) ?_
  refine lv_iload_n hx hb dX4_ofDate_1 rfl (lv_at hl 1 rfl) ?_
  refine k_i (k := 0) (n := 0) hA B (u_S (rest := [.ref b0]) X (c_X4_isNone l g N ad (mg g ad y cr dr th kn rf pl pz mc) a1 H.size) mw_X4_isNone md_X4_isNone rfl lk_X4_95 ⟨Nat.le_of_ble_eq_true rfl, Nat.le_of_ble_eq_true rfl⟩ hA hK hT B hl.1 rfl (Nat.le_of_ble_eq_true rfl) dX4_ofDate_2 ⟨Nat.le_of_ble_eq_true rfl, Nat.le_of_ble_eq_true rfl⟩) (Nat.le_of_ble_eq_true rfl) (Nat.le_of_ble_eq_true rfl) (fun r1 ad1 f' H locs hw B => ?_)
  obtain ⟨rfl, rfl, rfl⟩ := hw
  refine lv_iload_n hx hb dX4_ofDate_5 rfl (lv_at hl 2 rfl) ?_
  refine lv_i2l (v := a2.toInt64) hx hb dX4_ofDate_6 rfl ?_
  refine lv_lconst (v := 0) hx hb dX4_ofDate_7 (by decide) ?_
  refine lv_ldc2 hx hb hown (hts _ (List.mem_cons_of_mem _ lk_X4_227)) dX4_ofDate_8 ?_
  refine k_i (k := 0) (n := 0) hA B (u_S (rest := [.int (v_X4_isNone a1), .ref b0]) X (c_X4_isIn l g N ad (mg g ad y cr dr th kn rf pl pz mc) a2.toInt64 0 3 H.size) mw_X4_isIn md_X4_isIn rfl lk_X4_37 ⟨Nat.le_of_ble_eq_true rfl, Nat.le_of_ble_eq_true rfl⟩ hA hK hT B hl.1 rfl (Nat.le_of_ble_eq_true rfl) dX4_ofDate_11 ⟨Nat.le_of_ble_eq_true rfl, Nat.le_of_ble_eq_true rfl⟩) (Nat.le_of_ble_eq_true rfl) (Nat.le_of_ble_eq_true rfl) (fun r2 ad2 f' H locs hw B => ?_)
  obtain ⟨rfl, rfl, rfl⟩ := hw
  refine lv_if_ne (tgt := 21) hx hb dX4_ofDate_14 (by decide) (fun c3 => ?_) (fun c3 => ?_)
  · refine lv_iconst (v := 0) hx hb dX4_ofDate_21 (by decide) ?_
    by_cases s4 : v_X4_isNone a1 = 0
    · rw [s4]
      refine k_i (k := 0) (n := 0) hA B (b_V (q := 24) (rest := []) hb0 X (c_X4_stops l g N ad y cr dr th kn rf pl pz mc (by omega) b0 hb0 0 0 H.size) mw_X4_stops md_X4_stops rfl lk_X4_99 ⟨Nat.le_of_ble_eq_true rfl, Nat.le_of_ble_eq_true rfl⟩ hA hK hT B (by omega) mg_24 rfl rfl hl.1 rfl (Nat.le_of_ble_eq_true rfl) dX4_ofDate_22 ⟨Nat.le_of_ble_eq_true rfl, Nat.le_of_ble_eq_true rfl⟩) (Nat.le_of_ble_eq_true rfl) (Nat.le_of_ble_eq_true rfl) (fun r ad' f' H locs hw B => ?_)
      rw [st_00] at hw
      dsimp only at hw
      obtain ⟨rfl, rfl, rfl⟩ := hw
      have B : WB g (aw N ad sz) s.heap N ad (mg g ad y cr dr 0 kn rf pl pz mc) H locs := B
      refine lv_if_eq (tgt := 32) hx hb dX4_ofDate_25 (by decide) (fun _ => ?_) (fun z => absurd z (by decide))
      refine lv_aload_n hx hb dX4_ofDate_32 rfl (lv_at hl 0 rfl) ?_
      refine lv_iload_n hx hb dX4_ofDate_33 rfl (lv_at hl 1 rfl) ?_
      refine lv_iload_n hx hb dX4_ofDate_34 rfl (lv_at hl 2 rfl) ?_
      refine k_i (k := 0) (n := 0) hA B (b_V (q := 24) (rest := []) hb0 X (c_X4_ofDateNow l g N ad y cr dr 0 kn rf pl pz mc (by omega) b0 hb0 a1 a2 s4 c3 hdr H.size) mw_X4_ofDateNow md_X4_ofDateNow rfl lk_X4_229 ⟨Nat.le_of_ble_eq_true rfl, Nat.le_of_ble_eq_true rfl⟩ hA hK hT B (by omega) mg_24 rfl rfl hl.1 rfl (Nat.le_of_ble_eq_true rfl) dX4_ofDate_35 ⟨Nat.le_of_ble_eq_true rfl, Nat.le_of_ble_eq_true rfl⟩) (Nat.le_of_ble_eq_true rfl) (Nat.le_of_ble_eq_true rfl) (fun r5 ad5 f' H locs hw B => ?_)
      obtain ⟨rfl, rfl, rfl⟩ := hw
      have ev := (show v_X4_ofDate dr a1 a2 = ((v_X4_ofDateNow dr a1 a2), 0) from by unfold v_X4_ofDate; rw [if_neg c3, if_pos s4])
      exact rt_i X hr (ad, mg g ad y cr dr 0 kn rf pl pz mc) B (PO_of B) ⟨rfl, by rw [ev], by rw [ev]⟩ rfl (Nat.le_of_ble_eq_true rfl) (Nat.le_of_ble_eq_true rfl) dX4_ofDate_38
    · have s4x : (v_X4_isNone a1) = 1 := (b01_X4_isNone).resolve_left s4
      rw [s4x]
      refine k_i (k := 0) (n := 0) hA B (b_V (q := 24) (rest := []) hb0 X (c_X4_stops l g N ad y cr dr th kn rf pl pz mc (by omega) b0 hb0 1 0 H.size) mw_X4_stops md_X4_stops rfl lk_X4_99 ⟨Nat.le_of_ble_eq_true rfl, Nat.le_of_ble_eq_true rfl⟩ hA hK hT B (by omega) mg_24 rfl rfl hl.1 rfl (Nat.le_of_ble_eq_true rfl) dX4_ofDate_22 ⟨Nat.le_of_ble_eq_true rfl, Nat.le_of_ble_eq_true rfl⟩) (Nat.le_of_ble_eq_true rfl) (Nat.le_of_ble_eq_true rfl) (fun r ad' f' H locs hw B => ?_)
      rw [st_10] at hw
      dsimp only at hw
      obtain ⟨rfl, rfl, rfl⟩ := hw
      have B : WB g (aw N ad sz) s.heap N ad (mg g ad y cr dr 1 kn rf pl pz mc) H locs := B
      refine lv_if_eq (tgt := 32) hx hb dX4_ofDate_25 (by decide) (fun z => absurd z (by decide)) (fun _ => ?_)
      refine lv_iconst (v := 0) hx hb dX4_ofDate_28 (by decide) ?_
      refine lv_goto (tgt := 38) hx hb dX4_ofDate_29 (by decide) ?_
      have ev := (show v_X4_ofDate dr a1 a2 = (0, 1) from by unfold v_X4_ofDate; rw [if_neg c3, if_neg s4])
      exact rt_i X hr (ad, mg g ad y cr dr 1 kn rf pl pz mc) B (PO_of B) ⟨rfl, by rw [ev], by rw [ev]⟩ rfl (Nat.le_of_ble_eq_true rfl) (Nat.le_of_ble_eq_true rfl) dX4_ofDate_38
  · refine lv_iconst (v := 1) hx hb dX4_ofDate_17 (by decide) ?_
    refine lv_goto (tgt := 22) hx hb dX4_ofDate_18 (by decide) ?_
    by_cases s6 : v_X4_isNone a1 = 0
    · rw [s6]
      refine k_i (k := 0) (n := 0) hA B (b_V (q := 24) (rest := []) hb0 X (c_X4_stops l g N ad y cr dr th kn rf pl pz mc (by omega) b0 hb0 0 1 H.size) mw_X4_stops md_X4_stops rfl lk_X4_99 ⟨Nat.le_of_ble_eq_true rfl, Nat.le_of_ble_eq_true rfl⟩ hA hK hT B (by omega) mg_24 rfl rfl hl.1 rfl (Nat.le_of_ble_eq_true rfl) dX4_ofDate_22 ⟨Nat.le_of_ble_eq_true rfl, Nat.le_of_ble_eq_true rfl⟩) (Nat.le_of_ble_eq_true rfl) (Nat.le_of_ble_eq_true rfl) (fun r ad' f' H locs hw B => ?_)
      rw [st_01] at hw
      dsimp only at hw
      obtain ⟨rfl, rfl, rfl⟩ := hw
      have B : WB g (aw N ad sz) s.heap N ad (mg g ad y cr dr 2 kn rf pl pz mc) H locs := B
      refine lv_if_eq (tgt := 32) hx hb dX4_ofDate_25 (by decide) (fun z => absurd z (by decide)) (fun _ => ?_)
      refine lv_iconst (v := 0) hx hb dX4_ofDate_28 (by decide) ?_
      refine lv_goto (tgt := 38) hx hb dX4_ofDate_29 (by decide) ?_
      have ev := (show v_X4_ofDate dr a1 a2 = (0, 2) from by unfold v_X4_ofDate; rw [if_pos c3, if_pos s6])
      exact rt_i X hr (ad, mg g ad y cr dr 2 kn rf pl pz mc) B (PO_of B) ⟨rfl, by rw [ev], by rw [ev]⟩ rfl (Nat.le_of_ble_eq_true rfl) (Nat.le_of_ble_eq_true rfl) dX4_ofDate_38
    · have s6x : (v_X4_isNone a1) = 1 := (b01_X4_isNone).resolve_left s6
      rw [s6x]
      refine k_i (k := 0) (n := 0) hA B (b_V (q := 24) (rest := []) hb0 X (c_X4_stops l g N ad y cr dr th kn rf pl pz mc (by omega) b0 hb0 1 1 H.size) mw_X4_stops md_X4_stops rfl lk_X4_99 ⟨Nat.le_of_ble_eq_true rfl, Nat.le_of_ble_eq_true rfl⟩ hA hK hT B (by omega) mg_24 rfl rfl hl.1 rfl (Nat.le_of_ble_eq_true rfl) dX4_ofDate_22 ⟨Nat.le_of_ble_eq_true rfl, Nat.le_of_ble_eq_true rfl⟩) (Nat.le_of_ble_eq_true rfl) (Nat.le_of_ble_eq_true rfl) (fun r ad' f' H locs hw B => ?_)
      rw [st_11] at hw
      dsimp only at hw
      obtain ⟨rfl, rfl, rfl⟩ := hw
      have B : WB g (aw N ad sz) s.heap N ad (mg g ad y cr dr 1 kn rf pl pz mc) H locs := B
      refine lv_if_eq (tgt := 32) hx hb dX4_ofDate_25 (by decide) (fun z => absurd z (by decide)) (fun _ => ?_)
      refine lv_iconst (v := 0) hx hb dX4_ofDate_28 (by decide) ?_
      refine lv_goto (tgt := 38) hx hb dX4_ofDate_29 (by decide) ?_
      have ev := (show v_X4_ofDate dr a1 a2 = (0, 1) from by unfold v_X4_ofDate; rw [if_pos c3, if_neg s6])
      exact rt_i X hr (ad, mg g ad y cr dr 1 kn rf pl pz mc) B (PO_of B) ⟨rfl, by rw [ev], by rw [ev]⟩ rfl (Nat.le_of_ble_eq_true rfl) (Nat.le_of_ble_eq_true rfl) dX4_ofDate_38
def v_X4_leadsBack (dr : Nat → TR) (a1 : Int32) (a2 : Int32) : Int32 := om (v_X4_apart (dr a1.toNatClampNeg) (dr a2.toNatClampNeg)) 0 (fun t4 => om (v_X4_onBy (dr a1.toNatClampNeg) t4 1) 0 (fun t7 => if (v_X4_number t7) = (v_X4_number (dr a2.toNatClampNeg)) then 1 else 0))
theorem b01_X4_leadsBack {dr : Nat → TR} {a1 : Int32} {a2 : Int32} : (v_X4_leadsBack dr a1 a2) = 0 ∨ (v_X4_leadsBack dr a1 a2) = 1 := by
  unfold v_X4_leadsBack
  cases q1 : (v_X4_apart (dr a1.toNatClampNeg) (dr a2.toNatClampNeg)) with
  | none =>
    rw [om_none rfl]
    exact Or.inl rfl
  | some t4 =>
    rw [om_some rfl]
    cases q2 : (v_X4_onBy (dr a1.toNatClampNeg) t4 1) with
    | none =>
      rw [om_none rfl]
      exact Or.inl rfl
    | some t7 =>
      rw [om_some rfl]
      by_cases q3 : (v_X4_number t7) = (v_X4_number (dr a2.toNatClampNeg))
      · rw [if_pos q3]
        exact Or.inr rfl
      · rw [if_neg q3]
        exact Or.inl rfl
set_option maxHeartbeats 4000000 in
set_option maxRecDepth 100000 in
theorem c_X4_leadsBack (l : Launch) (g : GG) (N : Nat) (ad : Nat → Nat) (y : Nat → va_E) (cr dr : Nat → TR) (th kn rf : Int32) (pl : Nat → TR) (pz : Nat) (mc : Int32) (hN : 36 + pz ≤ N) (b0 : Nat) (hb0 : ad 24 = b0) (a1 : Int32) (a2 : Int32) (hza1 : v_X4_isNone a1 = 0) (hza2 : v_X4_isNone a2 = 0) (hdr : ∀ i, i < 4 → okd (dr i)) : KI l yX4_leadsBack cX4_leadsBack 5 (some .boolean) (rm 4 4 12) g [.ref b0, .int a1, .int a2] N ad (mg g ad y cr dr th kn rf pl pz mc) N (fun r ad' f' => ad = ad' ∧ (v_X4_leadsBack dr a1 a2) = r ∧ mg g ad y cr dr th kn rf pl pz mc = f') := by
  intro sz
  refine mt_start (by decide) (Nat.le_of_ble_eq_true rfl) ?_
  intro p e s m args below meth c hsz X hr hnam hA hK hT H locs B ls hl
  obtain ⟨hx, hb, hml, hown, hts, hlocks⟩ := id X
  have hl : lv_has ls 5 [(0, .ref b0), (1, .int a1), (2, .int a2)] := hl
  refine lv_aload_n hx hb dX4_leadsBack_0 rfl (lv_at hl 0 rfl) ?_
  refine b_get (q := 24) (k := 3) hb0 X hK B rfl in_X4 (by omega) mg_24 (by decide) lk_X4_23 rfl rfl dX4_leadsBack_1 ?_
  refine lv_iload_n hx hb dX4_leadsBack_4 rfl (lv_at hl 1 rfl) ?_
  refine b_aald (q := 26) (t0 := 2) (v := ad (32 + a1.toNatClampNeg)) rfl X hK B (by omega) mg_26 rfl rfl (no_in hza1) rfl dX4_leadsBack_5 ?_
  have g1 : a1.toNatClampNeg < 4 := (no_lt hza1)
  refine lv_aload_n hx hb dX4_leadsBack_6 rfl (lv_at hl 0 rfl) ?_
  refine b_get (q := 24) (k := 3) hb0 X hK B rfl in_X4 (by omega) mg_24 (by decide) lk_X4_23 rfl rfl dX4_leadsBack_7 ?_
  refine lv_iload_n hx hb dX4_leadsBack_10 rfl (lv_at hl 2 rfl) ?_
  refine b_aald (q := 26) (t0 := 2) (v := ad (32 + a2.toNatClampNeg)) rfl X hK B (by omega) mg_26 rfl rfl (no_in hza2) rfl dX4_leadsBack_11 ?_
  have g2 : a2.toNatClampNeg < 4 := (no_lt hza2)
  refine k_r (k := 2) (n := 6) hA B (u_S (rest := []) X (c_X4_apart l g N ad (mg g ad y cr dr th kn rf pl pz mc) (32 + a1.toNatClampNeg) (ad (32 + a1.toNatClampNeg)) (dr a1.toNatClampNeg) (pl_dr hN g1) rfl (mg_dr g1) (32 + a2.toNatClampNeg) (ad (32 + a2.toNatClampNeg)) (dr a2.toNatClampNeg) (pl_dr hN g2) rfl (mg_dr g2) (hdr _ g1) (hdr _ g2) H.size) mw_X4_apart md_X4_apart rfl lk_X4_219 ⟨Nat.le_of_ble_eq_true rfl, Nat.le_of_ble_eq_true rfl⟩ hA hK hT B hl.1 rfl (Nat.le_of_ble_eq_true rfl) dX4_leadsBack_12 ⟨Nat.le_of_ble_eq_true rfl, Nat.le_of_ble_eq_true rfl⟩) (Nat.le_of_ble_eq_true rfl) (Nat.le_of_ble_eq_true rfl) (fun r3 ad3 f' H locs hw B => ?_)
  generalize o4 : (v_X4_apart (dr a1.toNatClampNeg) (dr a2.toNatClampNeg)) = v9 at hw B
  cases v9 with
  | none =>
    obtain ⟨rfl, rfl, rfl⟩ := pw_n hw
    refine lv_astore_nN (lv' := [(3, .null), (0, .ref b0), (1, .int a1), (2, .int a2)]) hx hb dX4_leadsBack_15 rfl hl (by decide) rfl (fun ls hl => ?_)
    refine lv_aload_nN hx hb dX4_leadsBack_16 rfl (lv_at hl 0 rfl) ?_
    refine lv_ifnonnullN hx hb dX4_leadsBack_17 ?_
    refine lv_iconst (v := 0) hx hb dX4_leadsBack_20 (by decide) ?_
    have ev := (show v_X4_leadsBack dr a1 a2 = 0 from by unfold v_X4_leadsBack; rw [om_none o4])
    exact rt_i X hr (ad, mg g ad y cr dr th kn rf pl pz mc) B (PO_of B) ⟨rfl, by rw [ev], rfl⟩ rfl (Nat.le_of_ble_eq_true rfl) (Nat.le_of_ble_eq_true rfl) dX4_leadsBack_21
  | some t4 =>
    obtain ⟨z4, rfl, rfl, rfl⟩ := pw_s hw
    have B : WB g (aw N ad sz) s.heap (N + 1) (va_up ad N z4) (mg g (va_up ad N z4) (va_up y N (c_row g t4)) cr dr th kn rf pl pz mc) H locs := WM_push (by omega) B
    refine lv_astore_n (lv' := [(3, .ref z4), (0, .ref b0), (1, .int a1), (2, .int a2)]) hx hb dX4_leadsBack_15 rfl hl (by decide) rfl (fun ls hl => ?_)
    refine lv_aload_n hx hb dX4_leadsBack_16 rfl (lv_at hl 0 rfl) ?_
    refine lv_ifnonnull (tgt := 22) hx hb dX4_leadsBack_17 (by decide) ?_
    refine lv_aload_n hx hb dX4_leadsBack_22 rfl (lv_at hl 1 rfl) ?_
    refine b_get (q := 24) (k := 3) ((up_lt (by omega)).trans hb0) X hK B rfl in_X4 (by omega) mg_24 (by decide) lk_X4_23 rfl rfl dX4_leadsBack_23 ?_
    refine lv_iload_n hx hb dX4_leadsBack_26 rfl (lv_at hl 2 rfl) ?_
    refine b_aald (q := 26) (t0 := 2) (v := (va_up ad N z4) (32 + a1.toNatClampNeg)) rfl X hK B (by omega) mg_26 rfl rfl (no_in hza1) rfl dX4_leadsBack_27 ?_
    have g5 : a1.toNatClampNeg < 4 := (no_lt hza1)
    rw [show (va_up ad N z4) (32 + a1.toNatClampNeg) = ad (32 + a1.toNatClampNeg) from (up_lt (by omega))]
    refine lv_aload_n hx hb dX4_leadsBack_28 rfl (lv_at hl 0 rfl) ?_
    refine lv_iconst (v := 1) hx hb dX4_leadsBack_29 (by decide) ?_
    refine k_r (k := 4) (n := 12) hA B (u_S (rest := []) X (c_X4_onBy l g (N + 1) (va_up ad N z4) (mg g (va_up ad N z4) (va_up y N (c_row g t4)) cr dr th kn rf pl pz mc) (32 + a1.toNatClampNeg) (ad (32 + a1.toNatClampNeg)) (dr a1.toNatClampNeg) (Nat.lt_succ_of_lt (pl_dr hN g5)) ((up_lt (pl_dr hN g5)).trans rfl) (mg_dr g5) N z4 t4 (Nat.lt_succ_self _) up_eq ((mg_hi (by omega)).trans up_eq) 1 H.size) mw_X4_onBy md_X4_onBy rfl lk_X4_215 ⟨Nat.le_of_ble_eq_true rfl, Nat.le_of_ble_eq_true rfl⟩ hA hK hT B hl.1 rfl (Nat.le_of_ble_eq_true rfl) dX4_leadsBack_30 ⟨Nat.le_of_ble_eq_true rfl, Nat.le_of_ble_eq_true rfl⟩) (Nat.le_of_ble_eq_true rfl) (Nat.le_of_ble_eq_true rfl) (fun r6 ad6 f' H locs hw B => ?_)
    generalize o7 : (v_X4_onBy (dr a1.toNatClampNeg) t4 1) = v9 at hw B
    cases v9 with
    | none =>
      obtain ⟨rfl, rfl, rfl⟩ := pw_n hw
      refine lv_astoreN (lv' := [(4, .null), (3, .ref z4), (0, .ref b0), (1, .int a1), (2, .int a2)]) hx hb dX4_leadsBack_33 hl (by decide) rfl (fun ls hl => ?_)
      refine lv_aloadN hx hb dX4_leadsBack_35 (lv_at hl 0 rfl) ?_
      refine lv_ifnullN (tgt := 61) hx hb dX4_leadsBack_37 (by decide) ?_
      refine lv_iconst (v := 0) hx hb dX4_leadsBack_61 (by decide) ?_
      have B : WB g (aw N ad sz) s.heap N ad (mg g ad y cr dr th kn rf pl pz mc) H locs := WM_drop B (by omega) (by omega) (fun _ hk => (up_lt hk)) (fun _ hk => (up_lt hk))
      have ev := (show v_X4_leadsBack dr a1 a2 = 0 from by unfold v_X4_leadsBack; rw [om_some o4, om_none o7])
      exact rt_i X hr (ad, mg g ad y cr dr th kn rf pl pz mc) B (PO_of B) ⟨rfl, by rw [ev], rfl⟩ rfl (Nat.le_of_ble_eq_true rfl) (Nat.le_of_ble_eq_true rfl) dX4_leadsBack_62
    | some t7 =>
      obtain ⟨z7, rfl, rfl, rfl⟩ := pw_s hw
      have B : WB g (aw N ad sz) s.heap (N + 1 + 1) (va_up (va_up ad N z4) (N + 1) z7) (mg g (va_up (va_up ad N z4) (N + 1) z7) (va_up (va_up y N (c_row g t4)) (N + 1) (c_row g t7)) cr dr th kn rf pl pz mc) H locs := WM_push (by omega) B
      refine lv_astore (lv' := [(4, .ref z7), (3, .ref z4), (0, .ref b0), (1, .int a1), (2, .int a2)]) hx hb dX4_leadsBack_33 hl (by decide) rfl (fun ls hl => ?_)
      refine lv_aload hx hb dX4_leadsBack_35 (lv_at hl 0 rfl) ?_
      refine lv_ifnull hx hb dX4_leadsBack_37 ?_
      refine lv_aload hx hb dX4_leadsBack_40 (lv_at hl 0 rfl) ?_
      refine k_i (k := 4) (n := 12) hA B (u_S (rest := []) X (c_X4_number l g (N + 1 + 1) (va_up (va_up ad N z4) (N + 1) z7) (mg g (va_up (va_up ad N z4) (N + 1) z7) (va_up (va_up y N (c_row g t4)) (N + 1) (c_row g t7)) cr dr th kn rf pl pz mc) (N + 1) z7 t7 (Nat.lt_succ_self _) up_eq ((mg_hi (by omega)).trans up_eq) (okd_mo (onBy_okd o7)) H.size) mw_X4_number md_X4_number rfl lk_X4_198 ⟨Nat.le_of_ble_eq_true rfl, Nat.le_of_ble_eq_true rfl⟩ hA hK hT B hl.1 rfl (Nat.le_of_ble_eq_true rfl) dX4_leadsBack_42 ⟨Nat.le_of_ble_eq_true rfl, Nat.le_of_ble_eq_true rfl⟩) (Nat.le_of_ble_eq_true rfl) (Nat.le_of_ble_eq_true rfl) (fun r8 ad8 f' H locs hw B => ?_)
      obtain ⟨rfl, rfl, rfl⟩ := hw
      refine lv_aload_n hx hb dX4_leadsBack_45 rfl (lv_at hl 2 rfl) ?_
      refine b_get (q := 24) (k := 3) ((up_lt (by omega)).trans ((up_lt (by omega)).trans hb0)) X hK B rfl in_X4 (by omega) mg_24 (by decide) lk_X4_23 rfl rfl dX4_leadsBack_46 ?_
      refine lv_iload_n hx hb dX4_leadsBack_49 rfl (lv_at hl 4 rfl) ?_
      refine b_aald (q := 26) (t0 := 2) (v := (va_up (va_up ad N z4) (N + 1) z7) (32 + a2.toNatClampNeg)) rfl X hK B (by omega) mg_26 rfl rfl (no_in hza2) rfl dX4_leadsBack_50 ?_
      have g9 : a2.toNatClampNeg < 4 := (no_lt hza2)
      rw [show (va_up (va_up ad N z4) (N + 1) z7) (32 + a2.toNatClampNeg) = ad (32 + a2.toNatClampNeg) from ((up_lt (by omega)).trans (up_lt (by omega)))]
      refine k_i (k := 4) (n := 12) hA B (u_S (rest := [.int (v_X4_number t7)]) X (c_X4_number l g (N + 1 + 1) (va_up (va_up ad N z4) (N + 1) z7) (mg g (va_up (va_up ad N z4) (N + 1) z7) (va_up (va_up y N (c_row g t4)) (N + 1) (c_row g t7)) cr dr th kn rf pl pz mc) (32 + a2.toNatClampNeg) (ad (32 + a2.toNatClampNeg)) (dr a2.toNatClampNeg) (Nat.lt_succ_of_lt (Nat.lt_succ_of_lt (pl_dr hN g9))) ((up_lt (Nat.lt_succ_of_lt (pl_dr hN g9))).trans ((up_lt (pl_dr hN g9)).trans rfl)) (mg_dr g9) (okd_mo (hdr _ g9)) H.size) mw_X4_number md_X4_number rfl lk_X4_198 ⟨Nat.le_of_ble_eq_true rfl, Nat.le_of_ble_eq_true rfl⟩ hA hK hT B hl.1 rfl (Nat.le_of_ble_eq_true rfl) dX4_leadsBack_51 ⟨Nat.le_of_ble_eq_true rfl, Nat.le_of_ble_eq_true rfl⟩) (Nat.le_of_ble_eq_true rfl) (Nat.le_of_ble_eq_true rfl) (fun r10 ad10 f' H locs hw B => ?_)
      obtain ⟨rfl, rfl, rfl⟩ := hw
      refine lv_icmp_ne (tgt := 61) hx hb dX4_leadsBack_54 (by decide) (fun c11 => ?_) (fun c11 => ?_)
      · refine lv_iconst (v := 0) hx hb dX4_leadsBack_61 (by decide) ?_
        have B : WB g (aw N ad sz) s.heap N ad (mg g ad y cr dr th kn rf pl pz mc) H locs := WM_drop B (by omega) (by omega) (fun _ hk => ((up_lt (Nat.lt_succ_of_lt hk)).trans (up_lt hk))) (fun _ hk => ((up_lt (Nat.lt_succ_of_lt hk)).trans (up_lt hk)))
        have ev := (show v_X4_leadsBack dr a1 a2 = 0 from by unfold v_X4_leadsBack; rw [om_some o4, om_some o7, if_neg c11])
        exact rt_i X hr (ad, mg g ad y cr dr th kn rf pl pz mc) B (PO_of B) ⟨rfl, by rw [ev], rfl⟩ rfl (Nat.le_of_ble_eq_true rfl) (Nat.le_of_ble_eq_true rfl) dX4_leadsBack_62
      · refine lv_iconst (v := 1) hx hb dX4_leadsBack_57 (by decide) ?_
        refine lv_goto (tgt := 62) hx hb dX4_leadsBack_58 (by decide) ?_
        have B : WB g (aw N ad sz) s.heap N ad (mg g ad y cr dr th kn rf pl pz mc) H locs := WM_drop B (by omega) (by omega) (fun _ hk => ((up_lt (Nat.lt_succ_of_lt hk)).trans (up_lt hk))) (fun _ hk => ((up_lt (Nat.lt_succ_of_lt hk)).trans (up_lt hk)))
        have ev := (show v_X4_leadsBack dr a1 a2 = 1 from by unfold v_X4_leadsBack; rw [om_some o4, om_some o7, if_pos c11])
        exact rt_i X hr (ad, mg g ad y cr dr th kn rf pl pz mc) B (PO_of B) ⟨rfl, by rw [ev], rfl⟩ rfl (Nat.le_of_ble_eq_true rfl) (Nat.le_of_ble_eq_true rfl) dX4_leadsBack_62
def v_X4_isToldBack (dr : Nat → TR) (a1 : Int32) (a2 : Int32) : Int32 × Int32 := if (v_X4_isNone a1) = 0 then (if (v_X4_isNone a2) = 0 then (if (v_X4_leadsBack dr a1 a2) = 0 then (0, 0) else (1, 0)) else (0, 1)) else (0, 1)
theorem b01_X4_isToldBack {dr : Nat → TR} {a1 : Int32} {a2 : Int32} : (v_X4_isToldBack dr a1 a2).1 = 0 ∨ (v_X4_isToldBack dr a1 a2).1 = 1 := by
  unfold v_X4_isToldBack
  by_cases q1 : (v_X4_isNone a1) = 0
  · rw [if_pos q1]
    by_cases q2 : (v_X4_isNone a2) = 0
    · rw [if_pos q2]
      by_cases q3 : (v_X4_leadsBack dr a1 a2) = 0
      · rw [if_pos q3]
        exact Or.inl rfl
      · rw [if_neg q3]
        exact Or.inr rfl
    · rw [if_neg q2]
      exact Or.inl rfl
  · rw [if_neg q1]
    exact Or.inl rfl
set_option maxHeartbeats 4000000 in
set_option maxRecDepth 100000 in
theorem c_X4_isToldBack (l : Launch) (g : GG) (N : Nat) (ad : Nat → Nat) (y : Nat → va_E) (cr dr : Nat → TR) (th kn rf : Int32) (pl : Nat → TR) (pz : Nat) (mc : Int32) (hN : 36 + pz ≤ N) (b0 : Nat) (hb0 : ad 24 = b0) (a1 : Int32) (a2 : Int32) (hdr : ∀ i, i < 4 → okd (dr i)) : KI l yX4_isToldBack cX4_isToldBack 3 (some .boolean) (rm 5 4 12) g [.ref b0, .int a1, .int a2] N ad (mg g ad y cr dr th kn rf pl pz mc) N (fun r ad' f' => ad = ad' ∧ (v_X4_isToldBack dr a1 a2).1 = r ∧ mg g ad y cr dr (v_X4_isToldBack dr a1 a2).2 kn rf pl pz mc = f') := by
  intro sz
  refine mt_start (by decide) (Nat.le_of_ble_eq_true rfl) ?_
  intro p e s m args below meth c hsz X hr hnam hA hK hT H locs B ls hl
  obtain ⟨hx, hb, hml, hown, hts, hlocks⟩ := id X
  have hl : lv_has ls 3 [(0, .ref b0), (1, .int a1), (2, .int a2)] := hl
  refine lv_aload_n hx hb dX4_isToldBack_0 rfl (lv_at hl 0 rfl) ?_
  refine lv_iload_n hx hb dX4_isToldBack_1 rfl (lv_at hl 1 rfl) ?_
  refine k_i (k := 0) (n := 0) hA B (u_S (rest := [.ref b0]) X (c_X4_isNone l g N ad (mg g ad y cr dr th kn rf pl pz mc) a1 H.size) mw_X4_isNone md_X4_isNone rfl lk_X4_95 ⟨Nat.le_of_ble_eq_true rfl, Nat.le_of_ble_eq_true rfl⟩ hA hK hT B hl.1 rfl (Nat.le_of_ble_eq_true rfl) dX4_isToldBack_2 ⟨Nat.le_of_ble_eq_true rfl, Nat.le_of_ble_eq_true rfl⟩) (Nat.le_of_ble_eq_true rfl) (Nat.le_of_ble_eq_true rfl) (fun r1 ad1 f' H locs hw B => ?_)
  obtain ⟨rfl, rfl, rfl⟩ := hw
  refine lv_if_ne (tgt := 15) hx hb dX4_isToldBack_5 (by decide) (fun c2 => ?_) (fun c2 => ?_)
  · refine lv_iconst (v := 1) hx hb dX4_isToldBack_15 (by decide) ?_
    refine lv_goto (tgt := 20) hx hb dX4_isToldBack_16 (by decide) ?_
    refine lv_iconst (v := 0) hx hb dX4_isToldBack_20 (by decide) ?_
    refine k_i (k := 0) (n := 0) hA B (b_V (q := 24) (rest := []) hb0 X (c_X4_stops l g N ad y cr dr th kn rf pl pz mc (by omega) b0 hb0 1 0 H.size) mw_X4_stops md_X4_stops rfl lk_X4_99 ⟨Nat.le_of_ble_eq_true rfl, Nat.le_of_ble_eq_true rfl⟩ hA hK hT B (by omega) mg_24 rfl rfl hl.1 rfl (Nat.le_of_ble_eq_true rfl) dX4_isToldBack_21 ⟨Nat.le_of_ble_eq_true rfl, Nat.le_of_ble_eq_true rfl⟩) (Nat.le_of_ble_eq_true rfl) (Nat.le_of_ble_eq_true rfl) (fun r ad' f' H locs hw B => ?_)
    rw [st_10] at hw
    dsimp only at hw
    obtain ⟨rfl, rfl, rfl⟩ := hw
    have B : WB g (aw N ad sz) s.heap N ad (mg g ad y cr dr 1 kn rf pl pz mc) H locs := B
    refine lv_if_ne (tgt := 40) hx hb dX4_isToldBack_24 (by decide) (fun _ => ?_) (fun z => absurd z (by decide))
    refine lv_iconst (v := 0) hx hb dX4_isToldBack_40 (by decide) ?_
    have ev := (show v_X4_isToldBack dr a1 a2 = (0, 1) from by unfold v_X4_isToldBack; rw [if_neg c2])
    exact rt_i X hr (ad, mg g ad y cr dr 1 kn rf pl pz mc) B (PO_of B) ⟨rfl, by rw [ev], by rw [ev]⟩ rfl (Nat.le_of_ble_eq_true rfl) (Nat.le_of_ble_eq_true rfl) dX4_isToldBack_41
  · refine lv_iload_n hx hb dX4_isToldBack_8 rfl (lv_at hl 2 rfl) ?_
    refine k_i (k := 0) (n := 0) hA B (u_S (rest := [.ref b0]) X (c_X4_isNone l g N ad (mg g ad y cr dr th kn rf pl pz mc) a2 H.size) mw_X4_isNone md_X4_isNone rfl lk_X4_95 ⟨Nat.le_of_ble_eq_true rfl, Nat.le_of_ble_eq_true rfl⟩ hA hK hT B hl.1 rfl (Nat.le_of_ble_eq_true rfl) dX4_isToldBack_9 ⟨Nat.le_of_ble_eq_true rfl, Nat.le_of_ble_eq_true rfl⟩) (Nat.le_of_ble_eq_true rfl) (Nat.le_of_ble_eq_true rfl) (fun r3 ad3 f' H locs hw B => ?_)
    obtain ⟨rfl, rfl, rfl⟩ := hw
    refine lv_if_eq (tgt := 19) hx hb dX4_isToldBack_12 (by decide) (fun c4 => ?_) (fun c4 => ?_)
    · refine lv_iconst (v := 0) hx hb dX4_isToldBack_19 (by decide) ?_
      refine lv_iconst (v := 0) hx hb dX4_isToldBack_20 (by decide) ?_
      refine k_i (k := 0) (n := 0) hA B (b_V (q := 24) (rest := []) hb0 X (c_X4_stops l g N ad y cr dr th kn rf pl pz mc (by omega) b0 hb0 0 0 H.size) mw_X4_stops md_X4_stops rfl lk_X4_99 ⟨Nat.le_of_ble_eq_true rfl, Nat.le_of_ble_eq_true rfl⟩ hA hK hT B (by omega) mg_24 rfl rfl hl.1 rfl (Nat.le_of_ble_eq_true rfl) dX4_isToldBack_21 ⟨Nat.le_of_ble_eq_true rfl, Nat.le_of_ble_eq_true rfl⟩) (Nat.le_of_ble_eq_true rfl) (Nat.le_of_ble_eq_true rfl) (fun r ad' f' H locs hw B => ?_)
      rw [st_00] at hw
      dsimp only at hw
      obtain ⟨rfl, rfl, rfl⟩ := hw
      have B : WB g (aw N ad sz) s.heap N ad (mg g ad y cr dr 0 kn rf pl pz mc) H locs := B
      refine lv_if_ne (tgt := 40) hx hb dX4_isToldBack_24 (by decide) (fun z => absurd z (by decide)) (fun _ => ?_)
      refine lv_aload_n hx hb dX4_isToldBack_27 rfl (lv_at hl 0 rfl) ?_
      refine lv_iload_n hx hb dX4_isToldBack_28 rfl (lv_at hl 1 rfl) ?_
      refine lv_iload_n hx hb dX4_isToldBack_29 rfl (lv_at hl 2 rfl) ?_
      refine k_i (k := 4) (n := 12) hA B (b_V (q := 24) (rest := []) hb0 X (c_X4_leadsBack l g N ad y cr dr 0 kn rf pl pz mc (by omega) b0 hb0 a1 a2 c2 c4 hdr H.size) mw_X4_leadsBack md_X4_leadsBack rfl lk_X4_239 ⟨Nat.le_of_ble_eq_true rfl, Nat.le_of_ble_eq_true rfl⟩ hA hK hT B (by omega) mg_24 rfl rfl hl.1 rfl (Nat.le_of_ble_eq_true rfl) dX4_isToldBack_30 ⟨Nat.le_of_ble_eq_true rfl, Nat.le_of_ble_eq_true rfl⟩) (Nat.le_of_ble_eq_true rfl) (Nat.le_of_ble_eq_true rfl) (fun r5 ad5 f' H locs hw B => ?_)
      obtain ⟨rfl, rfl, rfl⟩ := hw
      refine lv_if_eq (tgt := 40) hx hb dX4_isToldBack_33 (by decide) (fun c6 => ?_) (fun c6 => ?_)
      · refine lv_iconst (v := 0) hx hb dX4_isToldBack_40 (by decide) ?_
        have ev := (show v_X4_isToldBack dr a1 a2 = (0, 0) from by unfold v_X4_isToldBack; rw [if_pos c2, if_pos c4, if_pos c6])
        exact rt_i X hr (ad, mg g ad y cr dr 0 kn rf pl pz mc) B (PO_of B) ⟨rfl, by rw [ev], by rw [ev]⟩ rfl (Nat.le_of_ble_eq_true rfl) (Nat.le_of_ble_eq_true rfl) dX4_isToldBack_41
      · refine lv_iconst (v := 1) hx hb dX4_isToldBack_36 (by decide) ?_
        refine lv_goto (tgt := 41) hx hb dX4_isToldBack_37 (by decide) ?_
        have ev := (show v_X4_isToldBack dr a1 a2 = (1, 0) from by unfold v_X4_isToldBack; rw [if_pos c2, if_pos c4, if_neg c6])
        exact rt_i X hr (ad, mg g ad y cr dr 0 kn rf pl pz mc) B (PO_of B) ⟨rfl, by rw [ev], by rw [ev]⟩ rfl (Nat.le_of_ble_eq_true rfl) (Nat.le_of_ble_eq_true rfl) dX4_isToldBack_41
    · refine lv_iconst (v := 1) hx hb dX4_isToldBack_15 (by decide) ?_
      refine lv_goto (tgt := 20) hx hb dX4_isToldBack_16 (by decide) ?_
      refine lv_iconst (v := 0) hx hb dX4_isToldBack_20 (by decide) ?_
      refine k_i (k := 0) (n := 0) hA B (b_V (q := 24) (rest := []) hb0 X (c_X4_stops l g N ad y cr dr th kn rf pl pz mc (by omega) b0 hb0 1 0 H.size) mw_X4_stops md_X4_stops rfl lk_X4_99 ⟨Nat.le_of_ble_eq_true rfl, Nat.le_of_ble_eq_true rfl⟩ hA hK hT B (by omega) mg_24 rfl rfl hl.1 rfl (Nat.le_of_ble_eq_true rfl) dX4_isToldBack_21 ⟨Nat.le_of_ble_eq_true rfl, Nat.le_of_ble_eq_true rfl⟩) (Nat.le_of_ble_eq_true rfl) (Nat.le_of_ble_eq_true rfl) (fun r ad' f' H locs hw B => ?_)
      rw [st_10] at hw
      dsimp only at hw
      obtain ⟨rfl, rfl, rfl⟩ := hw
      have B : WB g (aw N ad sz) s.heap N ad (mg g ad y cr dr 1 kn rf pl pz mc) H locs := B
      refine lv_if_ne (tgt := 40) hx hb dX4_isToldBack_24 (by decide) (fun _ => ?_) (fun z => absurd z (by decide))
      refine lv_iconst (v := 0) hx hb dX4_isToldBack_40 (by decide) ?_
      have ev := (show v_X4_isToldBack dr a1 a2 = (0, 1) from by unfold v_X4_isToldBack; rw [if_pos c2, if_neg c4])
      exact rt_i X hr (ad, mg g ad y cr dr 1 kn rf pl pz mc) B (PO_of B) ⟨rfl, by rw [ev], by rw [ev]⟩ rfl (Nat.le_of_ble_eq_true rfl) (Nat.le_of_ble_eq_true rfl) dX4_isToldBack_41
def v_X4_orderNow (dr : Nat → TR) (a1 : Int32) (a2 : Int32) : Int32 := if 0 ≤ ((v_X4_number (dr a1.toNatClampNeg)) - (v_X4_number (dr a2.toNatClampNeg))) then (if ((v_X4_number (dr a1.toNatClampNeg)) - (v_X4_number (dr a2.toNatClampNeg))) ≤ 0 then (v_X4_one 0) else (v_X4_one 1)) else (-1)
set_option maxHeartbeats 4000000 in
set_option maxRecDepth 100000 in
theorem c_X4_orderNow (l : Launch) (g : GG) (N : Nat) (ad : Nat → Nat) (y : Nat → va_E) (cr dr : Nat → TR) (th kn rf : Int32) (pl : Nat → TR) (pz : Nat) (mc : Int32) (hN : 36 + pz ≤ N) (b0 : Nat) (hb0 : ad 24 = b0) (a1 : Int32) (a2 : Int32) (hza1 : v_X4_isNone a1 = 0) (hza2 : v_X4_isNone a2 = 0) (hdr : ∀ i, i < 4 → okd (dr i)) : KI l yX4_orderNow cX4_orderNow 4 (some .int) (rm 3 0 0) g [.ref b0, .int a1, .int a2] N ad (mg g ad y cr dr th kn rf pl pz mc) N (fun r ad' f' => ad = ad' ∧ (v_X4_orderNow dr a1 a2) = r ∧ mg g ad y cr dr th kn rf pl pz mc = f') := by
  intro sz
  refine mt_start (by decide) (Nat.le_of_ble_eq_true rfl) ?_
  intro p e s m args below meth c hsz X hr hnam hA hK hT H locs B ls hl
  obtain ⟨hx, hb, hml, hown, hts, hlocks⟩ := id X
  have hl : lv_has ls 4 [(0, .ref b0), (1, .int a1), (2, .int a2)] := hl
  refine lv_aload_n hx hb dX4_orderNow_0 rfl (lv_at hl 0 rfl) ?_
  refine b_get (q := 24) (k := 3) hb0 X hK B rfl in_X4 (by omega) mg_24 (by decide) lk_X4_23 rfl rfl dX4_orderNow_1 ?_
  refine lv_iload_n hx hb dX4_orderNow_4 rfl (lv_at hl 1 rfl) ?_
  refine b_aald (q := 26) (t0 := 2) (v := ad (32 + a1.toNatClampNeg)) rfl X hK B (by omega) mg_26 rfl rfl (no_in hza1) rfl dX4_orderNow_5 ?_
  have g1 : a1.toNatClampNeg < 4 := (no_lt hza1)
  refine k_i (k := 0) (n := 0) hA B (u_S (rest := []) X (c_X4_number l g N ad (mg g ad y cr dr th kn rf pl pz mc) (32 + a1.toNatClampNeg) (ad (32 + a1.toNatClampNeg)) (dr a1.toNatClampNeg) (pl_dr hN g1) rfl (mg_dr g1) (okd_mo (hdr _ g1)) H.size) mw_X4_number md_X4_number rfl lk_X4_198 ⟨Nat.le_of_ble_eq_true rfl, Nat.le_of_ble_eq_true rfl⟩ hA hK hT B hl.1 rfl (Nat.le_of_ble_eq_true rfl) dX4_orderNow_6 ⟨Nat.le_of_ble_eq_true rfl, Nat.le_of_ble_eq_true rfl⟩) (Nat.le_of_ble_eq_true rfl) (Nat.le_of_ble_eq_true rfl) (fun r2 ad2 f' H locs hw B => ?_)
  obtain ⟨rfl, rfl, rfl⟩ := hw
  refine lv_aload_n hx hb dX4_orderNow_9 rfl (lv_at hl 0 rfl) ?_
  refine b_get (q := 24) (k := 3) hb0 X hK B rfl in_X4 (by omega) mg_24 (by decide) lk_X4_23 rfl rfl dX4_orderNow_10 ?_
  refine lv_iload_n hx hb dX4_orderNow_13 rfl (lv_at hl 2 rfl) ?_
  refine b_aald (q := 26) (t0 := 2) (v := ad (32 + a2.toNatClampNeg)) rfl X hK B (by omega) mg_26 rfl rfl (no_in hza2) rfl dX4_orderNow_14 ?_
  have g3 : a2.toNatClampNeg < 4 := (no_lt hza2)
  refine k_i (k := 0) (n := 0) hA B (u_S (rest := [.int (v_X4_number (dr a1.toNatClampNeg))]) X (c_X4_number l g N ad (mg g ad y cr dr th kn rf pl pz mc) (32 + a2.toNatClampNeg) (ad (32 + a2.toNatClampNeg)) (dr a2.toNatClampNeg) (pl_dr hN g3) rfl (mg_dr g3) (okd_mo (hdr _ g3)) H.size) mw_X4_number md_X4_number rfl lk_X4_198 ⟨Nat.le_of_ble_eq_true rfl, Nat.le_of_ble_eq_true rfl⟩ hA hK hT B hl.1 rfl (Nat.le_of_ble_eq_true rfl) dX4_orderNow_15 ⟨Nat.le_of_ble_eq_true rfl, Nat.le_of_ble_eq_true rfl⟩) (Nat.le_of_ble_eq_true rfl) (Nat.le_of_ble_eq_true rfl) (fun r4 ad4 f' H locs hw B => ?_)
  obtain ⟨rfl, rfl, rfl⟩ := hw
  refine lv_isub hx hb dX4_orderNow_18 ?_
  refine lv_istore_n (lv' := [(3, .int ((v_X4_number (dr a1.toNatClampNeg)) - (v_X4_number (dr a2.toNatClampNeg)))), (0, .ref b0), (1, .int a1), (2, .int a2)]) hx hb dX4_orderNow_19 rfl hl (by decide) rfl (fun ls hl => ?_)
  refine lv_iload_n hx hb dX4_orderNow_20 rfl (lv_at hl 0 rfl) ?_
  refine lv_if_ge (tgt := 28) hx hb dX4_orderNow_21 (by decide) (fun c5 => ?_) (fun c5 => ?_)
  · refine lv_iload_n hx hb dX4_orderNow_28 rfl (lv_at hl 0 rfl) ?_
    refine lv_if_le (tgt := 36) hx hb dX4_orderNow_29 (by decide) (fun c6 => ?_) (fun c6 => ?_)
    · refine lv_iconst (v := 0) hx hb dX4_orderNow_36 (by decide) ?_
      refine k_i (k := 0) (n := 0) hA B (u_S (rest := []) X (c_X4_one l g N ad (mg g ad y cr dr th kn rf pl pz mc) 0 H.size) mw_X4_one md_X4_one rfl lk_X4_91 ⟨Nat.le_of_ble_eq_true rfl, Nat.le_of_ble_eq_true rfl⟩ hA hK hT B hl.1 rfl (Nat.le_of_ble_eq_true rfl) dX4_orderNow_37 ⟨Nat.le_of_ble_eq_true rfl, Nat.le_of_ble_eq_true rfl⟩) (Nat.le_of_ble_eq_true rfl) (Nat.le_of_ble_eq_true rfl) (fun r7 ad7 f' H locs hw B => ?_)
      obtain ⟨rfl, rfl, rfl⟩ := hw
      have ev := (show v_X4_orderNow dr a1 a2 = (v_X4_one 0) from by unfold v_X4_orderNow; rw [if_pos c5, if_pos c6])
      exact rt_i X hr (ad, mg g ad y cr dr th kn rf pl pz mc) B (PO_of B) ⟨rfl, by rw [ev], rfl⟩ rfl (Nat.le_of_ble_eq_true rfl) (Nat.le_of_ble_eq_true rfl) dX4_orderNow_40
    · refine lv_iconst (v := 1) hx hb dX4_orderNow_32 (by decide) ?_
      refine lv_goto (tgt := 37) hx hb dX4_orderNow_33 (by decide) ?_
      refine k_i (k := 0) (n := 0) hA B (u_S (rest := []) X (c_X4_one l g N ad (mg g ad y cr dr th kn rf pl pz mc) 1 H.size) mw_X4_one md_X4_one rfl lk_X4_91 ⟨Nat.le_of_ble_eq_true rfl, Nat.le_of_ble_eq_true rfl⟩ hA hK hT B hl.1 rfl (Nat.le_of_ble_eq_true rfl) dX4_orderNow_37 ⟨Nat.le_of_ble_eq_true rfl, Nat.le_of_ble_eq_true rfl⟩) (Nat.le_of_ble_eq_true rfl) (Nat.le_of_ble_eq_true rfl) (fun r8 ad8 f' H locs hw B => ?_)
      obtain ⟨rfl, rfl, rfl⟩ := hw
      have ev := (show v_X4_orderNow dr a1 a2 = (v_X4_one 1) from by unfold v_X4_orderNow; rw [if_pos c5, if_neg c6])
      exact rt_i X hr (ad, mg g ad y cr dr th kn rf pl pz mc) B (PO_of B) ⟨rfl, by rw [ev], rfl⟩ rfl (Nat.le_of_ble_eq_true rfl) (Nat.le_of_ble_eq_true rfl) dX4_orderNow_40
  · refine lv_iconst (v := (-1)) hx hb dX4_orderNow_24 (by decide) ?_
    refine lv_goto (tgt := 40) hx hb dX4_orderNow_25 (by decide) ?_
    have ev := (show v_X4_orderNow dr a1 a2 = (-1) from by unfold v_X4_orderNow; rw [if_neg c5])
    exact rt_i X hr (ad, mg g ad y cr dr th kn rf pl pz mc) B (PO_of B) ⟨rfl, by rw [ev], rfl⟩ rfl (Nat.le_of_ble_eq_true rfl) (Nat.le_of_ble_eq_true rfl) dX4_orderNow_40
def v_X4_order (dr : Nat → TR) (a1 : Int32) (a2 : Int32) : Int32 × Int32 := if (v_X4_isNone a1) = 0 then (if (v_X4_isNone a2) = 0 then ((v_X4_orderNow dr a1 a2), 0) else (0, 1)) else (0, 1)
set_option maxHeartbeats 4000000 in
set_option maxRecDepth 100000 in
theorem c_X4_order (l : Launch) (g : GG) (N : Nat) (ad : Nat → Nat) (y : Nat → va_E) (cr dr : Nat → TR) (th kn rf : Int32) (pl : Nat → TR) (pz : Nat) (mc : Int32) (hN : 36 + pz ≤ N) (b0 : Nat) (hb0 : ad 24 = b0) (a1 : Int32) (a2 : Int32) (hdr : ∀ i, i < 4 → okd (dr i)) : KI l yX4_order cX4_order 3 (some .int) (rm 4 0 0) g [.ref b0, .int a1, .int a2] N ad (mg g ad y cr dr th kn rf pl pz mc) N (fun r ad' f' => ad = ad' ∧ (v_X4_order dr a1 a2).1 = r ∧ mg g ad y cr dr (v_X4_order dr a1 a2).2 kn rf pl pz mc = f') := by
  intro sz
  refine mt_start (by decide) (Nat.le_of_ble_eq_true rfl) ?_
  intro p e s m args below meth c hsz X hr hnam hA hK hT H locs B ls hl
  obtain ⟨hx, hb, hml, hown, hts, hlocks⟩ := id X
  have hl : lv_has ls 3 [(0, .ref b0), (1, .int a1), (2, .int a2)] := hl
  refine lv_aload_n hx hb dX4_order_0 rfl (lv_at hl 0 rfl) ?_
  refine lv_iload_n hx hb dX4_order_1 rfl (lv_at hl 1 rfl) ?_
  refine k_i (k := 0) (n := 0) hA B (u_S (rest := [.ref b0]) X (c_X4_isNone l g N ad (mg g ad y cr dr th kn rf pl pz mc) a1 H.size) mw_X4_isNone md_X4_isNone rfl lk_X4_95 ⟨Nat.le_of_ble_eq_true rfl, Nat.le_of_ble_eq_true rfl⟩ hA hK hT B hl.1 rfl (Nat.le_of_ble_eq_true rfl) dX4_order_2 ⟨Nat.le_of_ble_eq_true rfl, Nat.le_of_ble_eq_true rfl⟩) (Nat.le_of_ble_eq_true rfl) (Nat.le_of_ble_eq_true rfl) (fun r1 ad1 f' H locs hw B => ?_)
  obtain ⟨rfl, rfl, rfl⟩ := hw
  refine lv_if_ne (tgt := 15) hx hb dX4_order_5 (by decide) (fun c2 => ?_) (fun c2 => ?_)
  · refine lv_iconst (v := 1) hx hb dX4_order_15 (by decide) ?_
    refine lv_goto (tgt := 20) hx hb dX4_order_16 (by decide) ?_
    refine lv_iconst (v := 0) hx hb dX4_order_20 (by decide) ?_
    refine k_i (k := 0) (n := 0) hA B (b_V (q := 24) (rest := []) hb0 X (c_X4_stops l g N ad y cr dr th kn rf pl pz mc (by omega) b0 hb0 1 0 H.size) mw_X4_stops md_X4_stops rfl lk_X4_99 ⟨Nat.le_of_ble_eq_true rfl, Nat.le_of_ble_eq_true rfl⟩ hA hK hT B (by omega) mg_24 rfl rfl hl.1 rfl (Nat.le_of_ble_eq_true rfl) dX4_order_21 ⟨Nat.le_of_ble_eq_true rfl, Nat.le_of_ble_eq_true rfl⟩) (Nat.le_of_ble_eq_true rfl) (Nat.le_of_ble_eq_true rfl) (fun r ad' f' H locs hw B => ?_)
    rw [st_10] at hw
    dsimp only at hw
    obtain ⟨rfl, rfl, rfl⟩ := hw
    have B : WB g (aw N ad sz) s.heap N ad (mg g ad y cr dr 1 kn rf pl pz mc) H locs := B
    refine lv_if_eq (tgt := 31) hx hb dX4_order_24 (by decide) (fun z => absurd z (by decide)) (fun _ => ?_)
    refine lv_iconst (v := 0) hx hb dX4_order_27 (by decide) ?_
    refine lv_goto (tgt := 37) hx hb dX4_order_28 (by decide) ?_
    have ev := (show v_X4_order dr a1 a2 = (0, 1) from by unfold v_X4_order; rw [if_neg c2])
    exact rt_i X hr (ad, mg g ad y cr dr 1 kn rf pl pz mc) B (PO_of B) ⟨rfl, by rw [ev], by rw [ev]⟩ rfl (Nat.le_of_ble_eq_true rfl) (Nat.le_of_ble_eq_true rfl) dX4_order_37
  · refine lv_iload_n hx hb dX4_order_8 rfl (lv_at hl 2 rfl) ?_
    refine k_i (k := 0) (n := 0) hA B (u_S (rest := [.ref b0]) X (c_X4_isNone l g N ad (mg g ad y cr dr th kn rf pl pz mc) a2 H.size) mw_X4_isNone md_X4_isNone rfl lk_X4_95 ⟨Nat.le_of_ble_eq_true rfl, Nat.le_of_ble_eq_true rfl⟩ hA hK hT B hl.1 rfl (Nat.le_of_ble_eq_true rfl) dX4_order_9 ⟨Nat.le_of_ble_eq_true rfl, Nat.le_of_ble_eq_true rfl⟩) (Nat.le_of_ble_eq_true rfl) (Nat.le_of_ble_eq_true rfl) (fun r3 ad3 f' H locs hw B => ?_)
    obtain ⟨rfl, rfl, rfl⟩ := hw
    refine lv_if_eq (tgt := 19) hx hb dX4_order_12 (by decide) (fun c4 => ?_) (fun c4 => ?_)
    · refine lv_iconst (v := 0) hx hb dX4_order_19 (by decide) ?_
      refine lv_iconst (v := 0) hx hb dX4_order_20 (by decide) ?_
      refine k_i (k := 0) (n := 0) hA B (b_V (q := 24) (rest := []) hb0 X (c_X4_stops l g N ad y cr dr th kn rf pl pz mc (by omega) b0 hb0 0 0 H.size) mw_X4_stops md_X4_stops rfl lk_X4_99 ⟨Nat.le_of_ble_eq_true rfl, Nat.le_of_ble_eq_true rfl⟩ hA hK hT B (by omega) mg_24 rfl rfl hl.1 rfl (Nat.le_of_ble_eq_true rfl) dX4_order_21 ⟨Nat.le_of_ble_eq_true rfl, Nat.le_of_ble_eq_true rfl⟩) (Nat.le_of_ble_eq_true rfl) (Nat.le_of_ble_eq_true rfl) (fun r ad' f' H locs hw B => ?_)
      rw [st_00] at hw
      dsimp only at hw
      obtain ⟨rfl, rfl, rfl⟩ := hw
      have B : WB g (aw N ad sz) s.heap N ad (mg g ad y cr dr 0 kn rf pl pz mc) H locs := B
      refine lv_if_eq (tgt := 31) hx hb dX4_order_24 (by decide) (fun _ => ?_) (fun z => absurd z (by decide))
      refine lv_aload_n hx hb dX4_order_31 rfl (lv_at hl 0 rfl) ?_
      refine lv_iload_n hx hb dX4_order_32 rfl (lv_at hl 1 rfl) ?_
      refine lv_iload_n hx hb dX4_order_33 rfl (lv_at hl 2 rfl) ?_
      refine k_i (k := 0) (n := 0) hA B (b_V (q := 24) (rest := []) hb0 X (c_X4_orderNow l g N ad y cr dr 0 kn rf pl pz mc (by omega) b0 hb0 a1 a2 c2 c4 hdr H.size) mw_X4_orderNow md_X4_orderNow rfl lk_X4_243 ⟨Nat.le_of_ble_eq_true rfl, Nat.le_of_ble_eq_true rfl⟩ hA hK hT B (by omega) mg_24 rfl rfl hl.1 rfl (Nat.le_of_ble_eq_true rfl) dX4_order_34 ⟨Nat.le_of_ble_eq_true rfl, Nat.le_of_ble_eq_true rfl⟩) (Nat.le_of_ble_eq_true rfl) (Nat.le_of_ble_eq_true rfl) (fun r5 ad5 f' H locs hw B => ?_)
      obtain ⟨rfl, rfl, rfl⟩ := hw
      have ev := (show v_X4_order dr a1 a2 = ((v_X4_orderNow dr a1 a2), 0) from by unfold v_X4_order; rw [if_pos c2, if_pos c4])
      exact rt_i X hr (ad, mg g ad y cr dr 0 kn rf pl pz mc) B (PO_of B) ⟨rfl, by rw [ev], by rw [ev]⟩ rfl (Nat.le_of_ble_eq_true rfl) (Nat.le_of_ble_eq_true rfl) dX4_order_37
    · refine lv_iconst (v := 1) hx hb dX4_order_15 (by decide) ?_
      refine lv_goto (tgt := 20) hx hb dX4_order_16 (by decide) ?_
      refine lv_iconst (v := 0) hx hb dX4_order_20 (by decide) ?_
      refine k_i (k := 0) (n := 0) hA B (b_V (q := 24) (rest := []) hb0 X (c_X4_stops l g N ad y cr dr th kn rf pl pz mc (by omega) b0 hb0 1 0 H.size) mw_X4_stops md_X4_stops rfl lk_X4_99 ⟨Nat.le_of_ble_eq_true rfl, Nat.le_of_ble_eq_true rfl⟩ hA hK hT B (by omega) mg_24 rfl rfl hl.1 rfl (Nat.le_of_ble_eq_true rfl) dX4_order_21 ⟨Nat.le_of_ble_eq_true rfl, Nat.le_of_ble_eq_true rfl⟩) (Nat.le_of_ble_eq_true rfl) (Nat.le_of_ble_eq_true rfl) (fun r ad' f' H locs hw B => ?_)
      rw [st_10] at hw
      dsimp only at hw
      obtain ⟨rfl, rfl, rfl⟩ := hw
      have B : WB g (aw N ad sz) s.heap N ad (mg g ad y cr dr 1 kn rf pl pz mc) H locs := B
      refine lv_if_eq (tgt := 31) hx hb dX4_order_24 (by decide) (fun z => absurd z (by decide)) (fun _ => ?_)
      refine lv_iconst (v := 0) hx hb dX4_order_27 (by decide) ?_
      refine lv_goto (tgt := 37) hx hb dX4_order_28 (by decide) ?_
      have ev := (show v_X4_order dr a1 a2 = (0, 1) from by unfold v_X4_order; rw [if_pos c2, if_neg c4])
      exact rt_i X hr (ad, mg g ad y cr dr 1 kn rf pl pz mc) B (PO_of B) ⟨rfl, by rw [ev], by rw [ev]⟩ rfl (Nat.le_of_ble_eq_true rfl) (Nat.le_of_ble_eq_true rfl) dX4_order_37
end
section
/-! more rows: bytes, references, lists -/
theorem sf_mod : Cond.sameField "java/util/ArrayList" "java/util/AbstractList" "modCount" "I" ∈ tb_all := tb_in (lw_at 1143 (by decide +kernel)) rfl
theorem ca_row : Cond.castable "[I" "java/lang/Object" ∈ lw_tbl := lw_at 1686 (by decide +kernel)
section RB
variable {p : Program} {l : Launch} {e : Env} {R : Room} {s : State} {m : MethodId} {args : Array Value} {below : List Frame} {meth : Method} {c : Code} {H : Heap} {locs : List Loc} {cells slots : Nat} {Q : State → Prop}
variable {cc : ByteArray} {nL : Nat} {own : String} {cw : Cond} {pc : Nat} {ls : Array Slot} {rest st0 : List Value} {g : GG} {A : Nat → Prop} {H0 : Heap} {N : Nat} {ad : Nat → Nat} {f : Nat → va_E}
/-- a row into an array of objects -/
theorem b_aastO {q b qv bv n : Nat} {h : Nat → Option Nat} {t : TR} {i : Int32} (hbq : ad q = b) (X : CX p s m args meth c cc nL own cw) (hK : KK g s) (hT : ST g.2.2 A s s.heap) (B : WB g A s.heap N ad f H locs) (hq : q < N) (hf : f q = c_ar (g.2.1 5) n h) (hqv : qv < N) (hbv : ad qv = bv) (hfv : f qv = c_row g t) (hi : vp_in i n) (hdg : decode cc pc = .ok (.aastore, 1))
    (kk : ∀ (H1 : Heap) (locs1 : List Loc), WB g A s.heap N ad (va_up f q (c_ar (g.2.1 5) n (va_up h i.toNatClampNeg (some bv)))) H1 locs1 → W p l e R s m args below meth c H1 locs1 cells slots Q (F0 m (pc + 1) ls rest)) : W p l e R s m args below meth c H locs cells slots Q (F0 m pc ls (.ref bv :: .int i :: .ref b :: rest)) := by
  subst hbq hbv
  have hcv := wd_P.mp B.1 qv hqv
  rw [hfv] at hcv
  have hcv : H[ad qv]? = some (vp_cell (g.2.1 0) (3, .inl (rw3 t))) := hcv
  obtain ⟨-, kv, hkv, -⟩ := (hK.2 0 (g.2.1 0, .int) rfl).1 3 (fun j => .int (rw3 t j))
  obtain ⟨c0, t1, f1, f2, f3⟩ := Cond.castable_spec (va_Nw.use (A := args) rfl (hT.1.1 _ ca_row rfl))
  have e2 : c0 = g.2.1 0 := Option.some.inj (f1.symm.trans (hK.2 0 (g.2.1 0, .int) rfl).2)
  subst e2
  refine va_astqM X.1 X.2.1 hK B.1 B.2.1 B.2.2 q 5 (by rw [wd_get hq, hf]) rfl ⟨_, hcv, rfl, ⟨kv, hkv⟩, fun comp hc => ?_⟩ hi hdg fun H1 locs1 hP hD hS => ?_
  · have e3 : comp = t1 := Option.some.inj (hc.symm.trans f2)
    rw [e3]
    exact f3
  · rw [wd_set hq] at hP hD
    exact kk H1 locs1 ⟨hP, hD, hS⟩
theorem b_aastN {q b n : Nat} {h : Nat → Option Nat} {i : Int32} (hbq : ad q = b) (X : CX p s m args meth c cc nL own cw) (hK : KK g s) (B : WB g A s.heap N ad f H locs) (hq : q < N) (hf : f q = c_ar (g.2.1 5) n h) (hi : vp_in i n) (hdg : decode cc pc = .ok (.aastore, 1))
    (kk : ∀ (H1 : Heap) (locs1 : List Loc), WB g A s.heap N ad (va_up f q (c_ar (g.2.1 5) n (va_up h i.toNatClampNeg none))) H1 locs1 → W p l e R s m args below meth c H1 locs1 cells slots Q (F0 m (pc + 1) ls rest)) : W p l e R s m args below meth c H locs cells slots Q (F0 m pc ls (.null :: .int i :: .ref b :: rest)) := by
  subst hbq
  refine va_astqN X.1 X.2.1 hK B.1 B.2.1 B.2.2 q 5 (by rw [wd_get hq, hf]) rfl hi hdg fun H1 locs1 hP hD hS => ?_
  rw [wd_set hq] at hP hD
  exact kk H1 locs1 ⟨hP, hD, hS⟩
theorem b_anew {n : Int32} {k cz sz index : Nat} (X : CX p s m args meth c cc nL own cw) (hA : ∀ q, s.heap.size ≤ q → A q) (hK : KK g s) (hT : ST g.2.2 A s s.heap) (B : WB g A s.heap N ad f H locs) (hcl : Cond.classLink own index "java/lang/Object" ∈ tb_all) (hn : ¬ n < 0) (hk : n.toNatClampNeg = k) (hk2 : k * 4 ≤ 536870912) (hc : cells + 1 ≤ R.cells) (hs : slots + k ≤ R.slots) (h1 : cells + 1 ≤ cz) (h2 : slots + k ≤ sz) (hdg : decode cc pc = .ok (.anewarray index, 3))
    (kk : ∀ (a : Nat) (H1 : Heap), WB g A s.heap (N + 1) (va_up ad N a) (va_up f N (c_ar (g.2.1 5) k (fun _ => none))) H1 locs → W p l e R s m args below meth c H1 locs cz sz Q (F0 m (pc + 3) ls (.ref a :: rest))) : W p l e R s m args below meth c H locs cells slots Q (F0 m pc ls (.int n :: rest)) := by
  obtain ⟨hx, hb, hml, hown, hts, -⟩ := X
  refine va_newq hx hb hown (hts _ (List.mem_cons_of_mem _ hcl)) hT.1.2.2.2.1 hK B.1 B.2.1 B.2.2 hA hn hk hk2 hc hs hdg fun a cA H1 hK1 hP hD hS => W.widen h1 h2 ?_
  obtain ⟨_, _, -, -, -, e1⟩ := (hK1.2 6 (cA, .object "java/lang/Object") rfl).2
  obtain ⟨_, _, -, -, -, e2⟩ := (hK.2 5 (g.2.1 5, .object "java/lang/Object") rfl).2
  have e3 : cA = g.2.1 5 := Option.some.inj (e1.symm.trans e2)
  subst e3
  rw [wd_push] at hP hD
  exact kk a H1 ⟨hP, hD, hS⟩
/-- the cast of a row -/
theorem b_castR {q b index : Nat} {t : TR} (hbq : ad q = b) (X : CX p s m args meth c cc nL own cw) (hK : KK g s) (B : WB g A s.heap N ad f H locs) (hq : q < N) (hf : f q = c_row g t) (hcl : Cond.classLink own index "[I" ∈ tb_all) (hdg : decode cc pc = .ok (.checkcast index, 3))
    (kk : W p l e R s m args below meth c H locs cells slots Q (F0 m (pc + 3) ls (.ref b :: rest))) : W p l e R s m args below meth c H locs cells slots Q (F0 m pc ls (.ref b :: rest)) := by
  subst hbq
  obtain ⟨hx, hb, hml, hown, hts, -⟩ := X
  exact va_castA hx hb hown (hts _ (List.mem_cons_of_mem _ hcl)) B.1 q (by rw [wd_get hq, hf]) (hK.2 0 (g.2.1 0, .int) rfl).2 hdg kk
theorem b_alen {q t0 b : Nat} {cA : ClassId} {x : vp_A} {ty : FieldType} {v : Int32} (hbq : ad q = b) (X : CX p s m args meth c cc nL own cw) (hK : KK g s) (B : WB g A s.heap N ad f H locs) (hq : q < N) (hf : f q = .inl (cA, x)) (ht : (TY g.2.1)[t0]? = some (cA, ty)) (hv : Int32.ofNat x.1 = v) (hdg : decode cc pc = .ok (.arraylength, 1))
    (kk : W p l e R s m args below meth c H locs cells slots Q (F0 m (pc + 1) ls (.int v :: rest))) : W p l e R s m args below meth c H locs cells slots Q (F0 m pc ls (.ref b :: rest)) := by
  subst hbq
  exact g_alen X hK B hq hf ht hv hdg kk
theorem b_iald {q b n : Nat} {h : Nat → Int32} {i : Int32} (hbq : ad q = b) (X : CX p s m args meth c cc nL own cw) (hK : KK g s) (B : WB g A s.heap N ad f H locs) (hq : q < N) (hf : f q = .inl (g.2.1 0, n, .inl h)) (hi : vp_in i n) (hdg : decode cc pc = .ok (.iaload, 1))
    (kk : W p l e R s m args below meth c H locs cells slots Q (F0 m (pc + 1) ls (.int (h i.toNatClampNeg) :: rest))) : W p l e R s m args below meth c H locs cells slots Q (F0 m pc ls (.int i :: .ref b :: rest)) := by
  subst hbq
  exact g_iald (t0 := 0) X hK B hq hf rfl hi hdg kk
theorem b_iast {q b n : Nat} {h : Nat → Int32} {i x : Int32} (hbq : ad q = b) (X : CX p s m args meth c cc nL own cw) (hK : KK g s) (B : WB g A s.heap N ad f H locs) (hq : q < N) (hf : f q = .inl (g.2.1 0, n, .inl h)) (hi : vp_in i n) (hdg : decode cc pc = .ok (.iastore, 1))
    (kk : ∀ (H1 : Heap) (locs1 : List Loc), WB g A s.heap N ad (va_up f q (.inl (g.2.1 0, n, .inl (upd h i.toNatClampNeg x)))) H1 locs1 → W p l e R s m args below meth c H1 locs1 cells slots Q (F0 m (pc + 1) ls rest)) : W p l e R s m args below meth c H locs cells slots Q (F0 m pc ls (.int x :: .int i :: .ref b :: rest)) := by
  subst hbq
  exact g_iast X hK B hq hf rfl hi hdg kk
theorem b_bald {q b n : Nat} {h : Nat → Int32} {i : Int32} (hbq : ad q = b) (X : CX p s m args meth c cc nL own cw) (hK : KK g s) (B : WB g A s.heap N ad f H locs) (hq : q < N) (hf : f q = .inl (g.2.1 1, n, .inl h)) (hi : vp_in i n) (hdg : decode cc pc = .ok (.baload, 1))
    (kk : W p l e R s m args below meth c H locs cells slots Q (F0 m (pc + 1) ls (.int (h i.toNatClampNeg) :: rest))) : W p l e R s m args below meth c H locs cells slots Q (F0 m pc ls (.int i :: .ref b :: rest)) := by
  subst hbq
  exact va_bald X.1 X.2.1 hK B.1 q 1 (by rw [wd_get hq, hf]) rfl hi hdg kk
theorem b_bast {q b n : Nat} {h : Nat → Int32} {i x : Int32} (hbq : ad q = b) (X : CX p s m args meth c cc nL own cw) (hK : KK g s) (B : WB g A s.heap N ad f H locs) (hq : q < N) (hf : f q = .inl (g.2.1 1, n, .inl h)) (hi : vp_in i n) (hdg : decode cc pc = .ok (.bastore, 1))
    (kk : ∀ (H1 : Heap) (locs1 : List Loc), WB g A s.heap N ad (va_up f q (.inl (g.2.1 1, n, .inl (upd h i.toNatClampNeg (vp_nar .byte x))))) H1 locs1 → W p l e R s m args below meth c H1 locs1 cells slots Q (F0 m (pc + 1) ls rest)) : W p l e R s m args below meth c H locs cells slots Q (F0 m pc ls (.int x :: .int i :: .ref b :: rest)) := by
  subst hbq
  refine va_bast X.1 X.2.1 hK B.1 B.2.1 B.2.2 q 1 (by rw [wd_get hq, hf]) rfl hi hdg fun H1 locs1 hP hD hS => ?_
  rw [wd_set hq] at hP hD
  exact kk H1 locs1 ⟨hP, hD, hS⟩
theorem b_newb {n : Int32} {k cz sz : Nat} (X : CX p s m args meth c cc nL own cw) (hA : ∀ q, s.heap.size ≤ q → A q) (hK : KK g s) (B : WB g A s.heap N ad f H locs) (hn : ¬ n < 0) (hk : n.toNatClampNeg = k) (hk2 : k * 1 ≤ 536870912) (hc : cells + 1 ≤ R.cells) (hs : slots + k ≤ R.slots) (h1 : cells + 1 ≤ cz) (h2 : slots + k ≤ sz) (hdg : decode cc pc = .ok (.newarray .byte, 2))
    (kk : ∀ (a : Nat) (H1 : Heap), WB g A s.heap (N + 1) (va_up ad N a) (va_up f N (.inl (g.2.1 1, k, .inl (fun _ => 0)))) H1 locs → W p l e R s m args below meth c H1 locs cz sz Q (F0 m (pc + 2) ls (.ref a :: rest))) : W p l e R s m args below meth c H locs cells slots Q (F0 m pc ls (.int n :: rest)) := by
  obtain ⟨hx, hb, hml, hown, hts, -⟩ := X
  refine va_newa (atype := .byte) (ty := .byte) (a0 := (k, .inl (fun _ => 0))) hx hb (hts _ (List.mem_cons_of_mem _ ac_byte)) rfl hK B.1 B.2.1 B.2.2 hA (fun _ => rfl) hn hk hk2 hc hs hdg fun a cA H1 hK1 hP hD hS => W.widen h1 h2 ?_
  have e1 := (hK1.2 6 (cA, .byte) rfl).2
  have e2 := (hK.2 1 (g.2.1 1, .byte) rfl).2
  have e3 : cA = g.2.1 1 := Option.some.inj (e1.symm.trans e2)
  subst e3
  rw [wd_push] at hP hD
  exact kk a H1 ⟨hP, hD, hS⟩
/-- a call, the receiver at a known address -/
theorem b_I {y : MethodName} {bytes : ByteArray} {maxL index n : Nat} {rm : Room} {As : List Value} {b : Nat} {Qc : Array Value → State → Outcome → State → Prop} {free : Addr → Prop}
    (X : CX p s m args meth c cc nL own cw) (hM : Met l y (Cond.code y bytes maxL none :: tb_all) rm (va_Pc (.ref b :: As) (PR g N ad f H.size)) Qc rm.cells rm.slots free)
    (hy : Cond.code y bytes maxL none ∈ tb_all ∧ Cond.instanceMethod y ∈ tb_all ∧ Cond.initialized y.cls ∈ tb_all) (hy1 : y.name = "<init>") (hd : y.cls ≠ "java/lang/invoke/MethodHandle" ∧ y.cls ≠ "java/lang/invoke/VarHandle" ∧ (parseMethodDescriptor y.desc).map (fun d => d.parameters.length) = some n) (hn : As.length = n) (hlk : Cond.methodLink own index y ∈ tb_all)
    (hR : rm.frames + 1 ≤ R.frames ∧ 8 + (maxL + 11) + rm.locals ≤ R.locals) (hA : ∀ q, s.heap.size ≤ q → A q) (hK : KK g s) (hT : ST g.2.2 A s s.heap) (B : WB g A s.heap N ad f H locs) (hls : ls.size = nL)
    (hst : st0 = As.reverse ++ .ref b :: rest) (hW : (rest.map fun v => v.category).sum ≤ 8) (hdg : decode cc pc = .ok (.invokespecial index, 3)) (hf2 : cells + rm.cells ≤ R.cells ∧ slots + rm.slots ≤ R.slots) :
    va_Run p l e R s m args below meth c H locs cells slots rm.cells rm.slots (F0 m pc ls st0) rest (Qc (Value.ref b :: As).toArray) free := by
  obtain ⟨hx, hb, hml, hown, hts, -⟩ := X
  have hm : ∀ w ∈ tb_all, w.before args s = true := fun w h => hts w (List.mem_cons_of_mem _ h)
  exact va_runI ⟨hx, hb, hml, hown, hts⟩ hM ⟨callB_of n hts (tb_good hy.1) rfl rfl rfl (hm _ hy.2.2) (hm _ hlk) hd hR, hy1, hm _ hy.2.1⟩ (pS hA hK hT B) rfl hn hls hst (lv_room hW) hdg hf2
/-- a field that a class inherits, by the name of the class itself -/
theorem b_getS {ref : String} {ci index q k b : Nat} {C : String} {T : u_T} {n : Nat} {fs : List Value} {v : Value} (hbq : ad q = b) (X : CX p s m args meth c cc nL own cw) (hK : KK g s) (B : WB g A s.heap N ad f H locs) (hc : vwCl[ci]? = some (C, T, n)) (hin : ∀ w ∈ u_ws C T n, w ∈ tb_all) (hq : q < N) (hf : f q = .inr (ci, fs)) (hk : k < n) (hlink : Cond.fieldLink own index ref (T k).2.1 (T k).2.2.1 ∈ tb_all) (hsf : Cond.sameField ref (T k).1 (T k).2.1 (T k).2.2.1 ∈ tb_all) (hv : fs[k]? = some v) (hdg : decode cc pc = .ok (.getfield index, 3))
    (kk : W p l e R s m args below meth c H locs cells slots Q (F0 m (pc + 3) ls (v :: rest))) : W p l e R s m args below meth c H locs cells slots Q (F0 m pc ls (.ref b :: rest)) := by
  subst hbq
  obtain ⟨hx, hb, hml, hown, hts, -⟩ := X
  exact va_get hx hb hts (fun w h => List.mem_cons_of_mem _ (hin w h)) hown hK B.1 q (by rw [wd_get hq, hf]) hc k hk (hts _ (List.mem_cons_of_mem _ hlink)) (u_same (hts _ (List.mem_cons_of_mem _ hsf))) hv hdg kk
theorem b_putS {ref : String} {ci index q k b : Nat} {C : String} {T : u_T} {n : Nat} {fs : List Value} {v : Value} {ty : FieldType} {ty0 : Nat → FieldType} (hbq : ad q = b) (X : CX p s m args meth c cc nL own cw) (hK : KK g s) (B : WB g A s.heap N ad f H locs) (hc : vwCl[ci]? = some (C, T, n)) (hin : ∀ w ∈ u_ws C T n, w ∈ tb_all) (hty : ∀ k, k < n → parseFieldDescriptor (T k).2.2.1 = some (ty0 k)) (hnm : ∀ a, a < n → ∀ b, b < n → a ≠ b → (T a).2.1 ≠ (T b).2.1) (hq : q < N) (hf : f q = .inr (ci, fs)) (hk : k < n) (hlink : Cond.fieldLink own index ref (T k).2.1 (T k).2.2.1 ∈ tb_all) (hsf : Cond.sameField ref (T k).1 (T k).2.1 (T k).2.2.1 ∈ tb_all) (hfin : (T k).2.2.2 = false) (hd : ty0 k = ty) (hn : narrow ty v = v) (hfit : fits ty v = true) (hl : k < fs.length) (hdg : decode cc pc = .ok (.putfield index, 3))
    (kk : ∀ (H1 : Heap) (locs1 : List Loc), WB g A s.heap N ad (va_up f q (.inr (ci, fs.set k v))) H1 locs1 → W p l e R s m args below meth c H1 locs1 cells slots Q (F0 m (pc + 3) ls rest)) : W p l e R s m args below meth c H locs cells slots Q (F0 m pc ls (v :: .ref b :: rest)) := by
  subst hbq hd
  obtain ⟨hx, hb, hml, hown, hts, -⟩ := X
  refine va_put hx hb hts (fun w h => List.mem_cons_of_mem _ (hin w h)) ty0 hty hnm hown hK B.1 B.2.1 B.2.2 q (by rw [wd_get hq, hf]) hc k hk (hts _ (List.mem_cons_of_mem _ hlink)) (u_same (hts _ (List.mem_cons_of_mem _ hsf))) hfin (hty k hk) hn hfit hl hdg fun H1 locs1 hP hD hS => ?_
  rw [wd_set hq] at hP hD
  exact kk H1 locs1 ⟨hP, hD, hS⟩
end RB
end
section
theorem mw_max : Cond.code Lib.Math.max.name Lib.Math.max.code 2 (some .int) ∈ tb_all ∧ Cond.static Lib.Math.max.name ∈ tb_all ∧ Cond.initialized "java/lang/Math" ∈ tb_all := ⟨tb_in (lw_at 167 (by decide +kernel)) rfl, tb_in (lw_at 166 (by decide +kernel)) rfl, ii_J9⟩
set_option maxHeartbeats 4000000 in
theorem c_K_check3 (l : Launch) (g : GG) (N : Nat) (ad : Nat → Nat) (f : Nat → va_E) (i n : Int32) (h1 : ¬ i < 0) (h2 : i < n) : KI l yJ3_checkIndex_8e157 cJ3_checkIndex_8e157 3 (some .int) (rm 0 0 0) g [.int i, .int n, .null] N ad f N (fun r ad' f' => ad = ad' ∧ i = r ∧ f = f') := by
  intro sz
  refine mt_start (by decide) (Nat.le_of_ble_eq_true rfl) ?_
  intro p e0 s m args below meth c hsz X hr hnam hA hK hT H locs B ls hl
  obtain ⟨hx, hb, hml, hown, hts, hlocks⟩ := id X
  have hl : lv_has ls 3 [(0, .int i), (1, .int n), (2, .null)] := hl
  refine lv_iload_n hx hb dJ3_checkIndex_8e157_0 rfl (lv_at hl 0 rfl) ?_
  refine lv_if_lt (tgt := 9) hx hb dJ3_checkIndex_8e157_1 (by decide) (fun z => absurd z h1) (fun _ => ?_)
  refine lv_iload_n hx hb dJ3_checkIndex_8e157_4 rfl (lv_at hl 0 rfl) ?_
  refine lv_iload_n hx hb dJ3_checkIndex_8e157_5 rfl (lv_at hl 1 rfl) ?_
  refine lv_icmp_lt (tgt := 16) hx hb dJ3_checkIndex_8e157_6 (by decide) (fun _ => ?_) (fun z => absurd h2 z)
  refine lv_iload_n hx hb dJ3_checkIndex_8e157_16 rfl (lv_at hl 0 rfl) ?_
  exact rt_i X hr (ad, f) B (PO_of B) ⟨rfl, rfl, rfl⟩ rfl (Nat.le_of_ble_eq_true rfl) (Nat.le_of_ble_eq_true rfl) dJ3_checkIndex_8e157_17
set_option maxHeartbeats 4000000 in
theorem c_K_check2 (l : Launch) (g : GG) (N : Nat) (ad : Nat → Nat) (f : Nat → va_E) (i n : Int32) (h1 : ¬ i < 0) (h2 : i < n) : KI l yJ15_checkIndex_7cf53 cJ15_checkIndex_7cf53 2 (some .int) (rm 1 0 0) g [.int i, .int n] N ad f N (fun r ad' f' => ad = ad' ∧ i = r ∧ f = f') := by
  intro sz
  refine mt_start (by decide) (Nat.le_of_ble_eq_true rfl) ?_
  intro p e0 s m args below meth c hsz X hr hnam hA hK hT H locs B ls hl
  obtain ⟨hx, hb, hml, hown, hts, hlocks⟩ := id X
  have hl : lv_has ls 2 [(0, .int i), (1, .int n)] := hl
  refine lv_iload_n hx hb dJ15_checkIndex_7cf53_0 rfl (lv_at hl 0 rfl) ?_
  refine lv_iload_n hx hb dJ15_checkIndex_7cf53_1 rfl (lv_at hl 1 rfl) ?_
  refine lv_null hx hb dJ15_checkIndex_7cf53_2 ?_
  refine k_i (k := 0) (n := 0) hA B (u_S (rest := []) X (c_K_check3 l g N ad f i n h1 h2 H.size) mw_J3_checkIndex_8e157 md_J3_checkIndex_8e157 rfl lk_J15_105 ⟨Nat.le_of_ble_eq_true rfl, Nat.le_of_ble_eq_true rfl⟩ hA hK hT B hl.1 rfl (Nat.le_of_ble_eq_true rfl) dJ15_checkIndex_7cf53_3 ⟨Nat.le_of_ble_eq_true rfl, Nat.le_of_ble_eq_true rfl⟩) (Nat.le_of_ble_eq_true rfl) (Nat.le_of_ble_eq_true rfl) (fun r ad' f' H locs hw B => ?_)
  obtain ⟨rfl, rfl, rfl⟩ := hw
  exact rt_i X hr (ad, f) B (PO_of B) ⟨rfl, rfl, rfl⟩ rfl (Nat.le_of_ble_eq_true rfl) (Nat.le_of_ble_eq_true rfl) dJ15_checkIndex_7cf53_6
set_option maxHeartbeats 4000000 in
theorem c_L_size (l : Launch) (g : GG) (N : Nat) (ad : Nat → Nat) (f : Nat → va_E) (q b : Nat) (hq : q < N) (hbq : ad q = b) (mc z : Int32) (e : Nat) (hf : f q = .inr (2, [.int mc, .ref e, .int z])) : KI l yJx4a65c_size_8abf5 cJx4a65c_size_8abf5 1 (some .int) (rm 0 0 0) g [.ref b] N ad f N (fun r ad' f' => ad = ad' ∧ z = r ∧ f = f') := by
  intro sz
  refine mt_start (by decide) (Nat.le_of_ble_eq_true rfl) ?_
  intro p e0 s m args below meth c hsz X hr hnam hA hK hT H locs B ls hl
  obtain ⟨hx, hb, hml, hown, hts, hlocks⟩ := id X
  have hl : lv_has ls 1 [(0, .ref b)] := hl
  refine lv_aload_n hx hb dJx4a65c_size_8abf5_0 rfl (lv_at hl 0 rfl) ?_
  refine b_get (q := q) (k := 2) hbq X hK B rfl in_Jx4a65c hq hf (by decide) lk_Jx4a65c_48 rfl rfl dJx4a65c_size_8abf5_1 ?_
  exact rt_i X hr (ad, f) B (PO_of B) ⟨rfl, rfl, rfl⟩ rfl (Nat.le_of_ble_eq_true rfl) (Nat.le_of_ble_eq_true rfl) dJx4a65c_size_8abf5_4
set_option maxHeartbeats 4000000 in
theorem c_L_isEmpty (l : Launch) (g : GG) (N : Nat) (ad : Nat → Nat) (f : Nat → va_E) (q b : Nat) (hq : q < N) (hbq : ad q = b) (mc z : Int32) (e : Nat) (hf : f q = .inr (2, [.int mc, .ref e, .int z])) : KI l yJx4a65c_isEmpty_aae02 cJx4a65c_isEmpty_aae02 1 (some .boolean) (rm 0 0 0) g [.ref b] N ad f N (fun r ad' f' => ad = ad' ∧ (if z = 0 then 1 else 0) = r ∧ f = f') := by
  intro sz
  refine mt_start (by decide) (Nat.le_of_ble_eq_true rfl) ?_
  intro p e0 s m args below meth c hsz X hr hnam hA hK hT H locs B ls hl
  obtain ⟨hx, hb, hml, hown, hts, hlocks⟩ := id X
  have hl : lv_has ls 1 [(0, .ref b)] := hl
  refine lv_aload_n hx hb dJx4a65c_isEmpty_aae02_0 rfl (lv_at hl 0 rfl) ?_
  refine b_get (q := q) (k := 2) hbq X hK B rfl in_Jx4a65c hq hf (by decide) lk_Jx4a65c_48 rfl rfl dJx4a65c_isEmpty_aae02_1 ?_
  refine lv_if_ne (tgt := 11) hx hb dJx4a65c_isEmpty_aae02_4 (by decide) (fun c1 => ?_) (fun c1 => ?_)
  · refine lv_iconst (v := 0) hx hb dJx4a65c_isEmpty_aae02_11 (by decide) ?_
    exact rt_i X hr (ad, f) B (PO_of B) ⟨rfl, if_neg c1, rfl⟩ rfl (Nat.le_of_ble_eq_true rfl) (Nat.le_of_ble_eq_true rfl) dJx4a65c_isEmpty_aae02_12
  · refine lv_iconst (v := 1) hx hb dJx4a65c_isEmpty_aae02_7 (by decide) ?_
    refine lv_goto (tgt := 12) hx hb dJx4a65c_isEmpty_aae02_8 (by decide) ?_
    exact rt_i X hr (ad, f) B (PO_of B) ⟨rfl, if_pos c1, rfl⟩ rfl (Nat.le_of_ble_eq_true rfl) (Nat.le_of_ble_eq_true rfl) dJx4a65c_isEmpty_aae02_12
set_option maxHeartbeats 4000000 in
theorem c_L_elementData (l : Launch) (g : GG) (N : Nat) (ad : Nat → Nat) (f : Nat → va_E) (q b : Nat) (hq : q < N) (hbq : ad q = b) (mc z : Int32) (e : Nat) (hf : f q = .inr (2, [.int mc, .ref e, .int z])) (qe n : Nat) (h : Nat → Option Nat) (hqe : qe < N) (hbe : ad qe = e) (hfe : f qe = c_ar (g.2.1 5) n h) (hne : q ≠ qe) (i : Int32) (v : Nat) (hi : vp_in i n) (hv : h i.toNatClampNeg = some v) : KR l yJx4a65c_elementData_915e3 cJx4a65c_elementData_915e3 2 (.object "java/lang/Object") (rm 0 0 0) g [.ref b, .int i] N ad f N (fun r ad' f' => ad = ad' ∧ some v = r ∧ f = f') := by
  intro sz
  refine mt_start (by decide) (Nat.le_of_ble_eq_true rfl) ?_
  intro p e0 s m args below meth c hsz X hr hnam hA hK hT H locs B ls hl
  obtain ⟨hx, hb, hml, hown, hts, hlocks⟩ := id X
  have hl : lv_has ls 2 [(0, .ref b), (1, .int i)] := hl
  refine lv_aload_n hx hb dJx4a65c_elementData_915e3_0 rfl (lv_at hl 0 rfl) ?_
  refine b_get (q := q) (k := 1) hbq X hK B rfl in_Jx4a65c hq hf (by decide) lk_Jx4a65c_9 rfl rfl dJx4a65c_elementData_915e3_1 ?_
  refine lv_iload_n hx hb dJx4a65c_elementData_915e3_4 rfl (lv_at hl 1 rfl) ?_
  refine b_aald (q := qe) (t0 := 5) (v := v) hbe X hK B hqe hfe rfl rfl hi hv dJx4a65c_elementData_915e3_5 ?_
  exact rt_r (r := some v) rfl X hr (Or.inl ⟨_, rfl⟩) (ad, f) B (PO_of B) ⟨rfl, rfl, rfl⟩ (Nat.le_of_ble_eq_true rfl) (Nat.le_of_ble_eq_true rfl) dJx4a65c_elementData_915e3_6
set_option maxHeartbeats 4000000 in
theorem c_L_get (l : Launch) (g : GG) (N : Nat) (ad : Nat → Nat) (f : Nat → va_E) (q b : Nat) (hq : q < N) (hbq : ad q = b) (mc z : Int32) (e : Nat) (hf : f q = .inr (2, [.int mc, .ref e, .int z])) (qe n : Nat) (h : Nat → Option Nat) (hqe : qe < N) (hbe : ad qe = e) (hfe : f qe = c_ar (g.2.1 5) n h) (hne : q ≠ qe) (i : Int32) (v : Nat) (hi : vp_in i n) (hv : h i.toNatClampNeg = some v) (h1 : ¬ i < 0) (h2 : i < z) : KR l yJx4a65c_get_915e3 cJx4a65c_get_915e3 2 (.object "java/lang/Object") (rm 2 0 0) g [.ref b, .int i] N ad f N (fun r ad' f' => ad = ad' ∧ some v = r ∧ f = f') := by
  intro sz
  refine mt_start (by decide) (Nat.le_of_ble_eq_true rfl) ?_
  intro p e0 s m args below meth c hsz X hr hnam hA hK hT H locs B ls hl
  obtain ⟨hx, hb, hml, hown, hts, hlocks⟩ := id X
  have hl : lv_has ls 2 [(0, .ref b), (1, .int i)] := hl
  refine lv_iload_n hx hb dJx4a65c_get_915e3_0 rfl (lv_at hl 1 rfl) ?_
  refine lv_aload_n hx hb dJx4a65c_get_915e3_1 rfl (lv_at hl 0 rfl) ?_
  refine b_get (q := q) (k := 2) hbq X hK B rfl in_Jx4a65c hq hf (by decide) lk_Jx4a65c_48 rfl rfl dJx4a65c_get_915e3_2 ?_
  refine k_i (k := 0) (n := 0) hA B (u_S (rest := []) X (c_K_check2 l g N ad f i z h1 h2 H.size) mw_J15_checkIndex_7cf53 md_J15_checkIndex_7cf53 rfl lk_Jx4a65c_118 ⟨Nat.le_of_ble_eq_true rfl, Nat.le_of_ble_eq_true rfl⟩ hA hK hT B hl.1 rfl (Nat.le_of_ble_eq_true rfl) dJx4a65c_get_915e3_5 ⟨Nat.le_of_ble_eq_true rfl, Nat.le_of_ble_eq_true rfl⟩) (Nat.le_of_ble_eq_true rfl) (Nat.le_of_ble_eq_true rfl) (fun r ad' f' H locs hw B => ?_)
  obtain ⟨rfl, rfl, rfl⟩ := hw
  refine lv_pop hx hb dJx4a65c_get_915e3_8 rfl ?_
  refine lv_aload_n hx hb dJx4a65c_get_915e3_9 rfl (lv_at hl 0 rfl) ?_
  refine lv_iload_n hx hb dJx4a65c_get_915e3_10 rfl (lv_at hl 1 rfl) ?_
  refine k_r (k := 0) (n := 0) hA B (b_V (q := q) (rest := []) hbq X (c_L_elementData l g N ad f q b hq hbq mc z e hf qe n h hqe hbe hfe hne i v hi hv H.size) mw_Jx4a65c_elementData_915e3 md_Jx4a65c_elementData_915e3 rfl lk_Jx4a65c_123 ⟨Nat.le_of_ble_eq_true rfl, Nat.le_of_ble_eq_true rfl⟩ hA hK hT B hq hf rfl rfl hl.1 rfl (Nat.le_of_ble_eq_true rfl) dJx4a65c_get_915e3_11 ⟨Nat.le_of_ble_eq_true rfl, Nat.le_of_ble_eq_true rfl⟩) (Nat.le_of_ble_eq_true rfl) (Nat.le_of_ble_eq_true rfl) (fun r ad' f' H locs hw B => ?_)
  obtain ⟨rfl, rfl, rfl⟩ := hw
  exact rt_r (r := some v) rfl X hr (Or.inl ⟨_, rfl⟩) (ad, f) B (PO_of B) ⟨rfl, rfl, rfl⟩ (Nat.le_of_ble_eq_true rfl) (Nat.le_of_ble_eq_true rfl) dJx4a65c_get_915e3_14
set_option maxHeartbeats 4000000 in
theorem c_L_fastRemove (l : Launch) (g : GG) (N : Nat) (ad : Nat → Nat) (f : Nat → va_E) (q b : Nat) (hq : q < N) (hbq : ad q = b) (mc z : Int32) (e : Nat) (hf : f q = .inr (2, [.int mc, .ref e, .int z])) (qe n : Nat) (h : Nat → Option Nat) (hqe : qe < N) (hbe : ad qe = e) (hfe : f qe = c_ar (g.2.1 5) n h) (hne : q ≠ qe) (i : Int32) (hz : z - 1 ≤ i) (hi1 : vp_in (z - 1) n) : KV l yJx4a65c_fastRemove_b59b0 cJx4a65c_fastRemove_b59b0 4 (rm 0 0 0) g [.ref b, .ref e, .int i] N ad f N (fun ad' f' => ad = ad' ∧ va_up (va_up f q (.inr (2, [.int (mc + 1), .ref e, .int (z - 1)]))) qe (c_ar (g.2.1 5) n (va_up h (z - 1).toNatClampNeg none)) = f') := by
  intro sz
  refine mt_start (by decide) (Nat.le_of_ble_eq_true rfl) ?_
  intro p e0 s m args below meth c hsz X hr hnam hA hK hT H locs B ls hl
  obtain ⟨hx, hb, hml, hown, hts, hlocks⟩ := id X
  have hl : lv_has ls 4 [(0, .ref b), (1, .ref e), (2, .int i)] := hl
  refine lv_aload_n hx hb dJx4a65c_fastRemove_b59b0_0 rfl (lv_at hl 0 rfl) ?_
  refine lv_dup hx hb dJx4a65c_fastRemove_b59b0_1 rfl ?_
  refine b_getS (q := q) (k := 0) hbq X hK B rfl in_Jx4a65c hq hf (by decide) lk_Jx4a65c_63 sf_mod rfl dJx4a65c_fastRemove_b59b0_2 ?_
  refine lv_iconst (v := 1) hx hb dJx4a65c_fastRemove_b59b0_5 (by decide) ?_
  refine lv_iadd hx hb dJx4a65c_fastRemove_b59b0_6 ?_
  refine b_putS (q := q) (k := 0) hbq X hK B rfl in_Jx4a65c tyJx4a65c_ok nmJx4a65c hq hf (by decide) lk_Jx4a65c_63 sf_mod rfl rfl rfl rfl (Nat.le_of_ble_eq_true rfl) dJx4a65c_fastRemove_b59b0_7 (fun H locs B => ?_)
  have B : WB g (aw N ad sz) s.heap N ad (va_up f q (.inr (2, [.int (mc + 1), .ref e, .int z]))) H locs := B
  refine lv_aload_n hx hb dJx4a65c_fastRemove_b59b0_10 rfl (lv_at hl 0 rfl) ?_
  refine b_get (q := q) (k := 2) hbq X hK B rfl in_Jx4a65c hq (va_up_self _ _ _) (by decide) lk_Jx4a65c_48 rfl rfl dJx4a65c_fastRemove_b59b0_11 ?_
  refine lv_iconst (v := 1) hx hb dJx4a65c_fastRemove_b59b0_14 (by decide) ?_
  refine lv_isub hx hb dJx4a65c_fastRemove_b59b0_15 ?_
  refine lv_dup hx hb dJx4a65c_fastRemove_b59b0_16 rfl ?_
  refine lv_istore_n (lv' := [(3, .int (z - 1)), (0, .ref b), (1, .ref e), (2, .int i)]) hx hb dJx4a65c_fastRemove_b59b0_17 rfl hl (by decide) rfl (fun ls hl => ?_)
  refine lv_iload_n hx hb dJx4a65c_fastRemove_b59b0_18 rfl (lv_at hl 3 rfl) ?_
  refine lv_icmp_le (tgt := 34) hx hb dJx4a65c_fastRemove_b59b0_19 (by decide) (fun _ => ?_) (fun z => absurd hz z)
  refine lv_aload_n hx hb dJx4a65c_fastRemove_b59b0_34 rfl (lv_at hl 2 rfl) ?_
  refine lv_aload_n hx hb dJx4a65c_fastRemove_b59b0_35 rfl (lv_at hl 1 rfl) ?_
  refine lv_iload_n hx hb dJx4a65c_fastRemove_b59b0_36 rfl (lv_at hl 0 rfl) ?_
  refine lv_dup_x1 hx hb dJx4a65c_fastRemove_b59b0_37 rfl rfl ?_
  refine b_put (q := q) (k := 2) hbq X hK B rfl in_Jx4a65c tyJx4a65c_ok nmJx4a65c hq (va_up_self _ _ _) (by decide) lk_Jx4a65c_48 rfl rfl rfl rfl rfl (Nat.le_of_ble_eq_true rfl) dJx4a65c_fastRemove_b59b0_38 (fun H locs B => ?_)
  rw [bx_uu] at B
  have B : WB g (aw N ad sz) s.heap N ad (va_up f q (.inr (2, [.int (mc + 1), .ref e, .int (z - 1)]))) H locs := B
  refine lv_null hx hb dJx4a65c_fastRemove_b59b0_41 ?_
  refine b_aastN (q := qe) hbe X hK B hqe ((va_up_ne _ _ (fun z => hne z.symm)).trans hfe) hi1 dJx4a65c_fastRemove_b59b0_42 (fun H locs B => ?_)
  have B : WB g (aw N ad sz) s.heap N ad (va_up (va_up f q (.inr (2, [.int (mc + 1), .ref e, .int (z - 1)]))) qe (c_ar (g.2.1 5) n (va_up h (z - 1).toNatClampNeg none))) H locs := B
  exact rt_v X hr (ad, va_up (va_up f q (.inr (2, [.int (mc + 1), .ref e, .int (z - 1)]))) qe (c_ar (g.2.1 5) n (va_up h (z - 1).toNatClampNeg none))) B (PO_of B) ⟨rfl, rfl⟩ (Nat.le_of_ble_eq_true rfl) (Nat.le_of_ble_eq_true rfl) dJx4a65c_fastRemove_b59b0_43
set_option maxHeartbeats 4000000 in
theorem c_L_remove (l : Launch) (g : GG) (N : Nat) (ad : Nat → Nat) (f : Nat → va_E) (q b : Nat) (hq : q < N) (hbq : ad q = b) (mc z : Int32) (e : Nat) (hf : f q = .inr (2, [.int mc, .ref e, .int z])) (qe n : Nat) (h : Nat → Option Nat) (hqe : qe < N) (hbe : ad qe = e) (hfe : f qe = c_ar (g.2.1 5) n h) (hne : q ≠ qe) (i : Int32) (v : Nat) (hi : vp_in i n) (hv : h i.toNatClampNeg = some v) (h1 : ¬ i < 0) (h2 : i < z) (hz : z - 1 ≤ i) (hi1 : vp_in (z - 1) n) : KR l yJx4a65c_remove_915e3 cJx4a65c_remove_915e3 4 (.object "java/lang/Object") (rm 2 0 0) g [.ref b, .int i] N ad f N (fun r ad' f' => ad = ad' ∧ some v = r ∧ va_up (va_up f q (.inr (2, [.int (mc + 1), .ref e, .int (z - 1)]))) qe (c_ar (g.2.1 5) n (va_up h (z - 1).toNatClampNeg none)) = f') := by
  intro sz
  refine mt_start (by decide) (Nat.le_of_ble_eq_true rfl) ?_
  intro p e0 s m args below meth c hsz X hr hnam hA hK hT H locs B ls hl
  obtain ⟨hx, hb, hml, hown, hts, hlocks⟩ := id X
  have hl : lv_has ls 4 [(0, .ref b), (1, .int i)] := hl
  refine lv_iload_n hx hb dJx4a65c_remove_915e3_0 rfl (lv_at hl 1 rfl) ?_
  refine lv_aload_n hx hb dJx4a65c_remove_915e3_1 rfl (lv_at hl 0 rfl) ?_
  refine b_get (q := q) (k := 2) hbq X hK B rfl in_Jx4a65c hq hf (by decide) lk_Jx4a65c_48 rfl rfl dJx4a65c_remove_915e3_2 ?_
  refine k_i (k := 0) (n := 0) hA B (u_S (rest := []) X (c_K_check2 l g N ad f i z h1 h2 H.size) mw_J15_checkIndex_7cf53 md_J15_checkIndex_7cf53 rfl lk_Jx4a65c_118 ⟨Nat.le_of_ble_eq_true rfl, Nat.le_of_ble_eq_true rfl⟩ hA hK hT B hl.1 rfl (Nat.le_of_ble_eq_true rfl) dJx4a65c_remove_915e3_5 ⟨Nat.le_of_ble_eq_true rfl, Nat.le_of_ble_eq_true rfl⟩) (Nat.le_of_ble_eq_true rfl) (Nat.le_of_ble_eq_true rfl) (fun r ad' f' H locs hw B => ?_)
  obtain ⟨rfl, rfl, rfl⟩ := hw
  refine lv_pop hx hb dJx4a65c_remove_915e3_8 rfl ?_
  refine lv_aload_n hx hb dJx4a65c_remove_915e3_9 rfl (lv_at hl 0 rfl) ?_
  refine b_get (q := q) (k := 1) hbq X hK B rfl in_Jx4a65c hq hf (by decide) lk_Jx4a65c_9 rfl rfl dJx4a65c_remove_915e3_10 ?_
  refine lv_astore_n (lv' := [(2, .ref e), (0, .ref b), (1, .int i)]) hx hb dJx4a65c_remove_915e3_13 rfl hl (by decide) rfl (fun ls hl => ?_)
  refine lv_aload_n hx hb dJx4a65c_remove_915e3_14 rfl (lv_at hl 0 rfl) ?_
  refine lv_iload_n hx hb dJx4a65c_remove_915e3_15 rfl (lv_at hl 2 rfl) ?_
  refine b_aald (q := qe) (t0 := 5) (v := v) hbe X hK B hqe hfe rfl rfl hi hv dJx4a65c_remove_915e3_16 ?_
  refine lv_astore_n (lv' := [(3, .ref v), (2, .ref e), (0, .ref b), (1, .int i)]) hx hb dJx4a65c_remove_915e3_17 rfl hl (by decide) rfl (fun ls hl => ?_)
  refine lv_aload_n hx hb dJx4a65c_remove_915e3_18 rfl (lv_at hl 2 rfl) ?_
  refine lv_aload_n hx hb dJx4a65c_remove_915e3_19 rfl (lv_at hl 1 rfl) ?_
  refine lv_iload_n hx hb dJx4a65c_remove_915e3_20 rfl (lv_at hl 3 rfl) ?_
  refine k_v (k := 0) (n := 0) hA B (b_V (q := q) (rest := []) hbq X (c_L_fastRemove l g N ad f q b hq hbq mc z e hf qe n h hqe hbe hfe hne i hz hi1 H.size) mw_Jx4a65c_fastRemove_b59b0 md_Jx4a65c_fastRemove_b59b0 rfl lk_Jx4a65c_144 ⟨Nat.le_of_ble_eq_true rfl, Nat.le_of_ble_eq_true rfl⟩ hA hK hT B hq hf rfl rfl hl.1 rfl (Nat.le_of_ble_eq_true rfl) dJx4a65c_remove_915e3_21 ⟨Nat.le_of_ble_eq_true rfl, Nat.le_of_ble_eq_true rfl⟩) (Nat.le_of_ble_eq_true rfl) (Nat.le_of_ble_eq_true rfl) (fun ad' f' H locs hw B => ?_)
  obtain ⟨rfl, rfl⟩ := hw
  refine lv_aload_n hx hb dJx4a65c_remove_915e3_24 rfl (lv_at hl 0 rfl) ?_
  exact rt_r (r := some v) rfl X hr (Or.inl ⟨_, rfl⟩) (ad, va_up (va_up f q (.inr (2, [.int (mc + 1), .ref e, .int (z - 1)]))) qe (c_ar (g.2.1 5) n (va_up h (z - 1).toNatClampNeg none))) B (PO_of B) ⟨rfl, rfl, rfl⟩ (Nat.le_of_ble_eq_true rfl) (Nat.le_of_ble_eq_true rfl) dJx4a65c_remove_915e3_25
set_option maxHeartbeats 4000000 in
theorem c_L_grow1 (l : Launch) (g : GG) (N : Nat) (ad : Nat → Nat) (f : Nat → va_E) (q b : Nat) (hq : q < N) (hbq : ad q = b) (mc : Int32) (hf : f q = .inr (2, [.int mc, .ref (g.2.2 3), .int 0])) (i : Int32) (ha : ¬ 10 < i) : KR l yJx4a65c_grow_92f84 cJx4a65c_grow_92f84 4 (.array (.object "java/lang/Object")) (rm 1 1 10) g [.ref b, .int i] N ad f (N + 1) (fun r ad' f' => ∃ a : Nat, some a = r ∧ va_up ad N a = ad' ∧ va_up (va_up f N (c_ar (g.2.1 5) 10 (fun _ => none))) q (.inr (2, [.int mc, .ref a, .int 0])) = f') := by
  intro sz
  refine mt_start (by decide) (Nat.le_of_ble_eq_true rfl) ?_
  intro p e0 s m args below meth c hsz X hr hnam hA hK hT H locs B ls hl
  obtain ⟨hx, hb, hml, hown, hts, hlocks⟩ := id X
  have hl : lv_has ls 4 [(0, .ref b), (1, .int i)] := hl
  refine lv_aload_n hx hb dJx4a65c_grow_92f84_0 rfl (lv_at hl 0 rfl) ?_
  refine b_get (q := q) (k := 1) hbq X hK B rfl in_Jx4a65c hq hf (by decide) lk_Jx4a65c_9 rfl rfl dJx4a65c_grow_92f84_1 ?_
  refine va_tlen hx hb hT.2.1.2.2.2.2.2 B.2.2 (v := 0) rfl dJx4a65c_grow_92f84_4 ?_
  refine lv_istore_n (lv' := [(2, .int 0), (0, .ref b), (1, .int i)]) hx hb dJx4a65c_grow_92f84_5 rfl hl (by decide) rfl (fun ls hl => ?_)
  refine lv_iload_n hx hb dJx4a65c_grow_92f84_6 rfl (lv_at hl 0 rfl) ?_
  refine lv_if_gt (tgt := 20) hx hb dJx4a65c_grow_92f84_7 (by decide) (fun z => absurd z (by decide)) (fun _ => ?_)
  refine lv_aload_n hx hb dJx4a65c_grow_92f84_10 rfl (lv_at hl 1 rfl) ?_
  refine b_get (q := q) (k := 1) hbq X hK B rfl in_Jx4a65c hq hf (by decide) lk_Jx4a65c_9 rfl rfl dJx4a65c_grow_92f84_11 ?_
  refine va_gets hx hb hT.2.1.2.2.2.2.1 B.2.2 hown (hts _ (List.mem_cons_of_mem _ lk_Jx4a65c_39)) (fun _ h => h) dJx4a65c_grow_92f84_14 ?_
  refine lv_acmp_eq (rx := some _) (ry := some _) (tgt := 45) hx hb dJx4a65c_grow_92f84_17 (by decide) (fun _ => ?_) (fun z => absurd rfl z)
  refine lv_aload_n hx hb dJx4a65c_grow_92f84_45 rfl (lv_at hl 1 rfl) ?_
  refine lv_bipush (v := 10) hx hb dJx4a65c_grow_92f84_46 (by decide) ?_
  refine lv_iload_n hx hb dJx4a65c_grow_92f84_48 rfl (lv_at hl 2 rfl) ?_
  refine va_mmax (R := (rm 1 1 10)) (cells := 0) (slots := 0) (rest := [.ref b]) hx hb (by rw [hml]; exact hl.1.symm) hown (hts _ (List.mem_cons_of_mem _ lk_Jx4a65c_79)) (hts _ (List.mem_cons_of_mem _ mw_max.2.1)) (hts _ (List.mem_cons_of_mem _ mw_max.2.2)) (hts _ (List.mem_cons_of_mem _ mw_max.1)) (Nat.le_of_ble_eq_true rfl) (Nat.le_of_ble_eq_true rfl) (Nat.le_of_ble_eq_true rfl) (Nat.le_of_ble_eq_true rfl) dJx4a65c_grow_92f84_49 ?_
  rw [if_neg ha]
  refine b_anew (k := 10) (cz := 1) (sz := 10) X hA hK hT B lk_Jx4a65c_7 (by decide) (by decide) (by decide) (Nat.le_of_ble_eq_true rfl) (Nat.le_of_ble_eq_true rfl) (Nat.le_of_ble_eq_true rfl) (Nat.le_of_ble_eq_true rfl) dJx4a65c_grow_92f84_52 (fun z1 H B => ?_)
  refine lv_dup_x1 hx hb dJx4a65c_grow_92f84_55 rfl rfl ?_
  refine b_put (q := q) (k := 1) ((up_lt hq).trans hbq) X hK B rfl in_Jx4a65c tyJx4a65c_ok nmJx4a65c (Nat.lt_succ_of_lt hq) ((up_lt hq).trans hf) (by decide) lk_Jx4a65c_9 rfl rfl rfl rfl rfl (Nat.le_of_ble_eq_true rfl) dJx4a65c_grow_92f84_56 (fun H locs B => ?_)
  have B : WB g (aw N ad sz) s.heap (N + 1) (va_up ad N z1) (va_up (va_up f N (c_ar (g.2.1 5) 10 (fun _ => none))) q (.inr (2, [.int mc, .ref z1, .int 0]))) H locs := B
  exact rt_r (r := some z1) rfl X hr (Or.inr ⟨_, rfl⟩) (va_up ad N z1, va_up (va_up f N (c_ar (g.2.1 5) 10 (fun _ => none))) q (.inr (2, [.int mc, .ref z1, .int 0]))) B (PO_of B) ⟨_, rfl, rfl, rfl⟩ (Nat.le_of_ble_eq_true rfl) (Nat.le_of_ble_eq_true rfl) dJx4a65c_grow_92f84_59
set_option maxHeartbeats 4000000 in
theorem c_L_grow0 (l : Launch) (g : GG) (N : Nat) (ad : Nat → Nat) (f : Nat → va_E) (q b : Nat) (hq : q < N) (hbq : ad q = b) (mc : Int32) (hf : f q = .inr (2, [.int mc, .ref (g.2.2 3), .int 0])) : KR l yJx4a65c_grow_d5877 cJx4a65c_grow_d5877 1 (.array (.object "java/lang/Object")) (rm 2 1 10) g [.ref b] N ad f (N + 1) (fun r ad' f' => ∃ a : Nat, some a = r ∧ va_up ad N a = ad' ∧ va_up (va_up f N (c_ar (g.2.1 5) 10 (fun _ => none))) q (.inr (2, [.int mc, .ref a, .int 0])) = f') := by
  intro sz
  refine mt_start (by decide) (Nat.le_of_ble_eq_true rfl) ?_
  intro p e0 s m args below meth c hsz X hr hnam hA hK hT H locs B ls hl
  obtain ⟨hx, hb, hml, hown, hts, hlocks⟩ := id X
  have hl : lv_has ls 1 [(0, .ref b)] := hl
  refine lv_aload_n hx hb dJx4a65c_grow_d5877_0 rfl (lv_at hl 0 rfl) ?_
  refine lv_aload_n hx hb dJx4a65c_grow_d5877_1 rfl (lv_at hl 0 rfl) ?_
  refine b_get (q := q) (k := 2) hbq X hK B rfl in_Jx4a65c hq hf (by decide) lk_Jx4a65c_48 rfl rfl dJx4a65c_grow_d5877_2 ?_
  refine lv_iconst (v := 1) hx hb dJx4a65c_grow_d5877_5 (by decide) ?_
  refine lv_iadd hx hb dJx4a65c_grow_d5877_6 ?_
  refine k_r (k := 1) (n := 10) hA B (b_V (q := q) (rest := []) hbq X (c_L_grow1 l g N ad f q b hq hbq mc hf (0 + 1) (by decide) H.size) mw_Jx4a65c_grow_92f84 md_Jx4a65c_grow_92f84 rfl lk_Jx4a65c_69 ⟨Nat.le_of_ble_eq_true rfl, Nat.le_of_ble_eq_true rfl⟩ hA hK hT B hq hf rfl rfl hl.1 rfl (Nat.le_of_ble_eq_true rfl) dJx4a65c_grow_d5877_7 ⟨Nat.le_of_ble_eq_true rfl, Nat.le_of_ble_eq_true rfl⟩) (Nat.le_of_ble_eq_true rfl) (Nat.le_of_ble_eq_true rfl) (fun r ad' f' H locs hw B => ?_)
  obtain ⟨z1, rfl, rfl, rfl⟩ := hw
  exact rt_r (r := some z1) rfl X hr (Or.inr ⟨_, rfl⟩) (va_up ad N z1, va_up (va_up f N (c_ar (g.2.1 5) 10 (fun _ => none))) q (.inr (2, [.int mc, .ref z1, .int 0]))) B (PO_of B) ⟨_, rfl, rfl, rfl⟩ (Nat.le_of_ble_eq_true rfl) (Nat.le_of_ble_eq_true rfl) dJx4a65c_grow_d5877_10
set_option maxHeartbeats 4000000 in
theorem c_L_add3Z (l : Launch) (g : GG) (N : Nat) (ad : Nat → Nat) (f : Nat → va_E) (q b : Nat) (hq : q < N) (hbq : ad q = b) (mc : Int32) (hf : f q = .inr (2, [.int mc, .ref (g.2.2 3), .int 0])) (qv bv : Nat) (t : TR) (hqv : qv < N) (hbv : ad qv = bv) (hfv : f qv = c_row g t) (hnv : q ≠ qv) : KV l yJx4a65c_add_72be8 cJx4a65c_add_72be8 4 (rm 3 1 10) g [.ref b, .ref bv, .ref (g.2.2 3), .int 0] N ad f (N + 1) (fun ad' f' => ∃ a : Nat, va_up ad N a = ad' ∧ va_up (va_up (va_up (va_up f N (c_ar (g.2.1 5) 10 (fun _ => none))) q (.inr (2, [.int mc, .ref a, .int 0]))) N (c_ar (g.2.1 5) 10 (va_up (fun _ => none) (0 : Int32).toNatClampNeg (some bv)))) q (.inr (2, [.int mc, .ref a, .int (0 + 1)])) = f') := by
  intro sz
  refine mt_start (by decide) (Nat.le_of_ble_eq_true rfl) ?_
  intro p e0 s m args below meth c hsz X hr hnam hA hK hT H locs B ls hl
  obtain ⟨hx, hb, hml, hown, hts, hlocks⟩ := id X
  have hl : lv_has ls 4 [(0, .ref b), (1, .ref bv), (2, .ref (g.2.2 3)), (3, .int 0)] := hl
  refine lv_iload_n hx hb dJx4a65c_add_72be8_0 rfl (lv_at hl 3 rfl) ?_
  refine lv_aload_n hx hb dJx4a65c_add_72be8_1 rfl (lv_at hl 2 rfl) ?_
  refine va_tlen hx hb hT.2.1.2.2.2.2.2 B.2.2 (v := 0) rfl dJx4a65c_add_72be8_2 ?_
  refine lv_icmp_ne (tgt := 11) hx hb dJx4a65c_add_72be8_3 (by decide) (fun z => absurd z (by decide)) (fun _ => ?_)
  refine lv_aload_n hx hb dJx4a65c_add_72be8_6 rfl (lv_at hl 0 rfl) ?_
  refine k_r (k := 1) (n := 10) hA B (b_V (q := q) (rest := []) hbq X (c_L_grow0 l g N ad f q b hq hbq mc hf H.size) mw_Jx4a65c_grow_d5877 md_Jx4a65c_grow_d5877 rfl lk_Jx4a65c_129 ⟨Nat.le_of_ble_eq_true rfl, Nat.le_of_ble_eq_true rfl⟩ hA hK hT B hq hf rfl rfl hl.1 rfl (Nat.le_of_ble_eq_true rfl) dJx4a65c_add_72be8_7 ⟨Nat.le_of_ble_eq_true rfl, Nat.le_of_ble_eq_true rfl⟩) (Nat.le_of_ble_eq_true rfl) (Nat.le_of_ble_eq_true rfl) (fun r ad' f' H locs hw B => ?_)
  obtain ⟨z1, rfl, rfl, rfl⟩ := hw
  refine lv_astore_n (lv' := [(2, .ref z1), (0, .ref b), (1, .ref bv), (3, .int 0)]) hx hb dJx4a65c_add_72be8_10 rfl hl (by decide) rfl (fun ls hl => ?_)
  refine lv_aload_n hx hb dJx4a65c_add_72be8_11 rfl (lv_at hl 0 rfl) ?_
  refine lv_iload_n hx hb dJx4a65c_add_72be8_12 rfl (lv_at hl 3 rfl) ?_
  refine lv_aload_n hx hb dJx4a65c_add_72be8_13 rfl (lv_at hl 2 rfl) ?_
  refine b_aastO (q := N) (qv := qv) up_eq X hK hT B (Nat.lt_succ_self _) ((va_up_ne _ _ (fun z => Nat.ne_of_lt hq z.symm)).trans up_eq) (Nat.lt_succ_of_lt hqv) ((up_lt hqv).trans hbv) ((va_up_ne _ _ (fun z => hnv z.symm)).trans ((up_lt hqv).trans hfv)) (by unfold vp_in; decide) dJx4a65c_add_72be8_14 (fun H locs B => ?_)
  have B : WB g (aw N ad sz) s.heap (N + 1) (va_up ad N z1) (va_up (va_up (va_up f N (c_ar (g.2.1 5) 10 (fun _ => none))) q (.inr (2, [.int mc, .ref z1, .int 0]))) N (c_ar (g.2.1 5) 10 (va_up (fun _ => none) (0 : Int32).toNatClampNeg (some bv)))) H locs := B
  refine lv_aload_n hx hb dJx4a65c_add_72be8_15 rfl (lv_at hl 1 rfl) ?_
  refine lv_iload_n hx hb dJx4a65c_add_72be8_16 rfl (lv_at hl 3 rfl) ?_
  refine lv_iconst (v := 1) hx hb dJx4a65c_add_72be8_17 (by decide) ?_
  refine lv_iadd hx hb dJx4a65c_add_72be8_18 ?_
  refine b_put (q := q) (k := 2) ((up_lt hq).trans hbq) X hK B rfl in_Jx4a65c tyJx4a65c_ok nmJx4a65c (Nat.lt_succ_of_lt hq) ((va_up_ne _ _ (Nat.ne_of_lt hq)).trans (va_up_self _ _ _)) (by decide) lk_Jx4a65c_48 rfl rfl rfl rfl rfl (Nat.le_of_ble_eq_true rfl) dJx4a65c_add_72be8_19 (fun H locs B => ?_)
  have B : WB g (aw N ad sz) s.heap (N + 1) (va_up ad N z1) (va_up (va_up (va_up (va_up f N (c_ar (g.2.1 5) 10 (fun _ => none))) q (.inr (2, [.int mc, .ref z1, .int 0]))) N (c_ar (g.2.1 5) 10 (va_up (fun _ => none) (0 : Int32).toNatClampNeg (some bv)))) q (.inr (2, [.int mc, .ref z1, .int (0 + 1)]))) H locs := B
  exact rt_v X hr (va_up ad N z1, va_up (va_up (va_up (va_up f N (c_ar (g.2.1 5) 10 (fun _ => none))) q (.inr (2, [.int mc, .ref z1, .int 0]))) N (c_ar (g.2.1 5) 10 (va_up (fun _ => none) (0 : Int32).toNatClampNeg (some bv)))) q (.inr (2, [.int mc, .ref z1, .int (0 + 1)]))) B (PO_of B) ⟨_, rfl, rfl⟩ (Nat.le_of_ble_eq_true rfl) (Nat.le_of_ble_eq_true rfl) dJx4a65c_add_72be8_22
set_option maxHeartbeats 4000000 in
theorem c_L_addZ (l : Launch) (g : GG) (N : Nat) (ad : Nat → Nat) (f : Nat → va_E) (q b : Nat) (hq : q < N) (hbq : ad q = b) (mc : Int32) (hf : f q = .inr (2, [.int mc, .ref (g.2.2 3), .int 0])) (qv bv : Nat) (t : TR) (hqv : qv < N) (hbv : ad qv = bv) (hfv : f qv = c_row g t) (hnv : q ≠ qv) : KI l yJx4a65c_add_9ea2d cJx4a65c_add_9ea2d 2 (some .boolean) (rm 4 1 10) g [.ref b, .ref bv] N ad f (N + 1) (fun r ad' f' => ∃ a : Nat, va_up ad N a = ad' ∧ va_up (va_up (va_up (va_up (va_up f q (.inr (2, [.int (mc + 1), .ref (g.2.2 3), .int 0]))) N (c_ar (g.2.1 5) 10 (fun _ => none))) q (.inr (2, [.int (mc + 1), .ref a, .int 0]))) N (c_ar (g.2.1 5) 10 (va_up (fun _ => none) (0 : Int32).toNatClampNeg (some bv)))) q (.inr (2, [.int (mc + 1), .ref a, .int (0 + 1)])) = f') := by
  intro sz
  refine mt_start (by decide) (Nat.le_of_ble_eq_true rfl) ?_
  intro p e0 s m args below meth c hsz X hr hnam hA hK hT H locs B ls hl
  obtain ⟨hx, hb, hml, hown, hts, hlocks⟩ := id X
  have hl : lv_has ls 2 [(0, .ref b), (1, .ref bv)] := hl
  refine lv_aload_n hx hb dJx4a65c_add_9ea2d_0 rfl (lv_at hl 0 rfl) ?_
  refine lv_dup hx hb dJx4a65c_add_9ea2d_1 rfl ?_
  refine b_getS (q := q) (k := 0) hbq X hK B rfl in_Jx4a65c hq hf (by decide) lk_Jx4a65c_63 sf_mod rfl dJx4a65c_add_9ea2d_2 ?_
  refine lv_iconst (v := 1) hx hb dJx4a65c_add_9ea2d_5 (by decide) ?_
  refine lv_iadd hx hb dJx4a65c_add_9ea2d_6 ?_
  refine b_putS (q := q) (k := 0) hbq X hK B rfl in_Jx4a65c tyJx4a65c_ok nmJx4a65c hq hf (by decide) lk_Jx4a65c_63 sf_mod rfl rfl rfl rfl (Nat.le_of_ble_eq_true rfl) dJx4a65c_add_9ea2d_7 (fun H locs B => ?_)
  have B : WB g (aw N ad sz) s.heap N ad (va_up f q (.inr (2, [.int (mc + 1), .ref (g.2.2 3), .int 0]))) H locs := B
  refine lv_aload_n hx hb dJx4a65c_add_9ea2d_10 rfl (lv_at hl 0 rfl) ?_
  refine lv_aload_n hx hb dJx4a65c_add_9ea2d_11 rfl (lv_at hl 1 rfl) ?_
  refine lv_aload_n hx hb dJx4a65c_add_9ea2d_12 rfl (lv_at hl 0 rfl) ?_
  refine b_get (q := q) (k := 1) hbq X hK B rfl in_Jx4a65c hq (va_up_self _ _ _) (by decide) lk_Jx4a65c_9 rfl rfl dJx4a65c_add_9ea2d_13 ?_
  refine lv_aload_n hx hb dJx4a65c_add_9ea2d_16 rfl (lv_at hl 0 rfl) ?_
  refine b_get (q := q) (k := 2) hbq X hK B rfl in_Jx4a65c hq (va_up_self _ _ _) (by decide) lk_Jx4a65c_48 rfl rfl dJx4a65c_add_9ea2d_17 ?_
  refine k_v (k := 1) (n := 10) hA B (b_V (q := q) (rest := []) hbq X (c_L_add3Z l g N ad (va_up f q (.inr (2, [.int (mc + 1), .ref (g.2.2 3), .int 0]))) q b hq hbq (mc + 1) (va_up_self _ _ _) qv bv t hqv hbv ((va_up_ne _ _ (fun z => hnv z.symm)).trans hfv) hnv H.size) mw_Jx4a65c_add_72be8 md_Jx4a65c_add_72be8 rfl lk_Jx4a65c_131 ⟨Nat.le_of_ble_eq_true rfl, Nat.le_of_ble_eq_true rfl⟩ hA hK hT B hq (va_up_self _ _ _) rfl rfl hl.1 rfl (Nat.le_of_ble_eq_true rfl) dJx4a65c_add_9ea2d_20 ⟨Nat.le_of_ble_eq_true rfl, Nat.le_of_ble_eq_true rfl⟩) (Nat.le_of_ble_eq_true rfl) (Nat.le_of_ble_eq_true rfl) (fun ad' f' H locs hw B => ?_)
  obtain ⟨z1, rfl, rfl⟩ := hw
  refine lv_iconst (v := 1) hx hb dJx4a65c_add_9ea2d_23 (by decide) ?_
  exact rt_i X hr (va_up ad N z1, va_up (va_up (va_up (va_up (va_up f q (.inr (2, [.int (mc + 1), .ref (g.2.2 3), .int 0]))) N (c_ar (g.2.1 5) 10 (fun _ => none))) q (.inr (2, [.int (mc + 1), .ref z1, .int 0]))) N (c_ar (g.2.1 5) 10 (va_up (fun _ => none) (0 : Int32).toNatClampNeg (some bv)))) q (.inr (2, [.int (mc + 1), .ref z1, .int (0 + 1)]))) B (PO_of B) ⟨_, rfl, rfl⟩ rfl (Nat.le_of_ble_eq_true rfl) (Nat.le_of_ble_eq_true rfl) dJx4a65c_add_9ea2d_24
set_option maxHeartbeats 4000000 in
theorem c_L_add3 (l : Launch) (g : GG) (N : Nat) (ad : Nat → Nat) (f : Nat → va_E) (q b : Nat) (hq : q < N) (hbq : ad q = b) (mc z : Int32) (e : Nat) (hf : f q = .inr (2, [.int mc, .ref e, .int z])) (qe n : Nat) (h : Nat → Option Nat) (hqe : qe < N) (hbe : ad qe = e) (hfe : f qe = c_ar (g.2.1 5) n h) (hne : q ≠ qe) (qv bv : Nat) (t : TR) (hqv : qv < N) (hbv : ad qv = bv) (hfv : f qv = c_row g t) (hnv : q ≠ qv) (hnw : qe ≠ qv) (hzn : ¬ z = Int32.ofNat n) (hi : vp_in z n) : KV l yJx4a65c_add_72be8 cJx4a65c_add_72be8 4 (rm 0 0 0) g [.ref b, .ref bv, .ref e, .int z] N ad f N (fun ad' f' => ad = ad' ∧ va_up (va_up (f) qe (c_ar (g.2.1 5) n (va_up h z.toNatClampNeg (some bv)))) q (.inr (2, [.int mc, .ref e, .int (z + 1)])) = f') := by
  intro sz
  refine mt_start (by decide) (Nat.le_of_ble_eq_true rfl) ?_
  intro p e0 s m args below meth c hsz X hr hnam hA hK hT H locs B ls hl
  obtain ⟨hx, hb, hml, hown, hts, hlocks⟩ := id X
  have hl : lv_has ls 4 [(0, .ref b), (1, .ref bv), (2, .ref e), (3, .int z)] := hl
  refine lv_iload_n hx hb dJx4a65c_add_72be8_0 rfl (lv_at hl 3 rfl) ?_
  refine lv_aload_n hx hb dJx4a65c_add_72be8_1 rfl (lv_at hl 2 rfl) ?_
  refine b_alen (t0 := 5) (v := Int32.ofNat n) hbe X hK B hqe hfe rfl rfl dJx4a65c_add_72be8_2 ?_
  refine lv_icmp_ne (tgt := 11) hx hb dJx4a65c_add_72be8_3 (by decide) (fun _ => ?_) (fun z => absurd z hzn)
  refine lv_aload_n hx hb dJx4a65c_add_72be8_11 rfl (lv_at hl 2 rfl) ?_
  refine lv_iload_n hx hb dJx4a65c_add_72be8_12 rfl (lv_at hl 3 rfl) ?_
  refine lv_aload_n hx hb dJx4a65c_add_72be8_13 rfl (lv_at hl 1 rfl) ?_
  refine b_aastO (q := qe) (qv := qv) hbe X hK hT B hqe hfe hqv hbv hfv hi dJx4a65c_add_72be8_14 (fun H locs B => ?_)
  have B : WB g (aw N ad sz) s.heap N ad (va_up f qe (c_ar (g.2.1 5) n (va_up h z.toNatClampNeg (some bv)))) H locs := B
  refine lv_aload_n hx hb dJx4a65c_add_72be8_15 rfl (lv_at hl 0 rfl) ?_
  refine lv_iload_n hx hb dJx4a65c_add_72be8_16 rfl (lv_at hl 3 rfl) ?_
  refine lv_iconst (v := 1) hx hb dJx4a65c_add_72be8_17 (by decide) ?_
  refine lv_iadd hx hb dJx4a65c_add_72be8_18 ?_
  refine b_put (q := q) (k := 2) hbq X hK B rfl in_Jx4a65c tyJx4a65c_ok nmJx4a65c hq ((va_up_ne _ _ hne).trans hf) (by decide) lk_Jx4a65c_48 rfl rfl rfl rfl rfl (Nat.le_of_ble_eq_true rfl) dJx4a65c_add_72be8_19 (fun H locs B => ?_)
  have B : WB g (aw N ad sz) s.heap N ad (va_up (va_up f qe (c_ar (g.2.1 5) n (va_up h z.toNatClampNeg (some bv)))) q (.inr (2, [.int mc, .ref e, .int (z + 1)]))) H locs := B
  exact rt_v X hr (ad, va_up (va_up f qe (c_ar (g.2.1 5) n (va_up h z.toNatClampNeg (some bv)))) q (.inr (2, [.int mc, .ref e, .int (z + 1)]))) B (PO_of B) ⟨rfl, rfl⟩ (Nat.le_of_ble_eq_true rfl) (Nat.le_of_ble_eq_true rfl) dJx4a65c_add_72be8_22
set_option maxHeartbeats 4000000 in
theorem c_L_add (l : Launch) (g : GG) (N : Nat) (ad : Nat → Nat) (f : Nat → va_E) (q b : Nat) (hq : q < N) (hbq : ad q = b) (mc z : Int32) (e : Nat) (hf : f q = .inr (2, [.int mc, .ref e, .int z])) (qe n : Nat) (h : Nat → Option Nat) (hqe : qe < N) (hbe : ad qe = e) (hfe : f qe = c_ar (g.2.1 5) n h) (hne : q ≠ qe) (qv bv : Nat) (t : TR) (hqv : qv < N) (hbv : ad qv = bv) (hfv : f qv = c_row g t) (hnv : q ≠ qv) (hnw : qe ≠ qv) (hzn : ¬ z = Int32.ofNat n) (hi : vp_in z n) : KI l yJx4a65c_add_9ea2d cJx4a65c_add_9ea2d 2 (some .boolean) (rm 1 0 0) g [.ref b, .ref bv] N ad f N (fun r ad' f' => ad = ad' ∧ va_up (va_up (va_up f q (.inr (2, [.int (mc + 1), .ref e, .int z]))) qe (c_ar (g.2.1 5) n (va_up h z.toNatClampNeg (some bv)))) q (.inr (2, [.int (mc + 1), .ref e, .int (z + 1)])) = f') := by
  intro sz
  refine mt_start (by decide) (Nat.le_of_ble_eq_true rfl) ?_
  intro p e0 s m args below meth c hsz X hr hnam hA hK hT H locs B ls hl
  obtain ⟨hx, hb, hml, hown, hts, hlocks⟩ := id X
  have hl : lv_has ls 2 [(0, .ref b), (1, .ref bv)] := hl
  refine lv_aload_n hx hb dJx4a65c_add_9ea2d_0 rfl (lv_at hl 0 rfl) ?_
  refine lv_dup hx hb dJx4a65c_add_9ea2d_1 rfl ?_
  refine b_getS (q := q) (k := 0) hbq X hK B rfl in_Jx4a65c hq hf (by decide) lk_Jx4a65c_63 sf_mod rfl dJx4a65c_add_9ea2d_2 ?_
  refine lv_iconst (v := 1) hx hb dJx4a65c_add_9ea2d_5 (by decide) ?_
  refine lv_iadd hx hb dJx4a65c_add_9ea2d_6 ?_
  refine b_putS (q := q) (k := 0) hbq X hK B rfl in_Jx4a65c tyJx4a65c_ok nmJx4a65c hq hf (by decide) lk_Jx4a65c_63 sf_mod rfl rfl rfl rfl (Nat.le_of_ble_eq_true rfl) dJx4a65c_add_9ea2d_7 (fun H locs B => ?_)
  have B : WB g (aw N ad sz) s.heap N ad (va_up f q (.inr (2, [.int (mc + 1), .ref e, .int z]))) H locs := B
  refine lv_aload_n hx hb dJx4a65c_add_9ea2d_10 rfl (lv_at hl 0 rfl) ?_
  refine lv_aload_n hx hb dJx4a65c_add_9ea2d_11 rfl (lv_at hl 1 rfl) ?_
  refine lv_aload_n hx hb dJx4a65c_add_9ea2d_12 rfl (lv_at hl 0 rfl) ?_
  refine b_get (q := q) (k := 1) hbq X hK B rfl in_Jx4a65c hq (va_up_self _ _ _) (by decide) lk_Jx4a65c_9 rfl rfl dJx4a65c_add_9ea2d_13 ?_
  refine lv_aload_n hx hb dJx4a65c_add_9ea2d_16 rfl (lv_at hl 0 rfl) ?_
  refine b_get (q := q) (k := 2) hbq X hK B rfl in_Jx4a65c hq (va_up_self _ _ _) (by decide) lk_Jx4a65c_48 rfl rfl dJx4a65c_add_9ea2d_17 ?_
  refine k_v (k := 0) (n := 0) hA B (b_V (q := q) (rest := []) hbq X (c_L_add3 l g N ad (va_up f q (.inr (2, [.int (mc + 1), .ref e, .int z]))) q b hq hbq (mc + 1) z e (va_up_self _ _ _) qe n h hqe hbe ((va_up_ne _ _ (fun z => hne z.symm)).trans hfe) hne qv bv t hqv hbv ((va_up_ne _ _ (fun z => hnv z.symm)).trans hfv) hnv hnw hzn hi H.size) mw_Jx4a65c_add_72be8 md_Jx4a65c_add_72be8 rfl lk_Jx4a65c_131 ⟨Nat.le_of_ble_eq_true rfl, Nat.le_of_ble_eq_true rfl⟩ hA hK hT B hq (va_up_self _ _ _) rfl rfl hl.1 rfl (Nat.le_of_ble_eq_true rfl) dJx4a65c_add_9ea2d_20 ⟨Nat.le_of_ble_eq_true rfl, Nat.le_of_ble_eq_true rfl⟩) (Nat.le_of_ble_eq_true rfl) (Nat.le_of_ble_eq_true rfl) (fun ad' f' H locs hw B => ?_)
  obtain ⟨rfl, rfl⟩ := hw
  refine lv_iconst (v := 1) hx hb dJx4a65c_add_9ea2d_23 (by decide) ?_
  exact rt_i X hr (ad, va_up (va_up (va_up f q (.inr (2, [.int (mc + 1), .ref e, .int z]))) qe (c_ar (g.2.1 5) n (va_up h z.toNatClampNeg (some bv)))) q (.inr (2, [.int (mc + 1), .ref e, .int (z + 1)]))) B (PO_of B) ⟨rfl, rfl⟩ rfl (Nat.le_of_ble_eq_true rfl) (Nat.le_of_ble_eq_true rfl) dJx4a65c_add_9ea2d_24
end
section
/-! the reference's world: more ways on -/
theorem va_eq.trans {a b c : va_E} (h1 : va_eq a b) (h2 : va_eq b c) : va_eq a c := by
  rcases h1 with rfl | ⟨cA, n, h, h', rfl, rfl, e⟩
  · exact h2
  · rcases h2 with rfl | ⟨cB, m, k, k', e1, rfl, e2⟩
    · exact Or.inr ⟨cA, n, h, h', rfl, rfl, e⟩
    · injection e1 with e1
      injection e1 with ea eb
      injection eb with ec ed
      injection ed with ed
      injection ed with ed
      injection ed with ed
      injection ed with ed
      subst ea ec ed
      exact Or.inr ⟨cA, n, h, k', rfl, rfl, fun j hj => (e j hj).trans (e2 j hj)⟩
section MGX
variable {g : GG} {ad ad' : Nat → Nat} {y y' : Nat → va_E} {cr cr' dr : Nat → TR} {th kn rf : Int32} {pl pl' : Nat → TR} {pz pz' : Nat} {mc mc' : Int32}
/-- but for one card's place -/
theorem mg_adx {i k : Nat} (hi : i < 4) (h : ∀ j, j < 36 + pz → 25 ≤ j → j ≠ 28 + i → ad' j = ad j) (hk : k ≠ 25) (hk2 : k ≠ 28 + i) (hy : y' k = y k) (hc : ∀ j, j ≠ i → cr' j = cr j) : va_eq (mg g ad' y' cr' dr th kn rf pl pz mc k) (mg g ad y cr dr th kn rf pl pz mc k) := by
  rcases mg_cases pz k with h1 | rfl | rfl | rfl | rfl | ⟨j, hj, rfl⟩ | ⟨j, hj, rfl⟩ | ⟨rfl, hp⟩ | ⟨j, hj, rfl⟩ | h1
  · rw [mg_lo h1, mg_lo h1]; exact Or.inl hy
  · rw [mg_24, mg_24]; unfold c_md; rw [h 25 (by omega) (by omega) (by omega), h 26 (by omega) (by omega) (by omega), h 27 (by omega) (by omega) (by omega)]; exact Or.inl rfl
  · exact absurd rfl hk
  · rw [mg_26, mg_26]; exact Or.inr ⟨_, _, _, _, rfl, rfl, fun j hj => by rw [h _ (by omega) (by omega) (by omega)]⟩
  · rw [mg_27, mg_27]; unfold c_al
    by_cases hp : pz = 0
    · rw [if_pos hp, if_pos hp]; exact Or.inl rfl
    · rw [if_neg hp, if_neg hp, h 36 (by omega) (by omega) (by omega)]; exact Or.inl rfl
  · rw [mg_cr hj, mg_cr hj, hc j (by omega)]; exact Or.inl rfl
  · rw [mg_dr hj, mg_dr hj]; exact Or.inl rfl
  · rw [mg_ed hp, mg_ed hp]
    refine Or.inr ⟨_, _, _, _, rfl, rfl, fun j hj => ?_⟩
    by_cases h2 : j + 1 < pz
    · rw [if_pos h2, if_pos h2, h _ (by omega) (by omega) (by omega)]
    · rw [if_neg h2, if_neg h2]
  · rw [mg_pl hj, mg_pl hj]; exact Or.inl rfl
  · rw [mg_hi h1, mg_hi h1]; exact Or.inl hy
/-- what lies below the pile, but for the list -/
theorem mg_low {k : Nat} (hk : k < 36) (h27 : k ≠ 27) (h : ∀ j, j < 36 → 25 ≤ j → ad' j = ad j) (hy : k < 24 → y' k = y k) : va_eq (mg g ad' y' cr dr th kn rf pl' pz' mc' k) (mg g ad y cr dr th kn rf pl pz mc k) := by
  rcases mg_cases 0 k with h1 | rfl | rfl | rfl | rfl | ⟨j, hj, rfl⟩ | ⟨j, hj, rfl⟩ | ⟨rfl, hp⟩ | ⟨j, hj, rfl⟩ | h1
  · rw [mg_lo h1, mg_lo h1]; exact Or.inl (hy h1)
  · rw [mg_24, mg_24]; unfold c_md; rw [h 25 (by omega) (by omega), h 26 (by omega) (by omega), h 27 (by omega) (by omega)]; exact Or.inl rfl
  · rw [mg_25, mg_25]; exact Or.inr ⟨_, _, _, _, rfl, rfl, fun j hj => by rw [h _ (by omega) (by omega)]⟩
  · rw [mg_26, mg_26]; exact Or.inr ⟨_, _, _, _, rfl, rfl, fun j hj => by rw [h _ (by omega) (by omega)]⟩
  · exact absurd rfl h27
  · rw [mg_cr hj, mg_cr hj]; exact Or.inl rfl
  · rw [mg_dr hj, mg_dr hj]; exact Or.inl rfl
  · omega
  · omega
  · omega
theorem mg_27p (h : 0 < pz) : mg g ad y cr dr th kn rf pl pz mc 27 = .inr (2, [.int mc, .ref (ad 36), .int (Int32.ofNat (pz - 1))]) := by
  rw [mg_27]
  unfold c_al
  rw [if_neg (by omega)]
theorem mg_27z (h : pz = 0) : mg g ad y cr dr th kn rf pl pz mc 27 = .inr (2, [.int mc, .ref (g.2.2 3), .int 0]) := by
  rw [mg_27]
  unfold c_al
  rw [if_pos h, h]
  rfl
end MGX
/-! sizes -/
theorem sz_toInt {n : Nat} (h : n ≤ 9) : (Int32.ofNat n).toInt = (n : Int) := nI_toInt (n := n) (by omega)
theorem sz_clamp {n : Nat} (h : n ≤ 9) : (Int32.ofNat n).toNatClampNeg = n := nI_clamp (n := n) (by omega)
theorem sz_pred {n : Nat} (h : 1 ≤ n) : Int32.ofNat n - 1 = Int32.ofNat (n - 1) := by
  obtain ⟨m, rfl⟩ : ∃ m, n = m + 1 := ⟨n - 1, by omega⟩
  exact nI_pred m
theorem pl_ix {pz : Nat} {k : Int32} (hz : pz ≤ 9) (h1 : ¬ k < 0) (h2 : ¬ Int32.ofNat (pz - 1) ≤ k) : k.toNatClampNeg + 1 < pz := by
  obtain ⟨j, hj, rfl⟩ := nI_of h1
  rw [nI_clamp hj]
  rw [Int32.le_iff_toInt_le, nI_toInt hj, sz_toInt (by omega)] at h2
  omega
theorem pl_in {pz : Nat} {k : Int32} (hz : pz ≤ 9) (h1 : ¬ k < 0) (h : k.toNatClampNeg + 1 < pz) : vp_in k 10 := fun q => q.elim h1 (fun q => by omega)
theorem al_sz {pz : Nat} (hz : pz ≤ 9) : ((Int32.ofNat (pz - 1)).toInt - (0 : Int32).toInt).toNat + 1 ≤ 9 := by
  rw [sz_toInt (by omega)]
  have e : (0 : Int32).toInt = 0 := rfl
  omega
theorem al_12 {n : Int32} (h : ¬ v_X4_isIn n.toInt64 1 12 = 0) : (n.toInt - (0 : Int32).toInt).toNat + 1 ≤ 13 := by
  have h2 := isin_mo h
  have e : (0 : Int32).toInt = 0 := rfl
  omega
theorem sz_ne {pz : Nat} (hz : pz ≤ 9) (h8 : ¬ Int32.ofNat (pz - 1) = 8) : pz ≤ 8 := by
  rcases Nat.lt_or_ge 8 pz with h | h
  · have e : pz = 9 := by omega
    subst e
    exact absurd rfl h8
  · exact h
theorem sz_full {n : Nat} (h : n ≤ 9) : ¬ Int32.ofNat n = Int32.ofNat 10 := fun q => by
  have e := congrArg Int32.toInt q
  rw [sz_toInt h, show (Int32.ofNat 10).toInt = 10 from rfl] at e
  omega
theorem sz_in {n : Nat} (h : n ≤ 9) : vp_in (Int32.ofNat n) 10 := nI_in (c := n) (N := 10) (by omega) (by decide)
theorem sz_nn {n : Nat} (h : n ≤ 9) : ¬ Int32.ofNat n < 0 := nI_pos (n := n) (by omega)
theorem sz_zero {pz : Nat} (h : (if Int32.ofNat (pz - 1) = 0 then (1 : Int32) else 0) = 0) : 2 ≤ pz := by
  rcases Nat.lt_or_ge pz 2 with q | q
  · have e : pz - 1 = 0 := by omega
    rw [e] at h
    exact absurd h (by decide)
  · exact q
/-- what become leaves is in the calendar -/
theorem become_okd {dr : Nat → TR} {a : Int32} {t : TR} (hd : ∀ i, i < 4 → okd (dr i)) (ht : okd t) : ∀ i, i < 4 → okd ((v_X4_become dr a t).2 i) := by
  intro i hi
  unfold v_X4_become
  have h : okd (va_up dr a.toNatClampNeg (t.1, t.2.1, t.2.2) i) := by
    by_cases e : i = a.toNatClampNeg
    · rw [e, va_up_self]; exact ht
    · rw [va_up_ne _ _ e]; exact hd i hi
  by_cases c : v_X4_number (dr a.toNatClampNeg) = v_X4_number t
  · rw [if_pos c]; exact h
  · rw [if_neg c]; exact h
section WMX
variable {g : GG} {A : Nat → Prop} {H0 H : Heap} {N M : Nat} {ad ad' adA : Nat → Nat} {y y' yA : Nat → va_E} {f' : Nat → va_E} {cr dr : Nat → TR} {th kn rf : Int32} {pl : Nat → TR} {pz : Nat} {mc mc1 : Int32} {locs : List Loc}
/-- a new row takes a card's place; the old one is kept at the end -/
theorem WM_crK {a i : Nat} {t : TR} {h0 : Nat → Option Nat} (B : WB g A H0 (N + 1) (va_up ad N a) (va_up (mg g (va_up ad N a) (va_up y N (c_row g t)) cr dr th kn rf pl pz mc) 25 (c_ar (g.2.1 2) 4 (va_up h0 i (some a)))) H locs) (hh : ∀ j, h0 j = some (va_up ad N a (28 + j))) (hN : 36 + pz ≤ N) (hi : i < 4) : WB g A H0 (N + 1) (va_up (va_up ad (28 + i) a) N (ad (28 + i))) (mg g (va_up (va_up ad (28 + i) a) N (ad (28 + i))) (va_up y N (c_row g (cr i))) (va_up cr i t) dr th kn rf pl pz mc) H locs := by
  refine WB_map (fun k => if k = 28 + i then N else if k = N then 28 + i else k) B (fun k hk => ?_) (fun p q hp hq e => ?_) (fun k hk => ?_) (fun k hk => ?_)
  · show (if k = 28 + i then N else if k = N then 28 + i else k) < _
    by_cases h : k = 28 + i
    · rw [if_pos h]; omega
    · rw [if_neg h]
      by_cases h' : k = N
      · rw [if_pos h']; omega
      · rw [if_neg h']; omega
  · have e : (if p = 28 + i then N else if p = N then 28 + i else p) = (if q = 28 + i then N else if q = N then 28 + i else q) := e
    by_cases h : p = 28 + i <;> by_cases h' : q = 28 + i <;> by_cases k : p = N <;> by_cases k' : q = N <;> simp only [h, h', k, k', if_pos, if_neg, if_true, if_false, not_true, not_false_eq_true] at e <;> first | omega | (rw [if_pos rfl] at e; omega) | (split at e <;> omega) | (split at e <;> split at e <;> omega)
  · show _ = va_up ad N a (if k = 28 + i then N else if k = N then 28 + i else k)
    by_cases h : k = 28 + i
    · rw [if_pos h, h, va_up_self, va_up_ne _ _ (by omega), va_up_self]
    · rw [if_neg h]
      by_cases h' : k = N
      · rw [if_pos h', h', va_up_self, va_up_ne _ _ (by omega)]
      · rw [if_neg h', va_up_ne _ _ h', va_up_ne _ _ h, va_up_ne _ _ h']
  · show va_eq _ (va_up (mg g (va_up ad N a) (va_up y N (c_row g t)) cr dr th kn rf pl pz mc) 25 _ (if k = 28 + i then N else if k = N then 28 + i else k))
    by_cases h : k = 28 + i
    · rw [if_pos h, h, mg_cr hi, va_up_self, va_up_ne _ _ (by omega), mg_hi hN, va_up_self]
      exact Or.inl rfl
    · rw [if_neg h]
      by_cases h' : k = N
      · rw [if_pos h', h', mg_hi hN, va_up_self, va_up_ne _ _ (by omega), mg_cr hi]
        exact Or.inl rfl
      · rw [if_neg h']
        by_cases h25 : k = 25
        · rw [h25, va_up_self, mg_25]
          refine Or.inr ⟨_, _, _, _, rfl, rfl, fun j hj => ?_⟩
          by_cases hji : j = i
          · rw [hji, va_up_self, va_up_ne _ _ (by omega), va_up_self]
          · rw [va_up_ne _ _ (by omega), va_up_ne _ _ (by omega), va_up_ne _ _ hji, hh, va_up_ne _ _ (by omega)]
        · rw [va_up_ne _ _ h25]
          refine mg_adx hi (fun j h1 _ h3 => ?_) h25 h ?_ (fun j hj => va_up_ne _ _ hj)
          · rw [va_up_ne _ _ (by omega), va_up_ne _ _ h3, va_up_ne _ _ (by omega)]
          · rw [va_up_ne _ _ h', va_up_ne _ _ h']
/-- of many new rows one is kept -/
theorem WM_pick {q b : Nat} {t : TR} (B : WB g A H0 M ad' (mg g ad' y' cr dr th kn rf pl pz mc) H locs) (hN : 36 + pz ≤ N) (hq : N ≤ q) (hM : q < M) (hb : ad' q = b) (hf : y' q = c_row g t) (h1 : ∀ k, k < N → ad' k = ad k) (h2 : ∀ k, k < N → y' k = y k) : WB g A H0 (N + 1) (va_up ad N b) (mg g (va_up ad N b) (va_up y N (c_row g t)) cr dr th kn rf pl pz mc) H locs := by
  refine WB_map (fun k => if k = N then q else k) B (fun k hk => ?_) (fun i j hi hj e => ?_) (fun k hk => ?_) (fun k hk => ?_)
  · show (if k = N then q else k) < _
    by_cases h : k = N
    · rw [if_pos h]; exact hM
    · rw [if_neg h]; omega
  · have e : (if i = N then q else i) = (if j = N then q else j) := e
    by_cases h : i = N <;> by_cases h' : j = N
    · omega
    · rw [if_pos h, if_neg h'] at e; omega
    · rw [if_neg h, if_pos h'] at e; omega
    · rw [if_neg h, if_neg h'] at e; exact e
  · show _ = ad' (if k = N then q else k)
    by_cases h : k = N
    · rw [if_pos h, h, va_up_self, hb]
    · rw [if_neg h, va_up_ne _ _ h, h1 k (by omega)]
  · show va_eq _ (mg g ad' y' cr dr th kn rf pl pz mc (if k = N then q else k))
    by_cases h : k = N
    · rw [if_pos h, h, mg_hi hN, va_up_self, mg_hi (by omega), hf]
      exact Or.inl rfl
    · rw [if_neg h]
      exact mg_ad (fun j hj _ => (va_up_ne _ _ (by omega)).trans (h1 j (by omega)).symm) ((va_up_ne _ _ h).trans (h2 k (by omega)).symm)
/-- the first row is laid -/
theorem WM_layZ {t : TR} {hh : Nat → Option Nat} {a z : Nat} {o : Int32} (hN : N = 36) (B : WB g A H0 (N + 1 + 1) ad' f' H locs) (ha : ad' N = a) (haz : ad' (N + 1) = z) (ho : o = 1) (h1 : ∀ k, k < 36 → ad' k = ad k) (hA : ∀ k, k < 36 → adA k = ad k) (hyA : ∀ k, k < 24 → yA k = y k) (h27 : f' 27 = .inr (2, [.int mc1, .ref z, .int o])) (hE : f' (N + 1) = c_ar (g.2.1 5) 10 hh) (hh0 : hh 0 = some a) (hh1 : ∀ j, 0 < j → hh j = none) (hR : f' N = c_row g t) (h2 : ∀ k, k < 36 → k ≠ 27 → f' k = mg g adA yA cr dr th kn rf pl pz mc k) : WB g A H0 (36 + 2) (va_up (va_up ad 36 z) 37 a) (mg g (va_up (va_up ad 36 z) 37 a) y cr dr th kn rf (va_up pl 0 t) 2 mc1) H locs := by
  subst hN ha haz ho
  have e36 : va_up (va_up ad 36 (ad' (36 + 1))) 37 (ad' 36) 36 = ad' 37 := by rw [va_up_ne _ _ (by omega), va_up_self]
  have elo : ∀ k, k < 36 → va_up (va_up ad 36 (ad' (36 + 1))) 37 (ad' 36) k = ad k := fun k hk => by rw [va_up_ne _ _ (by omega), va_up_ne _ _ (by omega)]
  refine WB_map (fun k => if k = 36 then 37 else if k = 37 then 36 else k) B (fun k hk => ?_) (fun p q hp hq e => ?_) (fun k hk => ?_) (fun k hk => ?_)
  · show (if k = 36 then 37 else if k = 37 then 36 else k) < 38
    split
    · omega
    · split <;> omega
  · have e : (if p = 36 then 37 else if p = 37 then 36 else p) = (if q = 36 then 37 else if q = 37 then 36 else q) := e
    split at e <;> split at e <;> (try split at e) <;> (try split at e) <;> omega
  · show _ = ad' (if k = 36 then 37 else if k = 37 then 36 else k)
    by_cases h : k = 36
    · rw [if_pos h, h, e36]
    · rw [if_neg h]
      by_cases h' : k = 37
      · rw [if_pos h', h', va_up_self]
      · rw [if_neg h', elo k (by omega), h1 k (by omega)]
  · show va_eq _ (f' (if k = 36 then 37 else if k = 37 then 36 else k))
    by_cases h : k = 36
    · rw [if_pos h, h, mg_ed (by omega), show f' 37 = _ from hE]
      refine Or.inr ⟨_, _, _, _, rfl, rfl, fun j hj => ?_⟩
      by_cases h0 : j = 0
      · subst h0
        rw [if_pos (by omega), hh0, va_up_self]
      · rw [if_neg (by omega), hh1 j (by omega)]
    · rw [if_neg h]
      by_cases h' : k = 37
      · rw [if_pos h', h', hR, show (37 : Nat) = 37 + 0 from rfl, mg_pl (i := 0) (by omega), va_up_self]
        exact Or.inl rfl
      · rw [if_neg h']
        by_cases h7 : k = 27
        · rw [h7, h27, mg_27]
          unfold c_al
          rw [if_neg (by omega), e36]
          exact Or.inl rfl
        · rw [h2 k (by omega) h7]
          exact mg_low (by omega) h7 (fun j hj _ => (elo j hj).trans (hA j hj).symm) (fun h => (hyA k h).symm)
/-- one more row is laid -/
theorem WM_lay {t : TR} {hh : Nat → Option Nat} {a ev : Nat} (hp : 0 < pz) (hz : pz ≤ 8) (hN : N = 36 + pz) (B : WB g A H0 (N + 1) ad' f' H locs) (ha : ad' N = a) (hev : ad 36 = ev) (h1 : ∀ k, k < N → ad' k = ad k) (hA : ∀ k, k < N → adA k = ad k) (hyA : ∀ k, k < 24 → yA k = y k) (h27 : f' 27 = .inr (2, [.int mc1, .ref ev, .int (Int32.ofNat (pz - 1) + 1)])) (hE : f' 36 = c_ar (g.2.1 5) 10 hh) (hh0 : hh (pz - 1) = some a) (hh1 : ∀ j, j ≠ pz - 1 → hh j = if j + 1 < pz then some (ad (37 + j)) else none) (hR : f' N = c_row g t) (h2 : ∀ k, k < N → k ≠ 27 → k ≠ 36 → f' k = mg g adA yA cr dr th kn rf pl pz mc k) : WB g A H0 (36 + (pz + 1)) (va_up ad N a) (mg g (va_up ad N a) y cr dr th kn rf (va_up pl (pz - 1) t) (pz + 1) mc1) H locs := by
  subst hN ha hev
  have elo : ∀ k, k < 36 + pz → va_up ad (36 + pz) (ad' (36 + pz)) k = ad k := fun k hk => va_up_ne _ _ (by omega)
  refine WB_same B (by omega) (fun k hk => ?_) (fun k hk => ?_)
  · by_cases h : k = 36 + pz
    · rw [h, va_up_self]
    · rw [va_up_ne _ _ h, h1 k (by omega)]
  · by_cases h : k = 36 + pz
    · rw [h, hR]
      obtain ⟨m, rfl⟩ : ∃ m, pz = m + 1 := ⟨pz - 1, by omega⟩
      rw [show 36 + (m + 1) = 37 + m by omega, mg_pl (by omega), show m + 1 - 1 = m by omega, va_up_self]
      exact Or.inl rfl
    · by_cases h7 : k = 27
      · rw [h7, h27, mg_27p (by omega), elo 36 (by omega), show Int32.ofNat (pz + 1 - 1) = Int32.ofNat (pz - 1) + 1 from by
          have e : nI (pz - 1) + 1 = nI (pz - 1 + 1) := nI_1 _
          rw [show pz - 1 + 1 = pz by omega] at e
          exact e.symm]
        exact Or.inl rfl
      · by_cases h6 : k = 36
        · rw [h6, hE, mg_ed (by omega)]
          refine Or.inr ⟨_, _, _, _, rfl, rfl, fun j hj => ?_⟩
          by_cases hj1 : j = pz - 1
          · rw [hj1, hh0, if_pos (by omega), show 37 + (pz - 1) = 36 + pz by omega, va_up_self]
          · rw [hh1 j hj1]
            by_cases hj2 : j + 1 < pz
            · rw [if_pos hj2, if_pos (by omega), elo _ (by omega)]
            · rw [if_neg hj2, if_neg (by omega)]
        · rw [h2 k (by omega) h7 h6]
          by_cases hk6 : k < 36
          · exact mg_low hk6 h7 (fun j hj _ => (elo j (by omega)).trans (hA j (by omega)).symm) (fun h => (hyA k h).symm)
          · obtain ⟨i, rfl⟩ : ∃ i, k = 37 + i := ⟨k - 37, by omega⟩
            rw [mg_pl (by omega), mg_pl (by omega), va_up_ne _ _ (by omega)]
            exact Or.inl rfl
/-- the last row is taken; it stays behind the world -/
theorem WM_take {hh : Nat → Option Nat} (hp : 2 ≤ pz) (hz : pz ≤ 9) (hN : N = 36 + pz) (B : WB g A H0 N ad f' H locs) (h27 : f' 27 = .inr (2, [.int mc1, .ref (ad 36), .int (Int32.ofNat (pz - 1) - 1)])) (hE : f' 36 = c_ar (g.2.1 5) 10 hh) (hh0 : hh (pz - 1 - 1) = none) (hh1 : ∀ j, j ≠ pz - 1 - 1 → hh j = if j + 1 < pz then some (ad (37 + j)) else none) (h2 : ∀ k, k < N → k ≠ 27 → k ≠ 36 → f' k = mg g ad y cr dr th kn rf pl pz mc k) : WB g A H0 N ad (mg g ad (va_up y (N - 1) (c_row g (pl (pz - 1 - 1)))) cr dr th kn rf pl (pz - 1) mc1) H locs := by
  subst hN
  refine WB_same B (Nat.le_refl _) (fun _ _ => rfl) (fun k hk => ?_)
  by_cases h : k = 36 + pz - 1
  · rw [h, mg_hi (by omega), va_up_self, h2 _ (by omega) (by omega) (by omega), show 36 + pz - 1 = 37 + (pz - 1 - 1) by omega, mg_pl (by omega)]
    exact Or.inl rfl
  · by_cases h7 : k = 27
    · rw [h7, h27, mg_27p (by omega), sz_pred (by omega)]
      exact Or.inl rfl
    · by_cases h6 : k = 36
      · rw [h6, hE, mg_ed (by omega)]
        refine Or.inr ⟨_, _, _, _, rfl, rfl, fun j hj => ?_⟩
        by_cases hj1 : j = pz - 1 - 1
        · rw [hj1, hh0, if_neg (by omega)]
        · rw [hh1 j hj1]
          by_cases hj2 : j + 1 < pz
          · rw [if_pos hj2, if_pos (by omega)]
          · rw [if_neg hj2, if_neg (by omega)]
      · rw [h2 k hk h7 h6]
        by_cases hk6 : k < 36
        · exact mg_low hk6 h7 (fun _ _ _ => rfl) (fun h => va_up_ne _ _ (by omega))
        · obtain ⟨i, rfl⟩ : ∃ i, k = 37 + i := ⟨k - 37, by omega⟩
          rw [mg_pl (by omega), mg_pl (by omega)]
          exact Or.inl rfl
end WMX
theorem and01 {a b : Int32} (ha : a = 0 ∨ a = 1) (hb : b = 0 ∨ b = 1) : (a &&& b = 0) ∨ (a &&& b = 1) := by
  rcases ha with rfl | rfl <;> rcases hb with rfl | rfl <;> decide
theorem ite_pl {j pz a b : Nat} (h : j + 1 < pz → a = b) : (if j + 1 < pz then some a else none) = if j + 1 < pz then some b else none := by
  by_cases c : j + 1 < pz
  · rw [if_pos c, if_pos c, h c]
  · rw [if_neg c, if_neg c]
end
section
def wX4_houseNow_7 (cr : Nat → TR) (kn : Int32) (rf : Int32) (pz : Nat) (a1 : Int32) : Nat → Int32 → Int32 → Int32 → Int32
  | 0, ci, nn, zz => 0
  | n + 1, ci, nn, zz => if 4 ≤ ci then ((upd (upd (upd (upd (upd (fun _ => 0) (0 : Int32).toNatClampNeg kn) (1 : Int32).toNatClampNeg rf) (2 : Int32).toNatClampNeg (Int32.ofNat (pz - 1))) (3 : Int32).toNatClampNeg zz) (4 : Int32).toNatClampNeg nn) a1.toNatClampNeg) else (wX4_houseNow_7 cr kn rf pz a1 n (ci + 1) (nn + (v_X4_one (v_X4_isNegativeNow cr ci))) (zz + (v_X4_one (v_X4_isZeroNow cr ci))))
def v_X4_houseNow (cr : Nat → TR) (kn : Int32) (rf : Int32) (pz : Nat) (a1 : Int32) : Int32 := wX4_houseNow_7 cr kn rf pz a1 (4 + 1) 0 0 0
set_option maxHeartbeats 4000000 in
set_option maxRecDepth 100000 in
theorem c_X4_houseNow (l : Launch) (g : GG) (N : Nat) (ad : Nat → Nat) (y : Nat → va_E) (cr dr : Nat → TR) (th kn rf : Int32) (pl : Nat → TR) (pz : Nat) (mc : Int32) (hN : 36 + pz ≤ N) (b0 : Nat) (hb0 : ad 24 = b0) (a1 : Int32) (hw5 : ¬ v_X4_isIn a1.toInt64 0 4 = 0) : KI l yX4_houseNow cX4_houseNow 5 (some .int) (rm 2 6 20) g [.ref b0, .int a1] N ad (mg g ad y cr dr th kn rf pl pz mc) N (fun r ad' f' => ad = ad' ∧ (v_X4_houseNow cr kn rf pz a1) = r ∧ mg g ad y cr dr th kn rf pl pz mc = f') := by
  intro sz
  refine mt_start (by decide) (Nat.le_of_ble_eq_true rfl) ?_
  intro p e s m args below meth c hsz X hr hnam hA hK hT H locs B ls hl
  obtain ⟨hx, hb, hml, hown, hts, hlocks⟩ := id X
  have hl : lv_has ls 5 [(0, .ref b0), (1, .int a1)] := hl
  refine lv_iconst (v := 0) hx hb dX4_houseNow_0 (by decide) ?_
  refine lv_istore_n (lv' := [(2, .int 0), (0, .ref b0), (1, .int a1)]) hx hb dX4_houseNow_1 rfl hl (by decide) rfl (fun ls hl => ?_)
  refine lv_iconst (v := 0) hx hb dX4_houseNow_2 (by decide) ?_
  refine lv_istore_n (lv' := [(3, .int 0), (2, .int 0), (0, .ref b0), (1, .int a1)]) hx hb dX4_houseNow_3 rfl hl (by decide) rfl (fun ls hl => ?_)
  refine lv_iconst (v := 0) hx hb dX4_houseNow_4 (by decide) ?_
  refine lv_istore (lv' := [(4, .int 0), (3, .int 0), (2, .int 0), (0, .ref b0), (1, .int a1)]) hx hb dX4_houseNow_5 hl (by decide) rfl (fun ls hl => ?_)
  have loop1 : ∀ (n1 : Nat) (ci : Int32) (nn : Int32) (zz : Int32) (C1 : Nat) (S1 : Nat) (H : Heap) (locs : List Loc), C1 + n1 * 1 ≤ 5 → S1 + n1 * 3 ≤ 15 → ((4 : Int32).toInt - ci.toInt).toNat < n1 → v_X4_houseNow cr kn rf pz a1 = wX4_houseNow_7 cr kn rf pz a1 n1 ci nn zz → ¬ ci < 0 → WB g (aw N ad sz) s.heap N ad (mg g ad y cr dr th kn rf pl pz mc) H locs → ∀ ls : Array Slot, lv_has ls 5 [(4, .int ci), (3, .int nn), (2, .int zz), (0, .ref b0), (1, .int a1)] → W p l e (rm 2 6 20) s m args below meth c H locs C1 S1 (MQ below (va_Qi (fun r (u : WS) => (fun r ad' f' => ad = ad' ∧ (v_X4_houseNow cr kn rf pz a1) = r ∧ mg g ad y cr dr th kn rf pl pz mc = f') r u.1 u.2) (fun u t => PO g N u.1 u.2 (aw N ad sz) t) (aw N ad sz)) args s (rm 2 6 20).cells (rm 2 6 20).slots (aw N ad sz)) (F0 m 7 ls []) := by
    intro n1
    induction n1 with
    | zero => intro ci nn zz C1 S1 H locs _ _ hn; exact absurd hn (Nat.not_lt_zero _)
    | succ n1 ih1 =>
      intro ci nn zz C1 S1 H locs hC1 hS1 hn1 he1 hk0 B ls hl
      refine lv_iload hx hb dX4_houseNow_7 (lv_at hl 0 rfl) ?_
      refine lv_iconst (v := 4) hx hb dX4_houseNow_9 (by decide) ?_
      refine lv_icmp_ge (tgt := 43) hx hb dX4_houseNow_10 (by decide) (fun c2 => ?_) (fun c2 => ?_)
      · refine W.widen (show (C1 + 0) ≤ 5 by omega) (show (S1 + 0) ≤ 15 by omega) ?_
        refine lv_iconst (v := 5) hx hb dX4_houseNow_43 (by decide) ?_
        refine h_newi (k := 5) (cz := 6) (sz := 20) X hA hK B (by decide) (by decide) (by decide) (Nat.le_of_ble_eq_true rfl) (Nat.le_of_ble_eq_true rfl) (Nat.le_of_ble_eq_true rfl) (Nat.le_of_ble_eq_true rfl) dX4_houseNow_44 (fun z3 H B => ?_)
        have B : WB g (aw N ad sz) s.heap (N + 1) (va_up ad N z3) (mg g (va_up ad N z3) (va_up y N (.inl (g.2.1 0, 5, .inl (fun _ => 0)))) cr dr th kn rf pl pz mc) H locs := WM_push (by omega) B
        refine lv_dup hx hb dX4_houseNow_46 rfl ?_
        refine lv_iconst (v := 0) hx hb dX4_houseNow_47 (by decide) ?_
        refine lv_aload_n hx hb dX4_houseNow_48 rfl (lv_at hl 3 rfl) ?_
        refine b_get (q := 24) (k := 4) ((up_lt (by omega)).trans hb0) X hK B rfl in_X4 (by omega) mg_24 (by decide) lk_X4_246 rfl rfl dX4_houseNow_49 ?_
        refine b_iast (q := N) up_eq X hK B (Nat.lt_succ_self _) ((mg_hi (by omega)).trans up_eq) (by unfold vp_in; decide) dX4_houseNow_52 (fun H locs B => ?_)
        rw [mg_yup (by omega), bx_uu] at B
        have B : WB g (aw N ad sz) s.heap (N + 1) (va_up ad N z3) (mg g (va_up ad N z3) (va_up y N (.inl (g.2.1 0, 5, .inl (upd (fun _ => 0) (0 : Int32).toNatClampNeg kn)))) cr dr th kn rf pl pz mc) H locs := B
        refine lv_dup hx hb dX4_houseNow_53 rfl ?_
        refine lv_iconst (v := 1) hx hb dX4_houseNow_54 (by decide) ?_
        refine lv_aload_n hx hb dX4_houseNow_55 rfl (lv_at hl 3 rfl) ?_
        refine b_get (q := 24) (k := 5) ((up_lt (by omega)).trans hb0) X hK B rfl in_X4 (by omega) mg_24 (by decide) lk_X4_30 rfl rfl dX4_houseNow_56 ?_
        refine b_iast (q := N) up_eq X hK B (Nat.lt_succ_self _) ((mg_hi (by omega)).trans up_eq) (by unfold vp_in; decide) dX4_houseNow_59 (fun H locs B => ?_)
        rw [mg_yup (by omega), bx_uu] at B
        have B : WB g (aw N ad sz) s.heap (N + 1) (va_up ad N z3) (mg g (va_up ad N z3) (va_up y N (.inl (g.2.1 0, 5, .inl (upd (upd (fun _ => 0) (0 : Int32).toNatClampNeg kn) (1 : Int32).toNatClampNeg rf)))) cr dr th kn rf pl pz mc) H locs := B
        refine lv_dup hx hb dX4_houseNow_60 rfl ?_
        refine lv_iconst (v := 2) hx hb dX4_houseNow_61 (by decide) ?_
        refine lv_aload_n hx hb dX4_houseNow_62 rfl (lv_at hl 3 rfl) ?_
        refine b_get (q := 24) (k := 2) ((up_lt (by omega)).trans hb0) X hK B rfl in_X4 (by omega) mg_24 (by decide) lk_X4_17 rfl rfl dX4_houseNow_63 ?_
        refine k_i (k := 6) (n := 20) hA B (b_V (q := 27) (rest := [.int 2, .ref z3, .ref z3]) rfl X (c_L_size l g (N + 1) (va_up ad N z3) (mg g (va_up ad N z3) (va_up y N (.inl (g.2.1 0, 5, .inl (upd (upd (fun _ => 0) (0 : Int32).toNatClampNeg kn) (1 : Int32).toNatClampNeg rf)))) cr dr th kn rf pl pz mc) 27 ((va_up ad N z3) 27) (by omega) rfl mc (Int32.ofNat (pz - 1)) _ mg_27 H.size) mw_Jx4a65c_size_8abf5 md_Jx4a65c_size_8abf5 rfl lk_X4_128 ⟨Nat.le_of_ble_eq_true rfl, Nat.le_of_ble_eq_true rfl⟩ hA hK hT B (by omega) mg_27 rfl rfl hl.1 rfl (Nat.le_of_ble_eq_true rfl) dX4_houseNow_66 ⟨Nat.le_of_ble_eq_true rfl, Nat.le_of_ble_eq_true rfl⟩) (Nat.le_of_ble_eq_true rfl) (Nat.le_of_ble_eq_true rfl) (fun r ad' f' H locs hw B => ?_)
        obtain ⟨rfl, rfl, rfl⟩ := hw
        refine b_iast (q := N) up_eq X hK B (Nat.lt_succ_self _) ((mg_hi (by omega)).trans up_eq) (by unfold vp_in; decide) dX4_houseNow_69 (fun H locs B => ?_)
        rw [mg_yup (by omega), bx_uu] at B
        have B : WB g (aw N ad sz) s.heap (N + 1) (va_up ad N z3) (mg g (va_up ad N z3) (va_up y N (.inl (g.2.1 0, 5, .inl (upd (upd (upd (fun _ => 0) (0 : Int32).toNatClampNeg kn) (1 : Int32).toNatClampNeg rf) (2 : Int32).toNatClampNeg (Int32.ofNat (pz - 1)))))) cr dr th kn rf pl pz mc) H locs := B
        refine lv_dup hx hb dX4_houseNow_70 rfl ?_
        refine lv_iconst (v := 3) hx hb dX4_houseNow_71 (by decide) ?_
        refine lv_iload_n hx hb dX4_houseNow_72 rfl (lv_at hl 2 rfl) ?_
        refine b_iast (q := N) up_eq X hK B (Nat.lt_succ_self _) ((mg_hi (by omega)).trans up_eq) (by unfold vp_in; decide) dX4_houseNow_73 (fun H locs B => ?_)
        rw [mg_yup (by omega), bx_uu] at B
        have B : WB g (aw N ad sz) s.heap (N + 1) (va_up ad N z3) (mg g (va_up ad N z3) (va_up y N (.inl (g.2.1 0, 5, .inl (upd (upd (upd (upd (fun _ => 0) (0 : Int32).toNatClampNeg kn) (1 : Int32).toNatClampNeg rf) (2 : Int32).toNatClampNeg (Int32.ofNat (pz - 1))) (3 : Int32).toNatClampNeg zz)))) cr dr th kn rf pl pz mc) H locs := B
        refine lv_dup hx hb dX4_houseNow_74 rfl ?_
        refine lv_iconst (v := 4) hx hb dX4_houseNow_75 (by decide) ?_
        refine lv_iload_n hx hb dX4_houseNow_76 rfl (lv_at hl 1 rfl) ?_
        refine b_iast (q := N) up_eq X hK B (Nat.lt_succ_self _) ((mg_hi (by omega)).trans up_eq) (by unfold vp_in; decide) dX4_houseNow_77 (fun H locs B => ?_)
        rw [mg_yup (by omega), bx_uu] at B
        have B : WB g (aw N ad sz) s.heap (N + 1) (va_up ad N z3) (mg g (va_up ad N z3) (va_up y N (.inl (g.2.1 0, 5, .inl (upd (upd (upd (upd (upd (fun _ => 0) (0 : Int32).toNatClampNeg kn) (1 : Int32).toNatClampNeg rf) (2 : Int32).toNatClampNeg (Int32.ofNat (pz - 1))) (3 : Int32).toNatClampNeg zz) (4 : Int32).toNatClampNeg nn)))) cr dr th kn rf pl pz mc) H locs := B
        refine lv_astore (lv' := [(4, .ref z3), (3, .int nn), (2, .int zz), (0, .ref b0), (1, .int a1)]) hx hb dX4_houseNow_78 hl (by decide) rfl (fun ls hl => ?_)
        refine lv_aload hx hb dX4_houseNow_80 (lv_at hl 0 rfl) ?_
        refine lv_iload_n hx hb dX4_houseNow_82 rfl (lv_at hl 4 rfl) ?_
        refine b_iald (q := N) up_eq X hK B (Nat.lt_succ_self _) ((mg_hi (by omega)).trans up_eq) (isin_ix (n := 5) hw5 rfl).1 dX4_houseNow_83 ?_
        have B : WB g (aw N ad sz) s.heap N ad (mg g ad y cr dr th kn rf pl pz mc) H locs := WM_drop B (by omega) (by omega) (fun _ hk => (up_lt hk)) (fun _ hk => (up_lt hk))
        have ev := (show v_X4_houseNow cr kn rf pz a1 = (upd (upd (upd (upd (upd (fun _ => 0) (0 : Int32).toNatClampNeg kn) (1 : Int32).toNatClampNeg rf) (2 : Int32).toNatClampNeg (Int32.ofNat (pz - 1))) (3 : Int32).toNatClampNeg zz) (4 : Int32).toNatClampNeg nn) a1.toNatClampNeg from he1.trans (by rw [wX4_houseNow_7, if_pos c2]))
        exact rt_i X hr (ad, mg g ad y cr dr th kn rf pl pz mc) B (PO_of B) ⟨rfl, by rw [ev], rfl⟩ rfl (Nat.le_of_ble_eq_true rfl) (Nat.le_of_ble_eq_true rfl) dX4_houseNow_84
      · refine lv_iload_n hx hb dX4_houseNow_13 rfl (lv_at hl 2 rfl) ?_
        refine lv_aload_n hx hb dX4_houseNow_14 rfl (lv_at hl 3 rfl) ?_
        refine lv_iload hx hb dX4_houseNow_15 (lv_at hl 0 rfl) ?_
        refine k_i (k := (C1 + 1)) (n := (S1 + 3)) hA B (b_V (q := 24) (rest := [.int zz]) hb0 X (c_X4_isZeroNow l g N ad y cr dr th kn rf pl pz mc (by omega) b0 hb0 ci (no_of hk0 c2) H.size) mw_X4_isZeroNow md_X4_isZeroNow rfl lk_X4_156 ⟨Nat.le_of_ble_eq_true rfl, Nat.le_of_ble_eq_true rfl⟩ hA hK hT B (by omega) mg_24 rfl rfl hl.1 rfl (Nat.le_of_ble_eq_true rfl) dX4_houseNow_17 (by dsimp only [rm]; omega)) (by dsimp only [rm]; omega) (by dsimp only [rm]; omega) (fun r4 ad4 f' H locs hw B => ?_)
        obtain ⟨rfl, rfl, rfl⟩ := hw
        refine k_i (k := (C1 + 1)) (n := (S1 + 3)) hA B (u_S (rest := [.int zz]) X (c_X4_one l g N ad (mg g ad y cr dr th kn rf pl pz mc) (v_X4_isZeroNow cr ci) H.size) mw_X4_one md_X4_one rfl lk_X4_91 ⟨Nat.le_of_ble_eq_true rfl, Nat.le_of_ble_eq_true rfl⟩ hA hK hT B hl.1 rfl (Nat.le_of_ble_eq_true rfl) dX4_houseNow_20 (by dsimp only [rm]; omega)) (by dsimp only [rm]; omega) (by dsimp only [rm]; omega) (fun r5 ad5 f' H locs hw B => ?_)
        obtain ⟨rfl, rfl, rfl⟩ := hw
        refine lv_iadd hx hb dX4_houseNow_23 ?_
        refine lv_istore_n (lv' := [(2, .int (zz + (v_X4_one (v_X4_isZeroNow cr ci)))), (4, .int ci), (3, .int nn), (0, .ref b0), (1, .int a1)]) hx hb dX4_houseNow_24 rfl hl (by decide) rfl (fun ls hl => ?_)
        refine lv_iload_n hx hb dX4_houseNow_25 rfl (lv_at hl 2 rfl) ?_
        refine lv_aload_n hx hb dX4_houseNow_26 rfl (lv_at hl 3 rfl) ?_
        refine lv_iload hx hb dX4_houseNow_27 (lv_at hl 1 rfl) ?_
        refine k_i (k := (C1 + 1)) (n := (S1 + 3)) hA B (b_V (q := 24) (rest := [.int nn]) hb0 X (c_X4_isNegativeNow l g N ad y cr dr th kn rf pl pz mc (by omega) b0 hb0 ci (no_of hk0 c2) H.size) mw_X4_isNegativeNow md_X4_isNegativeNow rfl lk_X4_159 ⟨Nat.le_of_ble_eq_true rfl, Nat.le_of_ble_eq_true rfl⟩ hA hK hT B (by omega) mg_24 rfl rfl hl.1 rfl (Nat.le_of_ble_eq_true rfl) dX4_houseNow_29 (by dsimp only [rm]; omega)) (by dsimp only [rm]; omega) (by dsimp only [rm]; omega) (fun r6 ad6 f' H locs hw B => ?_)
        obtain ⟨rfl, rfl, rfl⟩ := hw
        refine k_i (k := (C1 + 1)) (n := (S1 + 3)) hA B (u_S (rest := [.int nn]) X (c_X4_one l g N ad (mg g ad y cr dr th kn rf pl pz mc) (v_X4_isNegativeNow cr ci) H.size) mw_X4_one md_X4_one rfl lk_X4_91 ⟨Nat.le_of_ble_eq_true rfl, Nat.le_of_ble_eq_true rfl⟩ hA hK hT B hl.1 rfl (Nat.le_of_ble_eq_true rfl) dX4_houseNow_32 (by dsimp only [rm]; omega)) (by dsimp only [rm]; omega) (by dsimp only [rm]; omega) (fun r7 ad7 f' H locs hw B => ?_)
        obtain ⟨rfl, rfl, rfl⟩ := hw
        refine lv_iadd hx hb dX4_houseNow_35 ?_
        refine lv_istore_n (lv' := [(3, .int (nn + (v_X4_one (v_X4_isNegativeNow cr ci)))), (2, .int (zz + (v_X4_one (v_X4_isZeroNow cr ci)))), (4, .int ci), (0, .ref b0), (1, .int a1)]) hx hb dX4_houseNow_36 rfl hl (by decide) rfl (fun ls hl => ?_)
        refine lv_iinc (v := ci + 1) (lv' := [(4, .int (ci + 1)), (3, .int (nn + (v_X4_one (v_X4_isNegativeNow cr ci)))), (2, .int (zz + (v_X4_one (v_X4_isZeroNow cr ci)))), (0, .ref b0), (1, .int a1)]) hx hb dX4_houseNow_37 hl (k := 2) rfl rfl (by decide) rfl (fun ls hl => ?_)
        refine lv_goto (tgt := 7) hx hb dX4_houseNow_40 (by decide) ?_
        exact ih1 (ci + 1) (nn + (v_X4_one (v_X4_isNegativeNow cr ci))) (zz + (v_X4_one (v_X4_isZeroNow cr ci))) (C1 + 1) (S1 + 3) H locs (by omega) (by omega) (fu_le c2 hn1) (show v_X4_houseNow cr kn rf pz a1 = wX4_houseNow_7 cr kn rf pz a1 n1 (ci + 1) (nn + (v_X4_one (v_X4_isNegativeNow cr ci))) (zz + (v_X4_one (v_X4_isZeroNow cr ci))) from he1.trans (by rw [wX4_houseNow_7, if_neg c2])) (inc_nn hk0 c2) B ls (lv_sub hl [0, 1, 2, 3, 4] rfl)
  have hT1 : 4 + 1 ≤ 5 := (by decide)
  exact loop1 (4 + 1) 0 0 0 0 0 H locs (by omega) (by omega) (by decide) (show v_X4_houseNow cr kn rf pz a1 = wX4_houseNow_7 cr kn rf pz a1 (4 + 1) 0 0 0 from rfl) (by decide) B ls hl
def v_X4_house (cr : Nat → TR) (kn : Int32) (rf : Int32) (pz : Nat) (a1 : Int32) : Int32 × Int32 := if (v_X4_isIn a1.toInt64 0 4) = 0 then (0, 1) else ((v_X4_houseNow cr kn rf pz a1), 0)
set_option maxHeartbeats 4000000 in
set_option maxRecDepth 100000 in
theorem c_X4_house (l : Launch) (g : GG) (N : Nat) (ad : Nat → Nat) (y : Nat → va_E) (cr dr : Nat → TR) (th kn rf : Int32) (pl : Nat → TR) (pz : Nat) (mc : Int32) (hN : 36 + pz ≤ N) (b0 : Nat) (hb0 : ad 24 = b0) (a1 : Int32) : KI l yX4_house cX4_house 2 (some .int) (rm 3 6 20) g [.ref b0, .int a1] N ad (mg g ad y cr dr th kn rf pl pz mc) N (fun r ad' f' => ad = ad' ∧ (v_X4_house cr kn rf pz a1).1 = r ∧ mg g ad y cr dr (v_X4_house cr kn rf pz a1).2 kn rf pl pz mc = f') := by
  intro sz
  refine mt_start (by decide) (Nat.le_of_ble_eq_true rfl) ?_
  intro p e s m args below meth c hsz X hr hnam hA hK hT H locs B ls hl
  obtain ⟨hx, hb, hml, hown, hts, hlocks⟩ := id X
  have hl : lv_has ls 2 [(0, .ref b0), (1, .int a1)] := hl
  refine lv_aload_n hx hb dX4_house_0 rfl (lv_at hl 0 rfl) ?_
  refine lv_iconst (v := 0) hx hb dX4_house_1 (by decide) ?_
  refine lv_iconst (v := 0) hx hb dX4_house_2 (by decide) ?_
  refine k_i (k := 0) (n := 0) hA B (b_V (q := 24) (rest := []) hb0 X (c_X4_stops l g N ad y cr dr th kn rf pl pz mc (by omega) b0 hb0 0 0 H.size) mw_X4_stops md_X4_stops rfl lk_X4_99 ⟨Nat.le_of_ble_eq_true rfl, Nat.le_of_ble_eq_true rfl⟩ hA hK hT B (by omega) mg_24 rfl rfl hl.1 rfl (Nat.le_of_ble_eq_true rfl) dX4_house_3 ⟨Nat.le_of_ble_eq_true rfl, Nat.le_of_ble_eq_true rfl⟩) (Nat.le_of_ble_eq_true rfl) (Nat.le_of_ble_eq_true rfl) (fun r ad' f' H locs hw B => ?_)
  rw [st_00] at hw
  dsimp only at hw
  obtain ⟨rfl, rfl, rfl⟩ := hw
  have B : WB g (aw N ad sz) s.heap N ad (mg g ad y cr dr 0 kn rf pl pz mc) H locs := B
  refine lv_if_ne (tgt := 34) hx hb dX4_house_6 (by decide) (fun z => absurd z (by decide)) (fun _ => ?_)
  refine lv_aload_n hx hb dX4_house_9 rfl (lv_at hl 0 rfl) ?_
  refine lv_iload_n hx hb dX4_house_10 rfl (lv_at hl 1 rfl) ?_
  refine lv_i2l (v := a1.toInt64) hx hb dX4_house_11 rfl ?_
  refine lv_lconst (v := 0) hx hb dX4_house_12 (by decide) ?_
  refine lv_ldc2 hx hb hown (hts _ (List.mem_cons_of_mem _ lk_X4_249)) dX4_house_13 ?_
  refine k_i (k := 0) (n := 0) hA B (u_S (rest := [.ref b0]) X (c_X4_isIn l g N ad (mg g ad y cr dr 0 kn rf pl pz mc) a1.toInt64 0 4 H.size) mw_X4_isIn md_X4_isIn rfl lk_X4_37 ⟨Nat.le_of_ble_eq_true rfl, Nat.le_of_ble_eq_true rfl⟩ hA hK hT B hl.1 rfl (Nat.le_of_ble_eq_true rfl) dX4_house_16 ⟨Nat.le_of_ble_eq_true rfl, Nat.le_of_ble_eq_true rfl⟩) (Nat.le_of_ble_eq_true rfl) (Nat.le_of_ble_eq_true rfl) (fun r1 ad1 f' H locs hw B => ?_)
  obtain ⟨rfl, rfl, rfl⟩ := hw
  refine lv_if_ne (tgt := 26) hx hb dX4_house_19 (by decide) (fun c2 => ?_) (fun c2 => ?_)
  · refine lv_iconst (v := 0) hx hb dX4_house_26 (by decide) ?_
    refine lv_iconst (v := 0) hx hb dX4_house_27 (by decide) ?_
    refine k_i (k := 0) (n := 0) hA B (b_V (q := 24) (rest := []) hb0 X (c_X4_stops l g N ad y cr dr 0 kn rf pl pz mc (by omega) b0 hb0 0 0 H.size) mw_X4_stops md_X4_stops rfl lk_X4_99 ⟨Nat.le_of_ble_eq_true rfl, Nat.le_of_ble_eq_true rfl⟩ hA hK hT B (by omega) mg_24 rfl rfl hl.1 rfl (Nat.le_of_ble_eq_true rfl) dX4_house_28 ⟨Nat.le_of_ble_eq_true rfl, Nat.le_of_ble_eq_true rfl⟩) (Nat.le_of_ble_eq_true rfl) (Nat.le_of_ble_eq_true rfl) (fun r ad' f' H locs hw B => ?_)
    rw [st_00] at hw
    dsimp only at hw
    obtain ⟨rfl, rfl, rfl⟩ := hw
    have B : WB g (aw N ad sz) s.heap N ad (mg g ad y cr dr 0 kn rf pl pz mc) H locs := B
    refine lv_if_eq (tgt := 38) hx hb dX4_house_31 (by decide) (fun _ => ?_) (fun z => absurd z (by decide))
    refine lv_aload_n hx hb dX4_house_38 rfl (lv_at hl 0 rfl) ?_
    refine lv_iload_n hx hb dX4_house_39 rfl (lv_at hl 1 rfl) ?_
    refine k_i (k := 6) (n := 20) hA B (b_V (q := 24) (rest := []) hb0 X (c_X4_houseNow l g N ad y cr dr 0 kn rf pl pz mc (by omega) b0 hb0 a1 c2 H.size) mw_X4_houseNow md_X4_houseNow rfl lk_X4_251 ⟨Nat.le_of_ble_eq_true rfl, Nat.le_of_ble_eq_true rfl⟩ hA hK hT B (by omega) mg_24 rfl rfl hl.1 rfl (Nat.le_of_ble_eq_true rfl) dX4_house_40 ⟨Nat.le_of_ble_eq_true rfl, Nat.le_of_ble_eq_true rfl⟩) (Nat.le_of_ble_eq_true rfl) (Nat.le_of_ble_eq_true rfl) (fun r3 ad3 f' H locs hw B => ?_)
    obtain ⟨rfl, rfl, rfl⟩ := hw
    have ev := (show v_X4_house cr kn rf pz a1 = ((v_X4_houseNow cr kn rf pz a1), 0) from by unfold v_X4_house; rw [if_neg c2])
    exact rt_i X hr (ad, mg g ad y cr dr 0 kn rf pl pz mc) B (PO_of B) ⟨rfl, by rw [ev], by rw [ev]⟩ rfl (Nat.le_of_ble_eq_true rfl) (Nat.le_of_ble_eq_true rfl) dX4_house_43
  · refine lv_iconst (v := 1) hx hb dX4_house_22 (by decide) ?_
    refine lv_goto (tgt := 27) hx hb dX4_house_23 (by decide) ?_
    refine lv_iconst (v := 0) hx hb dX4_house_27 (by decide) ?_
    refine k_i (k := 0) (n := 0) hA B (b_V (q := 24) (rest := []) hb0 X (c_X4_stops l g N ad y cr dr 0 kn rf pl pz mc (by omega) b0 hb0 1 0 H.size) mw_X4_stops md_X4_stops rfl lk_X4_99 ⟨Nat.le_of_ble_eq_true rfl, Nat.le_of_ble_eq_true rfl⟩ hA hK hT B (by omega) mg_24 rfl rfl hl.1 rfl (Nat.le_of_ble_eq_true rfl) dX4_house_28 ⟨Nat.le_of_ble_eq_true rfl, Nat.le_of_ble_eq_true rfl⟩) (Nat.le_of_ble_eq_true rfl) (Nat.le_of_ble_eq_true rfl) (fun r ad' f' H locs hw B => ?_)
    rw [st_10] at hw
    dsimp only at hw
    obtain ⟨rfl, rfl, rfl⟩ := hw
    have B : WB g (aw N ad sz) s.heap N ad (mg g ad y cr dr 1 kn rf pl pz mc) H locs := B
    refine lv_if_eq (tgt := 38) hx hb dX4_house_31 (by decide) (fun z => absurd z (by decide)) (fun _ => ?_)
    refine lv_iconst (v := 0) hx hb dX4_house_34 (by decide) ?_
    refine lv_goto (tgt := 43) hx hb dX4_house_35 (by decide) ?_
    have ev := (show v_X4_house cr kn rf pz a1 = (0, 1) from by unfold v_X4_house; rw [if_pos c2])
    exact rt_i X hr (ad, mg g ad y cr dr 1 kn rf pl pz mc) B (PO_of B) ⟨rfl, by rw [ev], by rw [ev]⟩ rfl (Nat.le_of_ble_eq_true rfl) (Nat.le_of_ble_eq_true rfl) dX4_house_43
def wX4_walk_48 (cr : Nat → TR) (a1 : Int32) (a2 : Int32) (a3 : Int32) : Nat → Int32 → (Nat → TR) → Int32 × (Nat → TR) × Int32
  | 0, wk, dr9 => (0, dr9, 0)
  | n + 1, wk, dr9 => if a3 ≤ wk then (wk, dr9, 0) else (om (v_X4_onBy (dr9 a1.toNatClampNeg) (cr a2.toNatClampNeg) 1) (wk, dr9, 0) (fun t14 => wX4_walk_48 cr a1 a2 a3 n (wk + 1) (v_X4_become dr9 a1 t14).2))
def v_X4_walk (cr : Nat → TR) (dr : Nat → TR) (a1 : Int32) (a2 : Int32) (a3 : Int32) : Int32 × (Nat → TR) × Int32 := if (v_X4_isNone a1) = 0 then (if (v_X4_isNone a2) = 0 then (if (v_X4_isIn a3.toInt64 1 12) = 0 then (0, dr, 2) else (wX4_walk_48 cr a1 a2 a3 ((a3.toInt - (0 : Int32).toInt).toNat + 1) 0 dr)) else (if (v_X4_isIn a3.toInt64 1 12) = 0 then (0, dr, 1) else (0, dr, 1))) else (if (v_X4_isIn a3.toInt64 1 12) = 0 then (0, dr, 1) else (0, dr, 1))
set_option maxHeartbeats 4000000 in
set_option maxRecDepth 100000 in
theorem c_X4_walk (l : Launch) (g : GG) (N : Nat) (ad : Nat → Nat) (y : Nat → va_E) (cr dr : Nat → TR) (th kn rf : Int32) (pl : Nat → TR) (pz : Nat) (mc : Int32) (hN : 36 + pz ≤ N) (b0 : Nat) (hb0 : ad 24 = b0) (a1 : Int32) (a2 : Int32) (a3 : Int32) (hdr : ∀ i, i < 4 → okd (dr i)) : KI l yX4_walk cX4_walk 5 (some .int) (rm 4 65 195) g [.ref b0, .int a1, .int a2, .int a3] N ad (mg g ad y cr dr th kn rf pl pz mc) N (fun r ad' f' => (∀ k, k < N → k < 28 ∨ 36 ≤ k → ad' k = ad k) ∧ (v_X4_walk cr dr a1 a2 a3).1 = r ∧ mg g ad' y cr (v_X4_walk cr dr a1 a2 a3).2.1 (v_X4_walk cr dr a1 a2 a3).2.2 kn rf pl pz mc = f') := by
  intro sz
  refine mt_start (by decide) (Nat.le_of_ble_eq_true rfl) ?_
  intro p e s m args below meth c hsz X hr hnam hA hK hT H locs B ls hl
  obtain ⟨hx, hb, hml, hown, hts, hlocks⟩ := id X
  have hl : lv_has ls 5 [(0, .ref b0), (1, .int a1), (2, .int a2), (3, .int a3)] := hl
  refine lv_aload_n hx hb dX4_walk_0 rfl (lv_at hl 0 rfl) ?_
  refine lv_iload_n hx hb dX4_walk_1 rfl (lv_at hl 1 rfl) ?_
  refine k_i (k := 0) (n := 0) hA B (u_S (rest := [.ref b0]) X (c_X4_isNone l g N ad (mg g ad y cr dr th kn rf pl pz mc) a1 H.size) mw_X4_isNone md_X4_isNone rfl lk_X4_95 ⟨Nat.le_of_ble_eq_true rfl, Nat.le_of_ble_eq_true rfl⟩ hA hK hT B hl.1 rfl (Nat.le_of_ble_eq_true rfl) dX4_walk_2 ⟨Nat.le_of_ble_eq_true rfl, Nat.le_of_ble_eq_true rfl⟩) (Nat.le_of_ble_eq_true rfl) (Nat.le_of_ble_eq_true rfl) (fun r1 ad1 f' H locs hw B => ?_)
  obtain ⟨rfl, rfl, rfl⟩ := hw
  refine lv_if_ne (tgt := 15) hx hb dX4_walk_5 (by decide) (fun c2 => ?_) (fun c2 => ?_)
  · refine lv_iconst (v := 1) hx hb dX4_walk_15 (by decide) ?_
    refine lv_goto (tgt := 20) hx hb dX4_walk_16 (by decide) ?_
    refine lv_iload_n hx hb dX4_walk_20 rfl (lv_at hl 3 rfl) ?_
    refine lv_i2l (v := a3.toInt64) hx hb dX4_walk_21 rfl ?_
    refine lv_lconst (v := 1) hx hb dX4_walk_22 (by decide) ?_
    refine lv_ldc2 hx hb hown (hts _ (List.mem_cons_of_mem _ lk_X4_41)) dX4_walk_23 ?_
    refine k_i (k := 0) (n := 0) hA B (u_S (rest := [.int 1, .ref b0]) X (c_X4_isIn l g N ad (mg g ad y cr dr th kn rf pl pz mc) a3.toInt64 1 12 H.size) mw_X4_isIn md_X4_isIn rfl lk_X4_37 ⟨Nat.le_of_ble_eq_true rfl, Nat.le_of_ble_eq_true rfl⟩ hA hK hT B hl.1 rfl (Nat.le_of_ble_eq_true rfl) dX4_walk_26 ⟨Nat.le_of_ble_eq_true rfl, Nat.le_of_ble_eq_true rfl⟩) (Nat.le_of_ble_eq_true rfl) (Nat.le_of_ble_eq_true rfl) (fun r3 ad3 f' H locs hw B => ?_)
    obtain ⟨rfl, rfl, rfl⟩ := hw
    refine lv_if_ne (tgt := 36) hx hb dX4_walk_29 (by decide) (fun c4 => ?_) (fun c4 => ?_)
    · refine lv_iconst (v := 0) hx hb dX4_walk_36 (by decide) ?_
      refine k_i (k := 0) (n := 0) hA B (b_V (q := 24) (rest := []) hb0 X (c_X4_stops l g N ad y cr dr th kn rf pl pz mc (by omega) b0 hb0 1 0 H.size) mw_X4_stops md_X4_stops rfl lk_X4_99 ⟨Nat.le_of_ble_eq_true rfl, Nat.le_of_ble_eq_true rfl⟩ hA hK hT B (by omega) mg_24 rfl rfl hl.1 rfl (Nat.le_of_ble_eq_true rfl) dX4_walk_37 ⟨Nat.le_of_ble_eq_true rfl, Nat.le_of_ble_eq_true rfl⟩) (Nat.le_of_ble_eq_true rfl) (Nat.le_of_ble_eq_true rfl) (fun r ad' f' H locs hw B => ?_)
      rw [st_10] at hw
      dsimp only at hw
      obtain ⟨rfl, rfl, rfl⟩ := hw
      have B : WB g (aw N ad sz) s.heap N ad (mg g ad y cr dr 1 kn rf pl pz mc) H locs := B
      refine lv_if_eq (tgt := 45) hx hb dX4_walk_40 (by decide) (fun z => absurd z (by decide)) (fun _ => ?_)
      refine lv_iconst (v := 0) hx hb dX4_walk_43 (by decide) ?_
      have ev := (show v_X4_walk cr dr a1 a2 a3 = (0, dr, 1) from by unfold v_X4_walk; rw [if_neg c2, if_neg c4])
      exact rt_i X hr (ad, mg g ad y cr dr 1 kn rf pl pz mc) B (PO_of B) ⟨(fun _ _ _ => rfl), by rw [ev], by rw [ev]⟩ rfl (Nat.le_of_ble_eq_true rfl) (Nat.le_of_ble_eq_true rfl) dX4_walk_44
    · refine lv_iconst (v := 1) hx hb dX4_walk_32 (by decide) ?_
      refine lv_goto (tgt := 37) hx hb dX4_walk_33 (by decide) ?_
      refine k_i (k := 0) (n := 0) hA B (b_V (q := 24) (rest := []) hb0 X (c_X4_stops l g N ad y cr dr th kn rf pl pz mc (by omega) b0 hb0 1 1 H.size) mw_X4_stops md_X4_stops rfl lk_X4_99 ⟨Nat.le_of_ble_eq_true rfl, Nat.le_of_ble_eq_true rfl⟩ hA hK hT B (by omega) mg_24 rfl rfl hl.1 rfl (Nat.le_of_ble_eq_true rfl) dX4_walk_37 ⟨Nat.le_of_ble_eq_true rfl, Nat.le_of_ble_eq_true rfl⟩) (Nat.le_of_ble_eq_true rfl) (Nat.le_of_ble_eq_true rfl) (fun r ad' f' H locs hw B => ?_)
      rw [st_11] at hw
      dsimp only at hw
      obtain ⟨rfl, rfl, rfl⟩ := hw
      have B : WB g (aw N ad sz) s.heap N ad (mg g ad y cr dr 1 kn rf pl pz mc) H locs := B
      refine lv_if_eq (tgt := 45) hx hb dX4_walk_40 (by decide) (fun z => absurd z (by decide)) (fun _ => ?_)
      refine lv_iconst (v := 0) hx hb dX4_walk_43 (by decide) ?_
      have ev := (show v_X4_walk cr dr a1 a2 a3 = (0, dr, 1) from by unfold v_X4_walk; rw [if_neg c2, if_pos c4])
      exact rt_i X hr (ad, mg g ad y cr dr 1 kn rf pl pz mc) B (PO_of B) ⟨(fun _ _ _ => rfl), by rw [ev], by rw [ev]⟩ rfl (Nat.le_of_ble_eq_true rfl) (Nat.le_of_ble_eq_true rfl) dX4_walk_44
  · refine lv_iload_n hx hb dX4_walk_8 rfl (lv_at hl 2 rfl) ?_
    refine k_i (k := 0) (n := 0) hA B (u_S (rest := [.ref b0]) X (c_X4_isNone l g N ad (mg g ad y cr dr th kn rf pl pz mc) a2 H.size) mw_X4_isNone md_X4_isNone rfl lk_X4_95 ⟨Nat.le_of_ble_eq_true rfl, Nat.le_of_ble_eq_true rfl⟩ hA hK hT B hl.1 rfl (Nat.le_of_ble_eq_true rfl) dX4_walk_9 ⟨Nat.le_of_ble_eq_true rfl, Nat.le_of_ble_eq_true rfl⟩) (Nat.le_of_ble_eq_true rfl) (Nat.le_of_ble_eq_true rfl) (fun r5 ad5 f' H locs hw B => ?_)
    obtain ⟨rfl, rfl, rfl⟩ := hw
    refine lv_if_eq (tgt := 19) hx hb dX4_walk_12 (by decide) (fun c6 => ?_) (fun c6 => ?_)
    · refine lv_iconst (v := 0) hx hb dX4_walk_19 (by decide) ?_
      refine lv_iload_n hx hb dX4_walk_20 rfl (lv_at hl 3 rfl) ?_
      refine lv_i2l (v := a3.toInt64) hx hb dX4_walk_21 rfl ?_
      refine lv_lconst (v := 1) hx hb dX4_walk_22 (by decide) ?_
      refine lv_ldc2 hx hb hown (hts _ (List.mem_cons_of_mem _ lk_X4_41)) dX4_walk_23 ?_
      refine k_i (k := 0) (n := 0) hA B (u_S (rest := [.int 0, .ref b0]) X (c_X4_isIn l g N ad (mg g ad y cr dr th kn rf pl pz mc) a3.toInt64 1 12 H.size) mw_X4_isIn md_X4_isIn rfl lk_X4_37 ⟨Nat.le_of_ble_eq_true rfl, Nat.le_of_ble_eq_true rfl⟩ hA hK hT B hl.1 rfl (Nat.le_of_ble_eq_true rfl) dX4_walk_26 ⟨Nat.le_of_ble_eq_true rfl, Nat.le_of_ble_eq_true rfl⟩) (Nat.le_of_ble_eq_true rfl) (Nat.le_of_ble_eq_true rfl) (fun r7 ad7 f' H locs hw B => ?_)
      obtain ⟨rfl, rfl, rfl⟩ := hw
      refine lv_if_ne (tgt := 36) hx hb dX4_walk_29 (by decide) (fun c8 => ?_) (fun c8 => ?_)
      · refine lv_iconst (v := 0) hx hb dX4_walk_36 (by decide) ?_
        refine k_i (k := 0) (n := 0) hA B (b_V (q := 24) (rest := []) hb0 X (c_X4_stops l g N ad y cr dr th kn rf pl pz mc (by omega) b0 hb0 0 0 H.size) mw_X4_stops md_X4_stops rfl lk_X4_99 ⟨Nat.le_of_ble_eq_true rfl, Nat.le_of_ble_eq_true rfl⟩ hA hK hT B (by omega) mg_24 rfl rfl hl.1 rfl (Nat.le_of_ble_eq_true rfl) dX4_walk_37 ⟨Nat.le_of_ble_eq_true rfl, Nat.le_of_ble_eq_true rfl⟩) (Nat.le_of_ble_eq_true rfl) (Nat.le_of_ble_eq_true rfl) (fun r ad' f' H locs hw B => ?_)
        rw [st_00] at hw
        dsimp only at hw
        obtain ⟨rfl, rfl, rfl⟩ := hw
        have B : WB g (aw N ad sz) s.heap N ad (mg g ad y cr dr 0 kn rf pl pz mc) H locs := B
        refine lv_if_eq (tgt := 45) hx hb dX4_walk_40 (by decide) (fun _ => ?_) (fun z => absurd z (by decide))
        refine lv_iconst (v := 0) hx hb dX4_walk_45 (by decide) ?_
        refine lv_istore (lv' := [(4, .int 0), (0, .ref b0), (1, .int a1), (2, .int a2), (3, .int a3)]) hx hb dX4_walk_46 hl (by decide) rfl (fun ls hl => ?_)
        have loop9 : ∀ (n9 : Nat) (wk : Int32) (dr9 : Nat → TR) (adL9 : Nat → Nat) (C9 : Nat) (S9 : Nat) (H : Heap) (locs : List Loc), C9 + n9 * 5 ≤ 65 → S9 + n9 * 15 ≤ 195 → (∀ k, k < N → k < 28 ∨ 36 ≤ k → adL9 k = ad k) → adL9 24 = b0 → (a3.toInt - wk.toInt).toNat < n9 → v_X4_walk cr dr a1 a2 a3 = wX4_walk_48 cr a1 a2 a3 n9 wk dr9 → (∀ i, i < 4 → okd (dr9 i)) → WB g (aw N ad sz) s.heap N adL9 (mg g adL9 y cr dr9 0 kn rf pl pz mc) H locs → ∀ ls : Array Slot, lv_has ls 5 [(4, .int wk), (0, .ref b0), (1, .int a1), (2, .int a2), (3, .int a3)] → W p l e (rm 4 65 195) s m args below meth c H locs C9 S9 (MQ below (va_Qi (fun r (u : WS) => (fun r ad' f' => (∀ k, k < N → k < 28 ∨ 36 ≤ k → ad' k = ad k) ∧ (v_X4_walk cr dr a1 a2 a3).1 = r ∧ mg g ad' y cr (v_X4_walk cr dr a1 a2 a3).2.1 (v_X4_walk cr dr a1 a2 a3).2.2 kn rf pl pz mc = f') r u.1 u.2) (fun u t => PO g N u.1 u.2 (aw N ad sz) t) (aw N ad sz)) args s (rm 4 65 195).cells (rm 4 65 195).slots (aw N ad sz)) (F0 m 48 ls []) := by
          intro n9
          induction n9 with
          | zero => intro wk dr9 adL9 C9 S9 H locs _ _ _ _ hn; exact absurd hn (Nat.not_lt_zero _)
          | succ n9 ih9 =>
            intro wk dr9 adL9 C9 S9 H locs hC9 hS9 hkL9 nbL9 hn9 he9 hdr9 B ls hl
            refine lv_iload hx hb dX4_walk_48 (lv_at hl 0 rfl) ?_
            refine lv_iload_n hx hb dX4_walk_50 rfl (lv_at hl 4 rfl) ?_
            refine lv_icmp_ge (tgt := 101) hx hb dX4_walk_51 (by decide) (fun c10 => ?_) (fun c10 => ?_)
            · refine W.widen (show (C9 + 0) ≤ 65 by omega) (show (S9 + 0) ≤ 195 by omega) ?_
              refine lv_iload hx hb dX4_walk_101 (lv_at hl 0 rfl) ?_
              have ev := (show v_X4_walk cr dr a1 a2 a3 = (wk, dr9, 0) from he9.trans (by rw [wX4_walk_48, if_pos c10]))
              exact rt_i X hr (adL9, mg g adL9 y cr dr9 0 kn rf pl pz mc) B (PO_of B) ⟨hkL9, by rw [ev], by rw [ev]⟩ rfl (Nat.le_of_ble_eq_true rfl) (Nat.le_of_ble_eq_true rfl) dX4_walk_103
            · refine lv_aload_n hx hb dX4_walk_54 rfl (lv_at hl 1 rfl) ?_
              refine b_get (q := 24) (k := 3) nbL9 X hK B rfl in_X4 (by omega) mg_24 (by decide) lk_X4_23 rfl rfl dX4_walk_55 ?_
              refine lv_iload_n hx hb dX4_walk_58 rfl (lv_at hl 2 rfl) ?_
              refine b_aald (q := 26) (t0 := 2) (v := adL9 (32 + a1.toNatClampNeg)) rfl X hK B (by omega) mg_26 rfl rfl (no_in c2) rfl dX4_walk_59 ?_
              have g11 : a1.toNatClampNeg < 4 := (no_lt c2)
              refine lv_aload_n hx hb dX4_walk_60 rfl (lv_at hl 1 rfl) ?_
              refine b_get (q := 24) (k := 1) nbL9 X hK B rfl in_X4 (by omega) mg_24 (by decide) lk_X4_11 rfl rfl dX4_walk_61 ?_
              refine lv_iload_n hx hb dX4_walk_64 rfl (lv_at hl 3 rfl) ?_
              refine b_aald (q := 25) (t0 := 2) (v := adL9 (28 + a2.toNatClampNeg)) rfl X hK B (by omega) mg_25 rfl rfl (no_in c6) rfl dX4_walk_65 ?_
              have g12 : a2.toNatClampNeg < 4 := (no_lt c6)
              refine lv_iconst (v := 1) hx hb dX4_walk_66 (by decide) ?_
              refine k_r (k := (C9 + 2)) (n := (S9 + 6)) hA B (u_S (rest := []) X (c_X4_onBy l g N adL9 (mg g adL9 y cr dr9 0 kn rf pl pz mc) (32 + a1.toNatClampNeg) (adL9 (32 + a1.toNatClampNeg)) (dr9 a1.toNatClampNeg) (pl_dr hN g11) rfl (mg_dr g11) (28 + a2.toNatClampNeg) (adL9 (28 + a2.toNatClampNeg)) (cr a2.toNatClampNeg) (pl_cr hN g12) rfl (mg_cr g12) 1 H.size) mw_X4_onBy md_X4_onBy rfl lk_X4_215 ⟨Nat.le_of_ble_eq_true rfl, Nat.le_of_ble_eq_true rfl⟩ hA hK hT B hl.1 rfl (Nat.le_of_ble_eq_true rfl) dX4_walk_67 (by dsimp only [rm]; omega)) (by dsimp only [rm]; omega) (by dsimp only [rm]; omega) (fun r13 ad13 f' H locs hw B => ?_)
              generalize o14 : (v_X4_onBy (dr9 a1.toNatClampNeg) (cr a2.toNatClampNeg) 1) = v9 at hw B
              cases v9 with
              | none =>
                obtain ⟨rfl, rfl, rfl⟩ := pw_n hw
                refine lv_ifnullN (tgt := 101) hx hb dX4_walk_70 (by decide) ?_
                refine W.widen (show (C9 + 2) ≤ 65 by omega) (show (S9 + 6) ≤ 195 by omega) ?_
                refine lv_iload hx hb dX4_walk_101 (lv_at hl 0 rfl) ?_
                have ev := (show v_X4_walk cr dr a1 a2 a3 = (wk, dr9, 0) from he9.trans (by rw [wX4_walk_48, if_neg c10, om_none o14]))
                exact rt_i X hr (adL9, mg g adL9 y cr dr9 0 kn rf pl pz mc) B (PO_of B) ⟨hkL9, by rw [ev], by rw [ev]⟩ rfl (Nat.le_of_ble_eq_true rfl) (Nat.le_of_ble_eq_true rfl) dX4_walk_103
              | some t14 =>
                obtain ⟨z14, rfl, rfl, rfl⟩ := pw_s hw
                have B : WB g (aw N ad sz) s.heap (N + 1) (va_up adL9 N z14) (mg g (va_up adL9 N z14) (va_up y N (c_row g t14)) cr dr9 0 kn rf pl pz mc) H locs := WM_push (by omega) B
                refine lv_ifnull hx hb dX4_walk_70 ?_
                refine lv_aload_n hx hb dX4_walk_73 rfl (lv_at hl 1 rfl) ?_
                refine lv_iload_n hx hb dX4_walk_74 rfl (lv_at hl 2 rfl) ?_
                refine lv_aload_n hx hb dX4_walk_75 rfl (lv_at hl 1 rfl) ?_
                refine b_get (q := 24) (k := 3) ((up_lt (by omega)).trans nbL9) X hK B rfl in_X4 (by omega) mg_24 (by decide) lk_X4_23 rfl rfl dX4_walk_76 ?_
                refine lv_iload_n hx hb dX4_walk_79 rfl (lv_at hl 2 rfl) ?_
                refine b_aald (q := 26) (t0 := 2) (v := (va_up adL9 N z14) (32 + a1.toNatClampNeg)) rfl X hK B (by omega) mg_26 rfl rfl (no_in c2) rfl dX4_walk_80 ?_
                have g15 : a1.toNatClampNeg < 4 := (no_lt c2)
                rw [show (va_up adL9 N z14) (32 + a1.toNatClampNeg) = adL9 (32 + a1.toNatClampNeg) from (up_lt (by omega))]
                refine lv_aload_n hx hb dX4_walk_81 rfl (lv_at hl 1 rfl) ?_
                refine b_get (q := 24) (k := 1) ((up_lt (by omega)).trans nbL9) X hK B rfl in_X4 (by omega) mg_24 (by decide) lk_X4_11 rfl rfl dX4_walk_82 ?_
                refine lv_iload_n hx hb dX4_walk_85 rfl (lv_at hl 3 rfl) ?_
                refine b_aald (q := 25) (t0 := 2) (v := (va_up adL9 N z14) (28 + a2.toNatClampNeg)) rfl X hK B (by omega) mg_25 rfl rfl (no_in c6) rfl dX4_walk_86 ?_
                have g16 : a2.toNatClampNeg < 4 := (no_lt c6)
                rw [show (va_up adL9 N z14) (28 + a2.toNatClampNeg) = adL9 (28 + a2.toNatClampNeg) from (up_lt (by omega))]
                refine lv_iconst (v := 1) hx hb dX4_walk_87 (by decide) ?_
                refine k_r (k := (C9 + 4)) (n := (S9 + 12)) hA B (u_S (rest := [.int a1, .ref b0]) X (c_X4_onBy l g (N + 1) (va_up adL9 N z14) (mg g (va_up adL9 N z14) (va_up y N (c_row g t14)) cr dr9 0 kn rf pl pz mc) (32 + a1.toNatClampNeg) (adL9 (32 + a1.toNatClampNeg)) (dr9 a1.toNatClampNeg) (Nat.lt_succ_of_lt (pl_dr hN g15)) ((up_lt (pl_dr hN g15)).trans rfl) (mg_dr g15) (28 + a2.toNatClampNeg) (adL9 (28 + a2.toNatClampNeg)) (cr a2.toNatClampNeg) (Nat.lt_succ_of_lt (pl_cr hN g16)) ((up_lt (pl_cr hN g16)).trans rfl) (mg_cr g16) 1 H.size) mw_X4_onBy md_X4_onBy rfl lk_X4_215 ⟨Nat.le_of_ble_eq_true rfl, Nat.le_of_ble_eq_true rfl⟩ hA hK hT B hl.1 rfl (Nat.le_of_ble_eq_true rfl) dX4_walk_88 (by dsimp only [rm]; omega)) (by dsimp only [rm]; omega) (by dsimp only [rm]; omega) (fun r17 ad17 f' H locs hw B => ?_)
                rw [o14] at hw B
                obtain ⟨z18, rfl, rfl, rfl⟩ := pw_s hw
                have B : WB g (aw N ad sz) s.heap (N + 1 + 1) (va_up (va_up adL9 N z14) (N + 1) z18) (mg g (va_up (va_up adL9 N z14) (N + 1) z18) (va_up (va_up y N (c_row g t14)) (N + 1) (c_row g t14)) cr dr9 0 kn rf pl pz mc) H locs := WM_push (by omega) B
                refine k_i (k := (C9 + 5)) (n := (S9 + 15)) hA B (b_V (q := 24) (rest := []) ((up_lt (by omega)).trans ((up_lt (by omega)).trans nbL9)) X (c_X4_become l g (N + 1 + 1) (va_up (va_up adL9 N z14) (N + 1) z18) (va_up (va_up y N (c_row g t14)) (N + 1) (c_row g t14)) cr dr9 0 kn rf pl pz mc (by omega) b0 ((up_lt (by omega)).trans ((up_lt (by omega)).trans nbL9)) a1 (N + 1) z18 t14 (Nat.lt_succ_self _) up_eq ((mg_hi (by omega)).trans up_eq) c2 hdr9 (okd_mo (onBy_okd o14)) H.size) mw_X4_become md_X4_become rfl lk_X4_212 ⟨Nat.le_of_ble_eq_true rfl, Nat.le_of_ble_eq_true rfl⟩ hA hK hT B (by omega) mg_24 rfl rfl hl.1 rfl (Nat.le_of_ble_eq_true rfl) dX4_walk_91 (by dsimp only [rm]; omega)) (by dsimp only [rm]; omega) (by dsimp only [rm]; omega) (fun r19 ad19 f' H locs hw B => ?_)
                dsimp only at hw
                obtain ⟨mv20, rfl, rfl⟩ := hw
                have B : WB g (aw N ad sz) s.heap N ad19 (mg g ad19 y cr (v_X4_become dr9 a1 t14).2 0 kn rf pl pz mc) H locs := WM_drop B (by omega) (by omega) (fun _ _ => rfl) (fun _ hk => ((up_lt (Nat.lt_succ_of_lt hk)).trans (up_lt hk)))
                have kk21 : ∀ k, k < N → k < 28 ∨ 36 ≤ k → ad19 k = ad k := fun k hk hkq => (mv20 k (by omega) hkq).trans (((fun _ hk => ((up_lt (Nat.lt_succ_of_lt hk)).trans (up_lt hk))) k hk).trans (hkL9 k hk hkq))
                have nb22 : ad19 24 = b0 := (mv20 24 (by omega) (Or.inl (by decide))).trans ((up_lt (by omega)).trans ((up_lt (by omega)).trans nbL9))
                refine lv_pop hx hb dX4_walk_94 rfl ?_
                refine lv_iinc (v := wk + 1) (lv' := [(4, .int (wk + 1)), (0, .ref b0), (1, .int a1), (2, .int a2), (3, .int a3)]) hx hb dX4_walk_95 hl (k := 0) rfl rfl (by decide) rfl (fun ls hl => ?_)
                refine lv_goto (tgt := 48) hx hb dX4_walk_98 (by decide) ?_
                exact ih9 (wk + 1) (v_X4_become dr9 a1 t14).2 ad19 (C9 + 5) (S9 + 15) H locs (by omega) (by omega) kk21 nb22 (fu_le c10 hn9) (show v_X4_walk cr dr a1 a2 a3 = wX4_walk_48 cr a1 a2 a3 n9 (wk + 1) (v_X4_become dr9 a1 t14).2 from he9.trans (by rw [wX4_walk_48, if_neg c10, om_some o14])) (become_okd hdr9 (onBy_okd o14)) B ls (lv_sub hl [0, 1, 2, 3, 4] rfl)
        have hT9 : (a3.toInt - (0 : Int32).toInt).toNat + 1 ≤ 13 := (al_12 c8)
        exact loop9 ((a3.toInt - (0 : Int32).toInt).toNat + 1) 0 dr ad 0 0 H locs (by omega) (by omega) (fun _ _ _ => rfl) hb0 (Nat.lt_succ_self _) (show v_X4_walk cr dr a1 a2 a3 = wX4_walk_48 cr a1 a2 a3 ((a3.toInt - (0 : Int32).toInt).toNat + 1) 0 dr from by unfold v_X4_walk; rw [if_pos c2, if_pos c6, if_neg c8]) hdr B ls hl
      · refine lv_iconst (v := 1) hx hb dX4_walk_32 (by decide) ?_
        refine lv_goto (tgt := 37) hx hb dX4_walk_33 (by decide) ?_
        refine k_i (k := 0) (n := 0) hA B (b_V (q := 24) (rest := []) hb0 X (c_X4_stops l g N ad y cr dr th kn rf pl pz mc (by omega) b0 hb0 0 1 H.size) mw_X4_stops md_X4_stops rfl lk_X4_99 ⟨Nat.le_of_ble_eq_true rfl, Nat.le_of_ble_eq_true rfl⟩ hA hK hT B (by omega) mg_24 rfl rfl hl.1 rfl (Nat.le_of_ble_eq_true rfl) dX4_walk_37 ⟨Nat.le_of_ble_eq_true rfl, Nat.le_of_ble_eq_true rfl⟩) (Nat.le_of_ble_eq_true rfl) (Nat.le_of_ble_eq_true rfl) (fun r ad' f' H locs hw B => ?_)
        rw [st_01] at hw
        dsimp only at hw
        obtain ⟨rfl, rfl, rfl⟩ := hw
        have B : WB g (aw N ad sz) s.heap N ad (mg g ad y cr dr 2 kn rf pl pz mc) H locs := B
        refine lv_if_eq (tgt := 45) hx hb dX4_walk_40 (by decide) (fun z => absurd z (by decide)) (fun _ => ?_)
        refine lv_iconst (v := 0) hx hb dX4_walk_43 (by decide) ?_
        have ev := (show v_X4_walk cr dr a1 a2 a3 = (0, dr, 2) from by unfold v_X4_walk; rw [if_pos c2, if_pos c6, if_pos c8])
        exact rt_i X hr (ad, mg g ad y cr dr 2 kn rf pl pz mc) B (PO_of B) ⟨(fun _ _ _ => rfl), by rw [ev], by rw [ev]⟩ rfl (Nat.le_of_ble_eq_true rfl) (Nat.le_of_ble_eq_true rfl) dX4_walk_44
    · refine lv_iconst (v := 1) hx hb dX4_walk_15 (by decide) ?_
      refine lv_goto (tgt := 20) hx hb dX4_walk_16 (by decide) ?_
      refine lv_iload_n hx hb dX4_walk_20 rfl (lv_at hl 3 rfl) ?_
      refine lv_i2l (v := a3.toInt64) hx hb dX4_walk_21 rfl ?_
      refine lv_lconst (v := 1) hx hb dX4_walk_22 (by decide) ?_
      refine lv_ldc2 hx hb hown (hts _ (List.mem_cons_of_mem _ lk_X4_41)) dX4_walk_23 ?_
      refine k_i (k := 0) (n := 0) hA B (u_S (rest := [.int 1, .ref b0]) X (c_X4_isIn l g N ad (mg g ad y cr dr th kn rf pl pz mc) a3.toInt64 1 12 H.size) mw_X4_isIn md_X4_isIn rfl lk_X4_37 ⟨Nat.le_of_ble_eq_true rfl, Nat.le_of_ble_eq_true rfl⟩ hA hK hT B hl.1 rfl (Nat.le_of_ble_eq_true rfl) dX4_walk_26 ⟨Nat.le_of_ble_eq_true rfl, Nat.le_of_ble_eq_true rfl⟩) (Nat.le_of_ble_eq_true rfl) (Nat.le_of_ble_eq_true rfl) (fun r23 ad23 f' H locs hw B => ?_)
      obtain ⟨rfl, rfl, rfl⟩ := hw
      refine lv_if_ne (tgt := 36) hx hb dX4_walk_29 (by decide) (fun c24 => ?_) (fun c24 => ?_)
      · refine lv_iconst (v := 0) hx hb dX4_walk_36 (by decide) ?_
        refine k_i (k := 0) (n := 0) hA B (b_V (q := 24) (rest := []) hb0 X (c_X4_stops l g N ad y cr dr th kn rf pl pz mc (by omega) b0 hb0 1 0 H.size) mw_X4_stops md_X4_stops rfl lk_X4_99 ⟨Nat.le_of_ble_eq_true rfl, Nat.le_of_ble_eq_true rfl⟩ hA hK hT B (by omega) mg_24 rfl rfl hl.1 rfl (Nat.le_of_ble_eq_true rfl) dX4_walk_37 ⟨Nat.le_of_ble_eq_true rfl, Nat.le_of_ble_eq_true rfl⟩) (Nat.le_of_ble_eq_true rfl) (Nat.le_of_ble_eq_true rfl) (fun r ad' f' H locs hw B => ?_)
        rw [st_10] at hw
        dsimp only at hw
        obtain ⟨rfl, rfl, rfl⟩ := hw
        have B : WB g (aw N ad sz) s.heap N ad (mg g ad y cr dr 1 kn rf pl pz mc) H locs := B
        refine lv_if_eq (tgt := 45) hx hb dX4_walk_40 (by decide) (fun z => absurd z (by decide)) (fun _ => ?_)
        refine lv_iconst (v := 0) hx hb dX4_walk_43 (by decide) ?_
        have ev := (show v_X4_walk cr dr a1 a2 a3 = (0, dr, 1) from by unfold v_X4_walk; rw [if_pos c2, if_neg c6, if_neg c24])
        exact rt_i X hr (ad, mg g ad y cr dr 1 kn rf pl pz mc) B (PO_of B) ⟨(fun _ _ _ => rfl), by rw [ev], by rw [ev]⟩ rfl (Nat.le_of_ble_eq_true rfl) (Nat.le_of_ble_eq_true rfl) dX4_walk_44
      · refine lv_iconst (v := 1) hx hb dX4_walk_32 (by decide) ?_
        refine lv_goto (tgt := 37) hx hb dX4_walk_33 (by decide) ?_
        refine k_i (k := 0) (n := 0) hA B (b_V (q := 24) (rest := []) hb0 X (c_X4_stops l g N ad y cr dr th kn rf pl pz mc (by omega) b0 hb0 1 1 H.size) mw_X4_stops md_X4_stops rfl lk_X4_99 ⟨Nat.le_of_ble_eq_true rfl, Nat.le_of_ble_eq_true rfl⟩ hA hK hT B (by omega) mg_24 rfl rfl hl.1 rfl (Nat.le_of_ble_eq_true rfl) dX4_walk_37 ⟨Nat.le_of_ble_eq_true rfl, Nat.le_of_ble_eq_true rfl⟩) (Nat.le_of_ble_eq_true rfl) (Nat.le_of_ble_eq_true rfl) (fun r ad' f' H locs hw B => ?_)
        rw [st_11] at hw
        dsimp only at hw
        obtain ⟨rfl, rfl, rfl⟩ := hw
        have B : WB g (aw N ad sz) s.heap N ad (mg g ad y cr dr 1 kn rf pl pz mc) H locs := B
        refine lv_if_eq (tgt := 45) hx hb dX4_walk_40 (by decide) (fun z => absurd z (by decide)) (fun _ => ?_)
        refine lv_iconst (v := 0) hx hb dX4_walk_43 (by decide) ?_
        have ev := (show v_X4_walk cr dr a1 a2 a3 = (0, dr, 1) from by unfold v_X4_walk; rw [if_pos c2, if_neg c6, if_pos c24])
        exact rt_i X hr (ad, mg g ad y cr dr 1 kn rf pl pz mc) B (PO_of B) ⟨(fun _ _ _ => rfl), by rw [ev], by rw [ev]⟩ rfl (Nat.le_of_ble_eq_true rfl) (Nat.le_of_ble_eq_true rfl) dX4_walk_44
def v_X4_getK (cr : Nat → TR) (a1 : Int32) (tj2 : TR) : Int32 × (Nat → TR) := if (v_X4_isSame (cr a1.toNatClampNeg) tj2) = 0 then ((v_X4_one 1), va_up cr a1.toNatClampNeg (tj2.1, tj2.2.1, tj2.2.2)) else ((v_X4_one 0), va_up cr a1.toNatClampNeg (tj2.1, tj2.2.1, tj2.2.2))
set_option maxHeartbeats 4000000 in
set_option maxRecDepth 100000 in
theorem c_X4_getK (l : Launch) (g : GG) (N : Nat) (ad : Nat → Nat) (y : Nat → va_E) (cr dr : Nat → TR) (th kn rf : Int32) (pl : Nat → TR) (pz : Nat) (mc : Int32) (hN : 36 + pz ≤ N) (b0 : Nat) (hb0 : ad 24 = b0) (a1 : Int32) (j2 bj2 : Nat) (tj2 : TR) (hj2 : j2 < N) (hbj2 : ad j2 = bj2) (hfj2 : mg g ad y cr dr th kn rf pl pz mc j2 = c_row g tj2) (hza1 : v_X4_isNone a1 = 0) : KI l yX4_get cX4_get 4 (some .int) (rm 1 1 3) g [.ref b0, .int a1, .ref bj2] N ad (mg g ad y cr dr th kn rf pl pz mc) (N + 1) (fun r ad' f' => (∀ k, k < N → k < 28 ∨ 36 ≤ k → ad' k = ad k) ∧ ad' N = ad (28 + a1.toNatClampNeg) ∧ (v_X4_getK cr a1 tj2).1 = r ∧ mg g ad' (va_up y N (c_row g (cr a1.toNatClampNeg))) (v_X4_getK cr a1 tj2).2 dr th kn rf pl pz mc = f') := by
  intro sz
  refine mt_start (by decide) (Nat.le_of_ble_eq_true rfl) ?_
  intro p e s m args below meth c hsz X hr hnam hA hK hT H locs B ls hl
  obtain ⟨hx, hb, hml, hown, hts, hlocks⟩ := id X
  have hl : lv_has ls 4 [(0, .ref b0), (1, .int a1), (2, .ref bj2)] := hl
  refine lv_aload_n hx hb dX4_get_0 rfl (lv_at hl 2 rfl) ?_
  refine lv_ifnonnull (tgt := 9) hx hb dX4_get_1 (by decide) ?_
  refine lv_aload_n hx hb dX4_get_9 rfl (lv_at hl 0 rfl) ?_
  refine b_get (q := 24) (k := 1) hb0 X hK B rfl in_X4 (by omega) mg_24 (by decide) lk_X4_11 rfl rfl dX4_get_10 ?_
  refine lv_iload_n hx hb dX4_get_13 rfl (lv_at hl 1 rfl) ?_
  refine b_aald (q := 25) (t0 := 2) (v := ad (28 + a1.toNatClampNeg)) rfl X hK B (by omega) mg_25 rfl rfl (no_in hza1) rfl dX4_get_14 ?_
  have g1 : a1.toNatClampNeg < 4 := (no_lt hza1)
  refine lv_aload_n hx hb dX4_get_15 rfl (lv_at hl 2 rfl) ?_
  refine k_i (k := 0) (n := 0) hA B (u_S (rest := []) X (c_X4_isSame l g N ad (mg g ad y cr dr th kn rf pl pz mc) (28 + a1.toNatClampNeg) (ad (28 + a1.toNatClampNeg)) (cr a1.toNatClampNeg) (pl_cr hN g1) rfl (mg_cr g1) j2 bj2 tj2 hj2 hbj2 (mg_row hfj2 rfl) H.size) mw_X4_isSame md_X4_isSame rfl lk_X4_87 ⟨Nat.le_of_ble_eq_true rfl, Nat.le_of_ble_eq_true rfl⟩ hA hK hT B hl.1 rfl (Nat.le_of_ble_eq_true rfl) dX4_get_16 ⟨Nat.le_of_ble_eq_true rfl, Nat.le_of_ble_eq_true rfl⟩) (Nat.le_of_ble_eq_true rfl) (Nat.le_of_ble_eq_true rfl) (fun r2 ad2 f' H locs hw B => ?_)
  obtain ⟨rfl, rfl, rfl⟩ := hw
  refine lv_if_ne (tgt := 26) hx hb dX4_get_19 (by decide) (fun c3 => ?_) (fun c3 => ?_)
  · refine lv_iconst (v := 0) hx hb dX4_get_26 (by decide) ?_
    refine k_i (k := 0) (n := 0) hA B (u_S (rest := []) X (c_X4_one l g N ad (mg g ad y cr dr th kn rf pl pz mc) 0 H.size) mw_X4_one md_X4_one rfl lk_X4_91 ⟨Nat.le_of_ble_eq_true rfl, Nat.le_of_ble_eq_true rfl⟩ hA hK hT B hl.1 rfl (Nat.le_of_ble_eq_true rfl) dX4_get_27 ⟨Nat.le_of_ble_eq_true rfl, Nat.le_of_ble_eq_true rfl⟩) (Nat.le_of_ble_eq_true rfl) (Nat.le_of_ble_eq_true rfl) (fun r4 ad4 f' H locs hw B => ?_)
    obtain ⟨rfl, rfl, rfl⟩ := hw
    refine lv_istore_n (lv' := [(3, .int (v_X4_one 0)), (0, .ref b0), (1, .int a1), (2, .ref bj2)]) hx hb dX4_get_30 rfl hl (by decide) rfl (fun ls hl => ?_)
    refine lv_aload_n hx hb dX4_get_31 rfl (lv_at hl 1 rfl) ?_
    refine b_get (q := 24) (k := 1) hb0 X hK B rfl in_X4 (by omega) mg_24 (by decide) lk_X4_11 rfl rfl dX4_get_32 ?_
    refine lv_iload_n hx hb dX4_get_35 rfl (lv_at hl 2 rfl) ?_
    refine lv_iconst (v := 3) hx hb dX4_get_36 (by decide) ?_
    refine h_new3 (cz := 1) (sz := 3) X hA hK B (Nat.le_of_ble_eq_true rfl) (Nat.le_of_ble_eq_true rfl) (Nat.le_of_ble_eq_true rfl) (Nat.le_of_ble_eq_true rfl) dX4_get_37 (fun z5 H B => ?_)
    have B : WB g (aw N ad sz) s.heap (N + 1) (va_up ad N z5) (mg g (va_up ad N z5) (va_up y N (c_row g (0, 0, 0))) cr dr th kn rf pl pz mc) H locs := WM_push (by omega) B
    refine lv_dup hx hb dX4_get_39 rfl ?_
    refine lv_iconst (v := 0) hx hb dX4_get_40 (by decide) ?_
    refine lv_aload_n hx hb dX4_get_41 rfl (lv_at hl 3 rfl) ?_
    refine lv_iconst (v := 0) hx hb dX4_get_42 (by decide) ?_
    refine h_ld0 X hK B (Nat.lt_succ_of_lt hj2) ((up_lt hj2).trans hbj2) (mg_row hfj2 ((up_lt hj2).trans rfl)) dX4_get_43 ?_
    refine h_st (t := (0, 0, 0)) (t' := (tj2.1, 0, 0)) X hK B (Nat.lt_succ_self _) up_eq ((mg_hi (by omega)).trans up_eq) (by unfold vp_in; decide) (rw3_s0 _ _) dX4_get_44 (fun H locs B => ?_)
    rw [mg_yup (by omega), bx_uu] at B
    refine lv_dup hx hb dX4_get_45 rfl ?_
    refine lv_iconst (v := 1) hx hb dX4_get_46 (by decide) ?_
    refine lv_aload_n hx hb dX4_get_47 rfl (lv_at hl 3 rfl) ?_
    refine lv_iconst (v := 1) hx hb dX4_get_48 (by decide) ?_
    refine h_ld1 X hK B (Nat.lt_succ_of_lt hj2) ((up_lt hj2).trans hbj2) (mg_row hfj2 ((up_lt hj2).trans rfl)) dX4_get_49 ?_
    refine h_st (t := (tj2.1, 0, 0)) (t' := (tj2.1, tj2.2.1, 0)) X hK B (Nat.lt_succ_self _) up_eq ((mg_hi (by omega)).trans up_eq) (by unfold vp_in; decide) (rw3_s1 _ _) dX4_get_50 (fun H locs B => ?_)
    rw [mg_yup (by omega), bx_uu] at B
    refine lv_dup hx hb dX4_get_51 rfl ?_
    refine lv_iconst (v := 2) hx hb dX4_get_52 (by decide) ?_
    refine lv_aload_n hx hb dX4_get_53 rfl (lv_at hl 3 rfl) ?_
    refine lv_iconst (v := 2) hx hb dX4_get_54 (by decide) ?_
    refine h_ld2 X hK B (Nat.lt_succ_of_lt hj2) ((up_lt hj2).trans hbj2) (mg_row hfj2 ((up_lt hj2).trans rfl)) dX4_get_55 ?_
    refine h_st (t := (tj2.1, tj2.2.1, 0)) (t' := (tj2.1, tj2.2.1, tj2.2.2)) X hK B (Nat.lt_succ_self _) up_eq ((mg_hi (by omega)).trans up_eq) (by unfold vp_in; decide) (rw3_s2 _ _) dX4_get_56 (fun H locs B => ?_)
    rw [mg_yup (by omega), bx_uu] at B
    have g6 : a1.toNatClampNeg < 4 := (no_lt hza1)
    refine b_aast (q := 25) (qv := N) (up_lt (by omega)) X hK hT B (by omega) mg_25 (Nat.lt_succ_self _) up_eq ((mg_hi (by omega)).trans up_eq) (no_in hza1) dX4_get_57 (fun H locs B => ?_)
    have B : WB g (aw N ad sz) s.heap (N + 1) (va_up (va_up ad (28 + a1.toNatClampNeg) z5) N (ad (28 + a1.toNatClampNeg))) (mg g (va_up (va_up ad (28 + a1.toNatClampNeg) z5) N (ad (28 + a1.toNatClampNeg))) (va_up y N (c_row g (cr a1.toNatClampNeg))) (va_up cr a1.toNatClampNeg (tj2.1, tj2.2.1, tj2.2.2)) dr th kn rf pl pz mc) H locs := WM_crK B (fun _ => rfl) hN g6
    have kko : ∀ k, k < N → k < 28 ∨ 36 ≤ k → (va_up (va_up ad (28 + a1.toNatClampNeg) z5) N (ad (28 + a1.toNatClampNeg))) k = ad k := fun k hk hkq => (va_up_ne _ _ (by omega)).trans (va_up_ne _ _ (by omega))
    have nbo : (va_up (va_up ad (28 + a1.toNatClampNeg) z5) N (ad (28 + a1.toNatClampNeg))) 24 = b0 := (va_up_ne _ _ (by omega)).trans ((va_up_ne _ _ (by omega)).trans hb0)
    refine lv_iload_n hx hb dX4_get_58 rfl (lv_at hl 0 rfl) ?_
    have ev := (show v_X4_getK cr a1 tj2 = ((v_X4_one 0), va_up cr a1.toNatClampNeg (tj2.1, tj2.2.1, tj2.2.2)) from by unfold v_X4_getK; rw [if_neg c3])
    exact rt_i X hr (va_up (va_up ad (28 + a1.toNatClampNeg) z5) N (ad (28 + a1.toNatClampNeg)), mg g (va_up (va_up ad (28 + a1.toNatClampNeg) z5) N (ad (28 + a1.toNatClampNeg))) (va_up y N (c_row g (cr a1.toNatClampNeg))) (va_up cr a1.toNatClampNeg (tj2.1, tj2.2.1, tj2.2.2)) dr th kn rf pl pz mc) B (PO_of B) ⟨kko, va_up_self _ _ _, by rw [ev], by rw [ev]⟩ rfl (Nat.le_of_ble_eq_true rfl) (Nat.le_of_ble_eq_true rfl) dX4_get_59
  · refine lv_iconst (v := 1) hx hb dX4_get_22 (by decide) ?_
    refine lv_goto (tgt := 27) hx hb dX4_get_23 (by decide) ?_
    refine k_i (k := 0) (n := 0) hA B (u_S (rest := []) X (c_X4_one l g N ad (mg g ad y cr dr th kn rf pl pz mc) 1 H.size) mw_X4_one md_X4_one rfl lk_X4_91 ⟨Nat.le_of_ble_eq_true rfl, Nat.le_of_ble_eq_true rfl⟩ hA hK hT B hl.1 rfl (Nat.le_of_ble_eq_true rfl) dX4_get_27 ⟨Nat.le_of_ble_eq_true rfl, Nat.le_of_ble_eq_true rfl⟩) (Nat.le_of_ble_eq_true rfl) (Nat.le_of_ble_eq_true rfl) (fun r7 ad7 f' H locs hw B => ?_)
    obtain ⟨rfl, rfl, rfl⟩ := hw
    refine lv_istore_n (lv' := [(3, .int (v_X4_one 1)), (0, .ref b0), (1, .int a1), (2, .ref bj2)]) hx hb dX4_get_30 rfl hl (by decide) rfl (fun ls hl => ?_)
    refine lv_aload_n hx hb dX4_get_31 rfl (lv_at hl 1 rfl) ?_
    refine b_get (q := 24) (k := 1) hb0 X hK B rfl in_X4 (by omega) mg_24 (by decide) lk_X4_11 rfl rfl dX4_get_32 ?_
    refine lv_iload_n hx hb dX4_get_35 rfl (lv_at hl 2 rfl) ?_
    refine lv_iconst (v := 3) hx hb dX4_get_36 (by decide) ?_
    refine h_new3 (cz := 1) (sz := 3) X hA hK B (Nat.le_of_ble_eq_true rfl) (Nat.le_of_ble_eq_true rfl) (Nat.le_of_ble_eq_true rfl) (Nat.le_of_ble_eq_true rfl) dX4_get_37 (fun z8 H B => ?_)
    have B : WB g (aw N ad sz) s.heap (N + 1) (va_up ad N z8) (mg g (va_up ad N z8) (va_up y N (c_row g (0, 0, 0))) cr dr th kn rf pl pz mc) H locs := WM_push (by omega) B
    refine lv_dup hx hb dX4_get_39 rfl ?_
    refine lv_iconst (v := 0) hx hb dX4_get_40 (by decide) ?_
    refine lv_aload_n hx hb dX4_get_41 rfl (lv_at hl 3 rfl) ?_
    refine lv_iconst (v := 0) hx hb dX4_get_42 (by decide) ?_
    refine h_ld0 X hK B (Nat.lt_succ_of_lt hj2) ((up_lt hj2).trans hbj2) (mg_row hfj2 ((up_lt hj2).trans rfl)) dX4_get_43 ?_
    refine h_st (t := (0, 0, 0)) (t' := (tj2.1, 0, 0)) X hK B (Nat.lt_succ_self _) up_eq ((mg_hi (by omega)).trans up_eq) (by unfold vp_in; decide) (rw3_s0 _ _) dX4_get_44 (fun H locs B => ?_)
    rw [mg_yup (by omega), bx_uu] at B
    refine lv_dup hx hb dX4_get_45 rfl ?_
    refine lv_iconst (v := 1) hx hb dX4_get_46 (by decide) ?_
    refine lv_aload_n hx hb dX4_get_47 rfl (lv_at hl 3 rfl) ?_
    refine lv_iconst (v := 1) hx hb dX4_get_48 (by decide) ?_
    refine h_ld1 X hK B (Nat.lt_succ_of_lt hj2) ((up_lt hj2).trans hbj2) (mg_row hfj2 ((up_lt hj2).trans rfl)) dX4_get_49 ?_
    refine h_st (t := (tj2.1, 0, 0)) (t' := (tj2.1, tj2.2.1, 0)) X hK B (Nat.lt_succ_self _) up_eq ((mg_hi (by omega)).trans up_eq) (by unfold vp_in; decide) (rw3_s1 _ _) dX4_get_50 (fun H locs B => ?_)
    rw [mg_yup (by omega), bx_uu] at B
    refine lv_dup hx hb dX4_get_51 rfl ?_
    refine lv_iconst (v := 2) hx hb dX4_get_52 (by decide) ?_
    refine lv_aload_n hx hb dX4_get_53 rfl (lv_at hl 3 rfl) ?_
    refine lv_iconst (v := 2) hx hb dX4_get_54 (by decide) ?_
    refine h_ld2 X hK B (Nat.lt_succ_of_lt hj2) ((up_lt hj2).trans hbj2) (mg_row hfj2 ((up_lt hj2).trans rfl)) dX4_get_55 ?_
    refine h_st (t := (tj2.1, tj2.2.1, 0)) (t' := (tj2.1, tj2.2.1, tj2.2.2)) X hK B (Nat.lt_succ_self _) up_eq ((mg_hi (by omega)).trans up_eq) (by unfold vp_in; decide) (rw3_s2 _ _) dX4_get_56 (fun H locs B => ?_)
    rw [mg_yup (by omega), bx_uu] at B
    have g9 : a1.toNatClampNeg < 4 := (no_lt hza1)
    refine b_aast (q := 25) (qv := N) (up_lt (by omega)) X hK hT B (by omega) mg_25 (Nat.lt_succ_self _) up_eq ((mg_hi (by omega)).trans up_eq) (no_in hza1) dX4_get_57 (fun H locs B => ?_)
    have B : WB g (aw N ad sz) s.heap (N + 1) (va_up (va_up ad (28 + a1.toNatClampNeg) z8) N (ad (28 + a1.toNatClampNeg))) (mg g (va_up (va_up ad (28 + a1.toNatClampNeg) z8) N (ad (28 + a1.toNatClampNeg))) (va_up y N (c_row g (cr a1.toNatClampNeg))) (va_up cr a1.toNatClampNeg (tj2.1, tj2.2.1, tj2.2.2)) dr th kn rf pl pz mc) H locs := WM_crK B (fun _ => rfl) hN g9
    have kko : ∀ k, k < N → k < 28 ∨ 36 ≤ k → (va_up (va_up ad (28 + a1.toNatClampNeg) z8) N (ad (28 + a1.toNatClampNeg))) k = ad k := fun k hk hkq => (va_up_ne _ _ (by omega)).trans (va_up_ne _ _ (by omega))
    have nbo : (va_up (va_up ad (28 + a1.toNatClampNeg) z8) N (ad (28 + a1.toNatClampNeg))) 24 = b0 := (va_up_ne _ _ (by omega)).trans ((va_up_ne _ _ (by omega)).trans hb0)
    refine lv_iload_n hx hb dX4_get_58 rfl (lv_at hl 0 rfl) ?_
    have ev := (show v_X4_getK cr a1 tj2 = ((v_X4_one 1), va_up cr a1.toNatClampNeg (tj2.1, tj2.2.1, tj2.2.2)) from by unfold v_X4_getK; rw [if_pos c3])
    exact rt_i X hr (va_up (va_up ad (28 + a1.toNatClampNeg) z8) N (ad (28 + a1.toNatClampNeg)), mg g (va_up (va_up ad (28 + a1.toNatClampNeg) z8) N (ad (28 + a1.toNatClampNeg))) (va_up y N (c_row g (cr a1.toNatClampNeg))) (va_up cr a1.toNatClampNeg (tj2.1, tj2.2.1, tj2.2.2)) dr th kn rf pl pz mc) B (PO_of B) ⟨kko, va_up_self _ _ _, by rw [ev], by rw [ev]⟩ rfl (Nat.le_of_ble_eq_true rfl) (Nat.le_of_ble_eq_true rfl) dX4_get_59
def v_X4_swap (cr : Nat → TR) (a1 : Int32) (a2 : Int32) : Int32 × (Nat → TR) × Int32 := if (v_X4_isNone a1) = 0 then (if (v_X4_isNone a2) = 0 then ((v_X4_getK cr a1 (cr a2.toNatClampNeg)).1, (v_X4_get (v_X4_getK cr a1 (cr a2.toNatClampNeg)).2 a2 (cr a1.toNatClampNeg)).2, 0) else (0, cr, 1)) else (0, cr, 1)
set_option maxHeartbeats 4000000 in
set_option maxRecDepth 100000 in
theorem c_X4_swap (l : Launch) (g : GG) (N : Nat) (ad : Nat → Nat) (y : Nat → va_E) (cr dr : Nat → TR) (th kn rf : Int32) (pl : Nat → TR) (pz : Nat) (mc : Int32) (hN : 36 + pz ≤ N) (b0 : Nat) (hb0 : ad 24 = b0) (a1 : Int32) (a2 : Int32) : KI l yX4_swap cX4_swap 5 (some .int) (rm 2 2 6) g [.ref b0, .int a1, .int a2] N ad (mg g ad y cr dr th kn rf pl pz mc) N (fun r ad' f' => (∀ k, k < N → k < 28 ∨ 36 ≤ k → ad' k = ad k) ∧ (v_X4_swap cr a1 a2).1 = r ∧ mg g ad' y (v_X4_swap cr a1 a2).2.1 dr (v_X4_swap cr a1 a2).2.2 kn rf pl pz mc = f') := by
  intro sz
  refine mt_start (by decide) (Nat.le_of_ble_eq_true rfl) ?_
  intro p e s m args below meth c hsz X hr hnam hA hK hT H locs B ls hl
  obtain ⟨hx, hb, hml, hown, hts, hlocks⟩ := id X
  have hl : lv_has ls 5 [(0, .ref b0), (1, .int a1), (2, .int a2)] := hl
  refine lv_aload_n hx hb dX4_swap_0 rfl (lv_at hl 0 rfl) ?_
  refine lv_iload_n hx hb dX4_swap_1 rfl (lv_at hl 1 rfl) ?_
  refine k_i (k := 0) (n := 0) hA B (u_S (rest := [.ref b0]) X (c_X4_isNone l g N ad (mg g ad y cr dr th kn rf pl pz mc) a1 H.size) mw_X4_isNone md_X4_isNone rfl lk_X4_95 ⟨Nat.le_of_ble_eq_true rfl, Nat.le_of_ble_eq_true rfl⟩ hA hK hT B hl.1 rfl (Nat.le_of_ble_eq_true rfl) dX4_swap_2 ⟨Nat.le_of_ble_eq_true rfl, Nat.le_of_ble_eq_true rfl⟩) (Nat.le_of_ble_eq_true rfl) (Nat.le_of_ble_eq_true rfl) (fun r1 ad1 f' H locs hw B => ?_)
  obtain ⟨rfl, rfl, rfl⟩ := hw
  refine lv_if_ne (tgt := 15) hx hb dX4_swap_5 (by decide) (fun c2 => ?_) (fun c2 => ?_)
  · refine lv_iconst (v := 1) hx hb dX4_swap_15 (by decide) ?_
    refine lv_goto (tgt := 20) hx hb dX4_swap_16 (by decide) ?_
    refine lv_iconst (v := 0) hx hb dX4_swap_20 (by decide) ?_
    refine k_i (k := 0) (n := 0) hA B (b_V (q := 24) (rest := []) hb0 X (c_X4_stops l g N ad y cr dr th kn rf pl pz mc (by omega) b0 hb0 1 0 H.size) mw_X4_stops md_X4_stops rfl lk_X4_99 ⟨Nat.le_of_ble_eq_true rfl, Nat.le_of_ble_eq_true rfl⟩ hA hK hT B (by omega) mg_24 rfl rfl hl.1 rfl (Nat.le_of_ble_eq_true rfl) dX4_swap_21 ⟨Nat.le_of_ble_eq_true rfl, Nat.le_of_ble_eq_true rfl⟩) (Nat.le_of_ble_eq_true rfl) (Nat.le_of_ble_eq_true rfl) (fun r ad' f' H locs hw B => ?_)
    rw [st_10] at hw
    dsimp only at hw
    obtain ⟨rfl, rfl, rfl⟩ := hw
    have B : WB g (aw N ad sz) s.heap N ad (mg g ad y cr dr 1 kn rf pl pz mc) H locs := B
    refine lv_if_eq (tgt := 29) hx hb dX4_swap_24 (by decide) (fun z => absurd z (by decide)) (fun _ => ?_)
    refine lv_iconst (v := 0) hx hb dX4_swap_27 (by decide) ?_
    have ev := (show v_X4_swap cr a1 a2 = (0, cr, 1) from by unfold v_X4_swap; rw [if_neg c2])
    exact rt_i X hr (ad, mg g ad y cr dr 1 kn rf pl pz mc) B (PO_of B) ⟨(fun _ _ _ => rfl), by rw [ev], by rw [ev]⟩ rfl (Nat.le_of_ble_eq_true rfl) (Nat.le_of_ble_eq_true rfl) dX4_swap_28
  · refine lv_iload_n hx hb dX4_swap_8 rfl (lv_at hl 2 rfl) ?_
    refine k_i (k := 0) (n := 0) hA B (u_S (rest := [.ref b0]) X (c_X4_isNone l g N ad (mg g ad y cr dr th kn rf pl pz mc) a2 H.size) mw_X4_isNone md_X4_isNone rfl lk_X4_95 ⟨Nat.le_of_ble_eq_true rfl, Nat.le_of_ble_eq_true rfl⟩ hA hK hT B hl.1 rfl (Nat.le_of_ble_eq_true rfl) dX4_swap_9 ⟨Nat.le_of_ble_eq_true rfl, Nat.le_of_ble_eq_true rfl⟩) (Nat.le_of_ble_eq_true rfl) (Nat.le_of_ble_eq_true rfl) (fun r3 ad3 f' H locs hw B => ?_)
    obtain ⟨rfl, rfl, rfl⟩ := hw
    refine lv_if_eq (tgt := 19) hx hb dX4_swap_12 (by decide) (fun c4 => ?_) (fun c4 => ?_)
    · refine lv_iconst (v := 0) hx hb dX4_swap_19 (by decide) ?_
      refine lv_iconst (v := 0) hx hb dX4_swap_20 (by decide) ?_
      refine k_i (k := 0) (n := 0) hA B (b_V (q := 24) (rest := []) hb0 X (c_X4_stops l g N ad y cr dr th kn rf pl pz mc (by omega) b0 hb0 0 0 H.size) mw_X4_stops md_X4_stops rfl lk_X4_99 ⟨Nat.le_of_ble_eq_true rfl, Nat.le_of_ble_eq_true rfl⟩ hA hK hT B (by omega) mg_24 rfl rfl hl.1 rfl (Nat.le_of_ble_eq_true rfl) dX4_swap_21 ⟨Nat.le_of_ble_eq_true rfl, Nat.le_of_ble_eq_true rfl⟩) (Nat.le_of_ble_eq_true rfl) (Nat.le_of_ble_eq_true rfl) (fun r ad' f' H locs hw B => ?_)
      rw [st_00] at hw
      dsimp only at hw
      obtain ⟨rfl, rfl, rfl⟩ := hw
      have B : WB g (aw N ad sz) s.heap N ad (mg g ad y cr dr 0 kn rf pl pz mc) H locs := B
      refine lv_if_eq (tgt := 29) hx hb dX4_swap_24 (by decide) (fun _ => ?_) (fun z => absurd z (by decide))
      refine lv_aload_n hx hb dX4_swap_29 rfl (lv_at hl 0 rfl) ?_
      refine b_get (q := 24) (k := 1) hb0 X hK B rfl in_X4 (by omega) mg_24 (by decide) lk_X4_11 rfl rfl dX4_swap_30 ?_
      refine lv_iload_n hx hb dX4_swap_33 rfl (lv_at hl 1 rfl) ?_
      refine b_aald (q := 25) (t0 := 2) (v := ad (28 + a1.toNatClampNeg)) rfl X hK B (by omega) mg_25 rfl rfl (no_in c2) rfl dX4_swap_34 ?_
      have g5 : a1.toNatClampNeg < 4 := (no_lt c2)
      refine lv_astore_n (lv' := [(3, .ref (ad (28 + a1.toNatClampNeg))), (0, .ref b0), (1, .int a1), (2, .int a2)]) hx hb dX4_swap_35 rfl hl (by decide) rfl (fun ls hl => ?_)
      refine lv_aload_n hx hb dX4_swap_36 rfl (lv_at hl 1 rfl) ?_
      refine lv_iload_n hx hb dX4_swap_37 rfl (lv_at hl 2 rfl) ?_
      refine lv_aload_n hx hb dX4_swap_38 rfl (lv_at hl 1 rfl) ?_
      refine b_get (q := 24) (k := 1) hb0 X hK B rfl in_X4 (by omega) mg_24 (by decide) lk_X4_11 rfl rfl dX4_swap_39 ?_
      refine lv_iload_n hx hb dX4_swap_42 rfl (lv_at hl 3 rfl) ?_
      refine b_aald (q := 25) (t0 := 2) (v := ad (28 + a2.toNatClampNeg)) rfl X hK B (by omega) mg_25 rfl rfl (no_in c4) rfl dX4_swap_43 ?_
      have g6 : a2.toNatClampNeg < 4 := (no_lt c4)
      refine k_i (k := 1) (n := 3) hA B (b_V (q := 24) (rest := []) hb0 X (c_X4_getK l g N ad y cr dr 0 kn rf pl pz mc (by omega) b0 hb0 a1 (28 + a2.toNatClampNeg) (ad (28 + a2.toNatClampNeg)) (cr a2.toNatClampNeg) (pl_cr hN g6) rfl (mg_cr g6) c2 H.size) mw_X4_get md_X4_get rfl lk_X4_103 ⟨Nat.le_of_ble_eq_true rfl, Nat.le_of_ble_eq_true rfl⟩ hA hK hT B (by omega) mg_24 rfl rfl hl.1 rfl (Nat.le_of_ble_eq_true rfl) dX4_swap_44 ⟨Nat.le_of_ble_eq_true rfl, Nat.le_of_ble_eq_true rfl⟩) (Nat.le_of_ble_eq_true rfl) (Nat.le_of_ble_eq_true rfl) (fun r7 ad7 f' H locs hw B => ?_)
      dsimp only at hw
      obtain ⟨kkw, hnw, rfl, rfl⟩ := hw
      have B : WB g (aw N ad sz) s.heap (N + 1) (va_up ad7 N (ad (28 + a1.toNatClampNeg))) (mg g (va_up ad7 N (ad (28 + a1.toNatClampNeg))) (va_up y N (c_row g (cr a1.toNatClampNeg))) (v_X4_getK cr a1 (cr a2.toNatClampNeg)).2 dr 0 kn rf pl pz mc) H locs := WM_re B hnw
      have nbw : ad7 24 = b0 := (kkw 24 (by omega) (Or.inl (by decide))).trans hb0
      refine lv_istore (lv' := [(4, .int (v_X4_getK cr a1 (cr a2.toNatClampNeg)).1), (3, .ref (ad (28 + a1.toNatClampNeg))), (0, .ref b0), (1, .int a1), (2, .int a2)]) hx hb dX4_swap_47 hl (by decide) rfl (fun ls hl => ?_)
      refine lv_aload_n hx hb dX4_swap_49 rfl (lv_at hl 2 rfl) ?_
      refine lv_iload_n hx hb dX4_swap_50 rfl (lv_at hl 4 rfl) ?_
      refine lv_aload_n hx hb dX4_swap_51 rfl (lv_at hl 1 rfl) ?_
      refine k_i (k := 2) (n := 6) hA B (b_V (q := 24) (rest := []) ((up_lt (by omega)).trans nbw) X (c_X4_get l g (N + 1) (va_up ad7 N (ad (28 + a1.toNatClampNeg))) (va_up y N (c_row g (cr a1.toNatClampNeg))) (v_X4_getK cr a1 (cr a2.toNatClampNeg)).2 dr 0 kn rf pl pz mc (by omega) b0 ((up_lt (by omega)).trans nbw) a2 N (ad (28 + a1.toNatClampNeg)) (cr a1.toNatClampNeg) (Nat.lt_succ_self _) up_eq ((mg_hi (by omega)).trans up_eq) c4 H.size) mw_X4_get md_X4_get rfl lk_X4_103 ⟨Nat.le_of_ble_eq_true rfl, Nat.le_of_ble_eq_true rfl⟩ hA hK hT B (by omega) mg_24 rfl rfl hl.1 rfl (Nat.le_of_ble_eq_true rfl) dX4_swap_52 ⟨Nat.le_of_ble_eq_true rfl, Nat.le_of_ble_eq_true rfl⟩) (Nat.le_of_ble_eq_true rfl) (Nat.le_of_ble_eq_true rfl) (fun r8 ad8 f' H locs hw B => ?_)
      dsimp only at hw
      obtain ⟨mv9, rfl, rfl⟩ := hw
      have B : WB g (aw N ad sz) s.heap N ad8 (mg g ad8 y (v_X4_get (v_X4_getK cr a1 (cr a2.toNatClampNeg)).2 a2 (cr a1.toNatClampNeg)).2 dr 0 kn rf pl pz mc) H locs := WM_drop B (by omega) (by omega) (fun _ _ => rfl) (fun _ hk => (up_lt hk))
      have kk10 : ∀ k, k < N → k < 28 ∨ 36 ≤ k → ad8 k = ad k := fun k hk hkq => (mv9 k (by omega) hkq).trans (((fun _ hk => (up_lt hk)) k hk).trans (kkw k hk hkq))
      have nb11 : ad8 24 = b0 := (mv9 24 (by omega) (Or.inl (by decide))).trans ((up_lt (by omega)).trans nbw)
      refine lv_pop hx hb dX4_swap_55 rfl ?_
      refine lv_iload hx hb dX4_swap_56 (lv_at hl 0 rfl) ?_
      have ev := (show v_X4_swap cr a1 a2 = ((v_X4_getK cr a1 (cr a2.toNatClampNeg)).1, (v_X4_get (v_X4_getK cr a1 (cr a2.toNatClampNeg)).2 a2 (cr a1.toNatClampNeg)).2, 0) from by unfold v_X4_swap; rw [if_pos c2, if_pos c4])
      exact rt_i X hr (ad8, mg g ad8 y (v_X4_get (v_X4_getK cr a1 (cr a2.toNatClampNeg)).2 a2 (cr a1.toNatClampNeg)).2 dr 0 kn rf pl pz mc) B (PO_of B) ⟨kk10, by rw [ev], by rw [ev]⟩ rfl (Nat.le_of_ble_eq_true rfl) (Nat.le_of_ble_eq_true rfl) dX4_swap_58
    · refine lv_iconst (v := 1) hx hb dX4_swap_15 (by decide) ?_
      refine lv_goto (tgt := 20) hx hb dX4_swap_16 (by decide) ?_
      refine lv_iconst (v := 0) hx hb dX4_swap_20 (by decide) ?_
      refine k_i (k := 0) (n := 0) hA B (b_V (q := 24) (rest := []) hb0 X (c_X4_stops l g N ad y cr dr th kn rf pl pz mc (by omega) b0 hb0 1 0 H.size) mw_X4_stops md_X4_stops rfl lk_X4_99 ⟨Nat.le_of_ble_eq_true rfl, Nat.le_of_ble_eq_true rfl⟩ hA hK hT B (by omega) mg_24 rfl rfl hl.1 rfl (Nat.le_of_ble_eq_true rfl) dX4_swap_21 ⟨Nat.le_of_ble_eq_true rfl, Nat.le_of_ble_eq_true rfl⟩) (Nat.le_of_ble_eq_true rfl) (Nat.le_of_ble_eq_true rfl) (fun r ad' f' H locs hw B => ?_)
      rw [st_10] at hw
      dsimp only at hw
      obtain ⟨rfl, rfl, rfl⟩ := hw
      have B : WB g (aw N ad sz) s.heap N ad (mg g ad y cr dr 1 kn rf pl pz mc) H locs := B
      refine lv_if_eq (tgt := 29) hx hb dX4_swap_24 (by decide) (fun z => absurd z (by decide)) (fun _ => ?_)
      refine lv_iconst (v := 0) hx hb dX4_swap_27 (by decide) ?_
      have ev := (show v_X4_swap cr a1 a2 = (0, cr, 1) from by unfold v_X4_swap; rw [if_pos c2, if_neg c4])
      exact rt_i X hr (ad, mg g ad y cr dr 1 kn rf pl pz mc) B (PO_of B) ⟨(fun _ _ _ => rfl), by rw [ev], by rw [ev]⟩ rfl (Nat.le_of_ble_eq_true rfl) (Nat.le_of_ble_eq_true rfl) dX4_swap_28
def v_X4_lay (cr : Nat → TR) (rf : Int32) (pl : Nat → TR) (pz : Nat) (mc : Int32) (a1 : Int32) : Int32 × Int32 × Int32 × (Nat → TR) × Nat × Int32 := if v_X4_isNone a1 = 0 then (if (Int32.ofNat (pz - 1)) = 8 then ((v_X4_refuse rf).1, 0, (v_X4_refuse rf).2, pl, pz, mc) else (if pz = 0 then (Int32.ofNat (2 - 1), 0, rf, va_up pl 0 ((cr a1.toNatClampNeg).1, (cr a1.toNatClampNeg).2.1, (cr a1.toNatClampNeg).2.2), 2, mc + 1) else (Int32.ofNat ((pz + 1) - 1), 0, rf, va_up pl (pz - 1) ((cr a1.toNatClampNeg).1, (cr a1.toNatClampNeg).2.1, (cr a1.toNatClampNeg).2.2), (pz + 1), mc + 1))) else (0, 1, rf, pl, pz, mc)
set_option maxHeartbeats 4000000 in
set_option maxRecDepth 100000 in
theorem c_X4_lay (l : Launch) (g : GG) (N : Nat) (ad : Nat → Nat) (y : Nat → va_E) (cr dr : Nat → TR) (th kn rf : Int32) (pl : Nat → TR) (pz : Nat) (mc : Int32) (hN : 36 + pz ≤ N) (b0 : Nat) (hb0 : ad 24 = b0) (a1 : Int32) (hz : pz ≤ 9) (hNe : N = 36 + pz) : KI l yX4_lay cX4_lay 2 (some .int) (rm 5 2 13) g [.ref b0, .int a1] N ad (mg g ad y cr dr th kn rf pl pz mc) (36 + (v_X4_lay cr rf pl pz mc a1).2.2.2.2.1) (fun r ad' f' => (∀ k, k < N → k < 28 ∨ 36 ≤ k → ad' k = ad k) ∧ (v_X4_lay cr rf pl pz mc a1).1 = r ∧ mg g ad' y cr dr (v_X4_lay cr rf pl pz mc a1).2.1 kn (v_X4_lay cr rf pl pz mc a1).2.2.1 (v_X4_lay cr rf pl pz mc a1).2.2.2.1 (v_X4_lay cr rf pl pz mc a1).2.2.2.2.1 (v_X4_lay cr rf pl pz mc a1).2.2.2.2.2 = f') := by
  intro sz
  refine mt_start (by decide) (Nat.le_of_ble_eq_true rfl) ?_
  intro p e s m args below meth c hsz X hr hnam hA hK hT H locs B ls hl
  obtain ⟨hx, hb, hml, hown, hts, hlocks⟩ := id X
  have hl : lv_has ls 2 [(0, .ref b0), (1, .int a1)] := hl
  refine lv_aload_n hx hb dX4_lay_0 rfl (lv_at hl 0 rfl) ?_
  refine lv_iload_n hx hb dX4_lay_1 rfl (lv_at hl 1 rfl) ?_
  refine k_i (k := 0) (n := 0) hA B (u_S (rest := [.ref b0]) X (c_X4_isNone l g N ad (mg g ad y cr dr th kn rf pl pz mc) a1 H.size) mw_X4_isNone md_X4_isNone rfl lk_X4_95 ⟨Nat.le_of_ble_eq_true rfl, Nat.le_of_ble_eq_true rfl⟩ hA hK hT B hl.1 rfl (Nat.le_of_ble_eq_true rfl) dX4_lay_2 ⟨Nat.le_of_ble_eq_true rfl, Nat.le_of_ble_eq_true rfl⟩) (Nat.le_of_ble_eq_true rfl) (Nat.le_of_ble_eq_true rfl) (fun r1 ad1 f' H locs hw B => ?_)
  obtain ⟨rfl, rfl, rfl⟩ := hw
  refine lv_iconst (v := 0) hx hb dX4_lay_5 (by decide) ?_
  by_cases s2 : v_X4_isNone a1 = 0
  · rw [s2]
    refine k_i (k := 0) (n := 0) hA B (b_V (q := 24) (rest := []) hb0 X (c_X4_stops l g N ad y cr dr th kn rf pl pz mc (by omega) b0 hb0 0 0 H.size) mw_X4_stops md_X4_stops rfl lk_X4_99 ⟨Nat.le_of_ble_eq_true rfl, Nat.le_of_ble_eq_true rfl⟩ hA hK hT B (by omega) mg_24 rfl rfl hl.1 rfl (Nat.le_of_ble_eq_true rfl) dX4_lay_6 ⟨Nat.le_of_ble_eq_true rfl, Nat.le_of_ble_eq_true rfl⟩) (Nat.le_of_ble_eq_true rfl) (Nat.le_of_ble_eq_true rfl) (fun r ad' f' H locs hw B => ?_)
    rw [st_00] at hw
    dsimp only at hw
    obtain ⟨rfl, rfl, rfl⟩ := hw
    have B : WB g (aw N ad sz) s.heap N ad (mg g ad y cr dr 0 kn rf pl pz mc) H locs := B
    refine lv_if_eq (tgt := 14) hx hb dX4_lay_9 (by decide) (fun _ => ?_) (fun z => absurd z (by decide))
    refine lv_aload_n hx hb dX4_lay_14 rfl (lv_at hl 0 rfl) ?_
    refine b_get (q := 24) (k := 2) hb0 X hK B rfl in_X4 (by omega) mg_24 (by decide) lk_X4_17 rfl rfl dX4_lay_15 ?_
    refine k_i (k := 0) (n := 0) hA B (b_V (q := 27) (rest := []) rfl X (c_L_size l g N ad (mg g ad y cr dr 0 kn rf pl pz mc) 27 (ad 27) (by omega) rfl mc (Int32.ofNat (pz - 1)) _ mg_27 H.size) mw_Jx4a65c_size_8abf5 md_Jx4a65c_size_8abf5 rfl lk_X4_128 ⟨Nat.le_of_ble_eq_true rfl, Nat.le_of_ble_eq_true rfl⟩ hA hK hT B (by omega) mg_27 rfl rfl hl.1 rfl (Nat.le_of_ble_eq_true rfl) dX4_lay_18 ⟨Nat.le_of_ble_eq_true rfl, Nat.le_of_ble_eq_true rfl⟩) (Nat.le_of_ble_eq_true rfl) (Nat.le_of_ble_eq_true rfl) (fun r ad' f' H locs hw B => ?_)
    obtain ⟨rfl, rfl, rfl⟩ := hw
    refine lv_bipush (v := 8) hx hb dX4_lay_21 (by decide) ?_
    refine lv_icmp_ne (tgt := 31) hx hb dX4_lay_23 (by decide) (fun c3 => ?_) (fun c3 => ?_)
    · refine lv_aload_n hx hb dX4_lay_31 rfl (lv_at hl 0 rfl) ?_
      refine b_get (q := 24) (k := 2) hb0 X hK B rfl in_X4 (by omega) mg_24 (by decide) lk_X4_17 rfl rfl dX4_lay_32 ?_
      refine lv_iconst (v := 3) hx hb dX4_lay_35 (by decide) ?_
      refine h_new3 (cz := 1) (sz := 3) X hA hK B (Nat.le_of_ble_eq_true rfl) (Nat.le_of_ble_eq_true rfl) (Nat.le_of_ble_eq_true rfl) (Nat.le_of_ble_eq_true rfl) dX4_lay_36 (fun z4 H B => ?_)
      have B : WB g (aw N ad sz) s.heap (N + 1) (va_up ad N z4) (mg g (va_up ad N z4) (va_up y N (c_row g (0, 0, 0))) cr dr 0 kn rf pl pz mc) H locs := WM_push (by omega) B
      refine lv_dup hx hb dX4_lay_38 rfl ?_
      refine lv_iconst (v := 0) hx hb dX4_lay_39 (by decide) ?_
      refine lv_aload_n hx hb dX4_lay_40 rfl (lv_at hl 0 rfl) ?_
      refine b_get (q := 24) (k := 1) ((up_lt (by omega)).trans hb0) X hK B rfl in_X4 (by omega) mg_24 (by decide) lk_X4_11 rfl rfl dX4_lay_41 ?_
      refine lv_iload_n hx hb dX4_lay_44 rfl (lv_at hl 1 rfl) ?_
      refine b_aald (q := 25) (t0 := 2) (v := (va_up ad N z4) (28 + a1.toNatClampNeg)) rfl X hK B (by omega) mg_25 rfl rfl (no_in s2) rfl dX4_lay_45 ?_
      have g5 : a1.toNatClampNeg < 4 := (no_lt s2)
      rw [show (va_up ad N z4) (28 + a1.toNatClampNeg) = ad (28 + a1.toNatClampNeg) from (up_lt (by omega))]
      refine lv_iconst (v := 0) hx hb dX4_lay_46 (by decide) ?_
      refine h_ld0 X hK B (Nat.lt_succ_of_lt (pl_cr hN g5)) ((up_lt (pl_cr hN g5)).trans rfl) (mg_cr g5) dX4_lay_47 ?_
      refine h_st (t := (0, 0, 0)) (t' := ((cr a1.toNatClampNeg).1, 0, 0)) X hK B (Nat.lt_succ_self _) up_eq ((mg_hi (by omega)).trans up_eq) (by unfold vp_in; decide) (rw3_s0 _ _) dX4_lay_48 (fun H locs B => ?_)
      rw [mg_yup (by omega), bx_uu] at B
      refine lv_dup hx hb dX4_lay_49 rfl ?_
      refine lv_iconst (v := 1) hx hb dX4_lay_50 (by decide) ?_
      refine lv_aload_n hx hb dX4_lay_51 rfl (lv_at hl 0 rfl) ?_
      refine b_get (q := 24) (k := 1) ((up_lt (by omega)).trans hb0) X hK B rfl in_X4 (by omega) mg_24 (by decide) lk_X4_11 rfl rfl dX4_lay_52 ?_
      refine lv_iload_n hx hb dX4_lay_55 rfl (lv_at hl 1 rfl) ?_
      refine b_aald (q := 25) (t0 := 2) (v := (va_up ad N z4) (28 + a1.toNatClampNeg)) rfl X hK B (by omega) mg_25 rfl rfl (no_in s2) rfl dX4_lay_56 ?_
      have g6 : a1.toNatClampNeg < 4 := (no_lt s2)
      rw [show (va_up ad N z4) (28 + a1.toNatClampNeg) = ad (28 + a1.toNatClampNeg) from (up_lt (by omega))]
      refine lv_iconst (v := 1) hx hb dX4_lay_57 (by decide) ?_
      refine h_ld1 X hK B (Nat.lt_succ_of_lt (pl_cr hN g6)) ((up_lt (pl_cr hN g6)).trans rfl) (mg_cr g6) dX4_lay_58 ?_
      refine h_st (t := ((cr a1.toNatClampNeg).1, 0, 0)) (t' := ((cr a1.toNatClampNeg).1, (cr a1.toNatClampNeg).2.1, 0)) X hK B (Nat.lt_succ_self _) up_eq ((mg_hi (by omega)).trans up_eq) (by unfold vp_in; decide) (rw3_s1 _ _) dX4_lay_59 (fun H locs B => ?_)
      rw [mg_yup (by omega), bx_uu] at B
      refine lv_dup hx hb dX4_lay_60 rfl ?_
      refine lv_iconst (v := 2) hx hb dX4_lay_61 (by decide) ?_
      refine lv_aload_n hx hb dX4_lay_62 rfl (lv_at hl 0 rfl) ?_
      refine b_get (q := 24) (k := 1) ((up_lt (by omega)).trans hb0) X hK B rfl in_X4 (by omega) mg_24 (by decide) lk_X4_11 rfl rfl dX4_lay_63 ?_
      refine lv_iload_n hx hb dX4_lay_66 rfl (lv_at hl 1 rfl) ?_
      refine b_aald (q := 25) (t0 := 2) (v := (va_up ad N z4) (28 + a1.toNatClampNeg)) rfl X hK B (by omega) mg_25 rfl rfl (no_in s2) rfl dX4_lay_67 ?_
      have g7 : a1.toNatClampNeg < 4 := (no_lt s2)
      rw [show (va_up ad N z4) (28 + a1.toNatClampNeg) = ad (28 + a1.toNatClampNeg) from (up_lt (by omega))]
      refine lv_iconst (v := 2) hx hb dX4_lay_68 (by decide) ?_
      refine h_ld2 X hK B (Nat.lt_succ_of_lt (pl_cr hN g7)) ((up_lt (pl_cr hN g7)).trans rfl) (mg_cr g7) dX4_lay_69 ?_
      refine h_st (t := ((cr a1.toNatClampNeg).1, (cr a1.toNatClampNeg).2.1, 0)) (t' := ((cr a1.toNatClampNeg).1, (cr a1.toNatClampNeg).2.1, (cr a1.toNatClampNeg).2.2)) X hK B (Nat.lt_succ_self _) up_eq ((mg_hi (by omega)).trans up_eq) (by unfold vp_in; decide) (rw3_s2 _ _) dX4_lay_70 (fun H locs B => ?_)
      rw [mg_yup (by omega), bx_uu] at B
      by_cases hp : pz = 0
      · refine k_i (k := 2) (n := 13) hA B (b_V (q := 27) (rest := []) (up_lt (by omega)) X (c_L_addZ l g (N + 1) (va_up ad N z4) (mg g (va_up ad N z4) (va_up y N (c_row g ((cr a1.toNatClampNeg).1, (cr a1.toNatClampNeg).2.1, (cr a1.toNatClampNeg).2.2))) cr dr 0 kn rf pl pz mc) 27 (ad 27) (by omega) (up_lt (by omega)) mc (mg_27z hp) N z4 ((cr a1.toNatClampNeg).1, (cr a1.toNatClampNeg).2.1, (cr a1.toNatClampNeg).2.2) (Nat.lt_succ_self _) up_eq ((mg_hi (by omega)).trans up_eq) (by omega) H.size) mw_Jx4a65c_add_9ea2d md_Jx4a65c_add_9ea2d rfl lk_X4_131 ⟨Nat.le_of_ble_eq_true rfl, Nat.le_of_ble_eq_true rfl⟩ hA hK hT B (by omega) (mg_27z hp) rfl rfl hl.1 rfl (Nat.le_of_ble_eq_true rfl) dX4_lay_71 ⟨Nat.le_of_ble_eq_true rfl, Nat.le_of_ble_eq_true rfl⟩) (Nat.le_of_ble_eq_true rfl) (Nat.le_of_ble_eq_true rfl) (fun r ad' f' H locs hw B => ?_)
        obtain ⟨zz8, rfl, rfl⟩ := hw
        have B : WB g (aw N ad sz) s.heap (36 + 2) (va_up (va_up ad 36 zz8) 37 z4) (mg g (va_up (va_up ad 36 zz8) 37 z4) y cr dr 0 kn rf (va_up pl 0 ((cr a1.toNatClampNeg).1, (cr a1.toNatClampNeg).2.1, (cr a1.toNatClampNeg).2.2)) 2 (mc + 1)) H locs := WM_layZ (t := ((cr a1.toNatClampNeg).1, (cr a1.toNatClampNeg).2.1, (cr a1.toNatClampNeg).2.2)) (hh := va_up (fun _ => none) (0 : Int32).toNatClampNeg (some z4)) (a := z4) (z := zz8) (adA := (va_up ad N z4)) (yA := (va_up y N (c_row g ((cr a1.toNatClampNeg).1, (cr a1.toNatClampNeg).2.1, (cr a1.toNatClampNeg).2.2)))) (show N = 36 by omega) B ((va_up_ne _ _ (by omega)).trans (va_up_self _ _ _)) (va_up_self _ _ _) (by decide) (fun k hk => (va_up_ne _ _ (by omega)).trans (va_up_ne _ _ (by omega))) (fun k hk => va_up_ne _ _ (by omega)) (fun k hk => va_up_ne _ _ (by omega)) (va_up_self _ _ _) ((va_up_ne _ _ (by omega)).trans (va_up_self _ _ _)) (by rw [show (0 : Int32).toNatClampNeg = 0 from by decide, va_up_self]) (fun j hj => by rw [show (0 : Int32).toNatClampNeg = 0 from by decide]; exact va_up_ne _ _ (by omega)) (by rw [va_up_ne _ _ (by omega), va_up_ne _ _ (by omega), va_up_ne _ _ (by omega), va_up_ne _ _ (by omega), va_up_ne _ _ (by omega), mg_hi (by omega), va_up_self]) (fun k hk h7 => by rw [va_up_ne _ _ (by omega), va_up_ne _ _ (by omega), va_up_ne _ _ (by omega), va_up_ne _ _ (by omega), va_up_ne _ _ (by omega)])
        have hkm : ∀ k, k < N → k < 28 ∨ 36 ≤ k → (va_up (va_up ad 36 zz8) 37 z4) k = ad k := fun k hk _ => (va_up_ne _ _ (by omega)).trans (va_up_ne _ _ (by omega))
        have hbm : (va_up (va_up ad 36 zz8) 37 z4) 24 = b0 := ((va_up_ne _ _ (by omega)).trans (va_up_ne _ _ (by omega))).trans hb0
        refine lv_pop hx hb dX4_lay_74 rfl ?_
        refine lv_aload_n hx hb dX4_lay_75 rfl (lv_at hl 0 rfl) ?_
        refine b_get (q := 24) (k := 2) hbm X hK B rfl in_X4 (by omega) mg_24 (by decide) lk_X4_17 rfl rfl dX4_lay_76 ?_
        refine k_i (k := 2) (n := 13) hA B (b_V (q := 27) (rest := []) rfl X (c_L_size l g (36 + 2) (va_up (va_up ad 36 zz8) 37 z4) (mg g (va_up (va_up ad 36 zz8) 37 z4) y cr dr 0 kn rf (va_up pl 0 ((cr a1.toNatClampNeg).1, (cr a1.toNatClampNeg).2.1, (cr a1.toNatClampNeg).2.2)) 2 (mc + 1)) 27 ((va_up (va_up ad 36 zz8) 37 z4) 27) (by omega) rfl (mc + 1) (Int32.ofNat (2 - 1)) _ mg_27 H.size) mw_Jx4a65c_size_8abf5 md_Jx4a65c_size_8abf5 rfl lk_X4_128 ⟨Nat.le_of_ble_eq_true rfl, Nat.le_of_ble_eq_true rfl⟩ hA hK hT B (by omega) mg_27 rfl rfl hl.1 rfl (Nat.le_of_ble_eq_true rfl) dX4_lay_79 ⟨Nat.le_of_ble_eq_true rfl, Nat.le_of_ble_eq_true rfl⟩) (Nat.le_of_ble_eq_true rfl) (Nat.le_of_ble_eq_true rfl) (fun r ad' f' H locs hw B => ?_)
        obtain ⟨rfl, rfl, rfl⟩ := hw
        have ev := (show v_X4_lay cr rf pl pz mc a1 = (Int32.ofNat (2 - 1), 0, rf, va_up pl 0 ((cr a1.toNatClampNeg).1, (cr a1.toNatClampNeg).2.1, (cr a1.toNatClampNeg).2.2), 2, mc + 1) from by unfold v_X4_lay; rw [if_pos s2, if_neg c3, if_pos hp])
        exact rt_i X hr ((va_up (va_up ad 36 zz8) 37 z4), mg g (va_up (va_up ad 36 zz8) 37 z4) y cr dr 0 kn rf (va_up pl 0 ((cr a1.toNatClampNeg).1, (cr a1.toNatClampNeg).2.1, (cr a1.toNatClampNeg).2.2)) 2 (mc + 1)) B (by rw [ev]; exact PO_of B) ⟨hkm, by rw [ev], by rw [ev]⟩ rfl (Nat.le_of_ble_eq_true rfl) (Nat.le_of_ble_eq_true rfl) dX4_lay_82
      · have hp8 : pz ≤ 8 := sz_ne hz c3
        refine k_i (k := 1) (n := 3) hA B (b_V (q := 27) (rest := []) (up_lt (by omega)) X (c_L_add l g (N + 1) (va_up ad N z4) (mg g (va_up ad N z4) (va_up y N (c_row g ((cr a1.toNatClampNeg).1, (cr a1.toNatClampNeg).2.1, (cr a1.toNatClampNeg).2.2))) cr dr 0 kn rf pl pz mc) 27 (ad 27) (by omega) (up_lt (by omega)) mc (Int32.ofNat (pz - 1)) ((va_up ad N z4) 36) (mg_27p (by omega)) 36 10 (fun j => if j + 1 < pz then some ((va_up ad N z4) (37 + j)) else none) (by omega) rfl (mg_ed (by omega)) (by decide) N z4 ((cr a1.toNatClampNeg).1, (cr a1.toNatClampNeg).2.1, (cr a1.toNatClampNeg).2.2) (Nat.lt_succ_self _) up_eq ((mg_hi (by omega)).trans up_eq) (by omega) (by omega) (sz_full (by omega)) (sz_in (by omega)) H.size) mw_Jx4a65c_add_9ea2d md_Jx4a65c_add_9ea2d rfl lk_X4_131 ⟨Nat.le_of_ble_eq_true rfl, Nat.le_of_ble_eq_true rfl⟩ hA hK hT B (by omega) (mg_27p (by omega)) rfl rfl hl.1 rfl (Nat.le_of_ble_eq_true rfl) dX4_lay_71 ⟨Nat.le_of_ble_eq_true rfl, Nat.le_of_ble_eq_true rfl⟩) (Nat.le_of_ble_eq_true rfl) (Nat.le_of_ble_eq_true rfl) (fun r ad' f' H locs hw B => ?_)
        obtain ⟨rfl, rfl⟩ := hw
        have B : WB g (aw N ad sz) s.heap (36 + (pz + 1)) (va_up ad N z4) (mg g (va_up ad N z4) y cr dr 0 kn rf (va_up pl (pz - 1) ((cr a1.toNatClampNeg).1, (cr a1.toNatClampNeg).2.1, (cr a1.toNatClampNeg).2.2)) (pz + 1) (mc + 1)) H locs := WM_lay (t := ((cr a1.toNatClampNeg).1, (cr a1.toNatClampNeg).2.1, (cr a1.toNatClampNeg).2.2)) (a := z4) (adA := (va_up ad N z4)) (yA := (va_up y N (c_row g ((cr a1.toNatClampNeg).1, (cr a1.toNatClampNeg).2.1, (cr a1.toNatClampNeg).2.2)))) (show 0 < pz by omega) hp8 hNe B (va_up_self _ _ _) (va_up_ne _ _ (show (36 : Nat) ≠ N by omega)).symm (fun k hk => va_up_ne _ _ (by omega)) (fun k hk => va_up_ne _ _ (by omega)) (fun k hk => va_up_ne _ _ (by omega)) (va_up_self _ _ _) ((va_up_ne _ _ (by decide)).trans (va_up_self _ _ _)) (by rw [sz_clamp (by omega), va_up_self]) (fun j hj => by rw [sz_clamp (by omega), va_up_ne _ _ hj]; exact ite_pl (fun hj2 => va_up_ne _ _ (by omega))) (by rw [va_up_ne _ _ (by omega), va_up_ne _ _ (by omega), va_up_ne _ _ (by omega), mg_hi (by omega), va_up_self]) (fun k hk h7 h6 => by rw [va_up_ne _ _ (by omega), va_up_ne _ _ (by omega), va_up_ne _ _ (by omega)])
        have hkm : ∀ k, k < N → k < 28 ∨ 36 ≤ k → (va_up ad N z4) k = ad k := fun k hk _ => va_up_ne _ _ (by omega)
        have hbm : (va_up ad N z4) 24 = b0 := (va_up_ne _ _ (by omega)).trans hb0
        refine lv_pop hx hb dX4_lay_74 rfl ?_
        refine lv_aload_n hx hb dX4_lay_75 rfl (lv_at hl 0 rfl) ?_
        refine b_get (q := 24) (k := 2) hbm X hK B rfl in_X4 (by omega) mg_24 (by decide) lk_X4_17 rfl rfl dX4_lay_76 ?_
        refine k_i (k := 1) (n := 3) hA B (b_V (q := 27) (rest := []) rfl X (c_L_size l g (36 + (pz + 1)) (va_up ad N z4) (mg g (va_up ad N z4) y cr dr 0 kn rf (va_up pl (pz - 1) ((cr a1.toNatClampNeg).1, (cr a1.toNatClampNeg).2.1, (cr a1.toNatClampNeg).2.2)) (pz + 1) (mc + 1)) 27 ((va_up ad N z4) 27) (by omega) rfl (mc + 1) (Int32.ofNat ((pz + 1) - 1)) _ mg_27 H.size) mw_Jx4a65c_size_8abf5 md_Jx4a65c_size_8abf5 rfl lk_X4_128 ⟨Nat.le_of_ble_eq_true rfl, Nat.le_of_ble_eq_true rfl⟩ hA hK hT B (by omega) mg_27 rfl rfl hl.1 rfl (Nat.le_of_ble_eq_true rfl) dX4_lay_79 ⟨Nat.le_of_ble_eq_true rfl, Nat.le_of_ble_eq_true rfl⟩) (Nat.le_of_ble_eq_true rfl) (Nat.le_of_ble_eq_true rfl) (fun r ad' f' H locs hw B => ?_)
        obtain ⟨rfl, rfl, rfl⟩ := hw
        have ev := (show v_X4_lay cr rf pl pz mc a1 = (Int32.ofNat ((pz + 1) - 1), 0, rf, va_up pl (pz - 1) ((cr a1.toNatClampNeg).1, (cr a1.toNatClampNeg).2.1, (cr a1.toNatClampNeg).2.2), (pz + 1), mc + 1) from by unfold v_X4_lay; rw [if_pos s2, if_neg c3, if_neg hp])
        exact rt_i X hr ((va_up ad N z4), mg g (va_up ad N z4) y cr dr 0 kn rf (va_up pl (pz - 1) ((cr a1.toNatClampNeg).1, (cr a1.toNatClampNeg).2.1, (cr a1.toNatClampNeg).2.2)) (pz + 1) (mc + 1)) B (by rw [ev]; exact PO_of B) ⟨hkm, by rw [ev], by rw [ev]⟩ rfl (Nat.le_of_ble_eq_true rfl) (Nat.le_of_ble_eq_true rfl) dX4_lay_82
    · refine lv_aload_n hx hb dX4_lay_26 rfl (lv_at hl 0 rfl) ?_
      refine k_i (k := 0) (n := 0) hA B (b_V (q := 24) (rest := []) hb0 X (c_X4_refuse l g N ad y cr dr 0 kn rf pl pz mc (by omega) b0 hb0 H.size) mw_X4_refuse md_X4_refuse rfl lk_X4_83 ⟨Nat.le_of_ble_eq_true rfl, Nat.le_of_ble_eq_true rfl⟩ hA hK hT B (by omega) mg_24 rfl rfl hl.1 rfl (Nat.le_of_ble_eq_true rfl) dX4_lay_27 ⟨Nat.le_of_ble_eq_true rfl, Nat.le_of_ble_eq_true rfl⟩) (Nat.le_of_ble_eq_true rfl) (Nat.le_of_ble_eq_true rfl) (fun r9 ad9 f' H locs hw B => ?_)
      obtain ⟨rfl, rfl, rfl⟩ := hw
      have B : WB g (aw N ad sz) s.heap (36 + pz) ad (mg g ad y cr dr 0 kn (v_X4_refuse rf).2 pl pz mc) H locs := WM_drop B (by omega) (by omega) (fun _ _ => rfl) (fun _ _ => rfl)
      have ev := (show v_X4_lay cr rf pl pz mc a1 = ((v_X4_refuse rf).1, 0, (v_X4_refuse rf).2, pl, pz, mc) from by unfold v_X4_lay; rw [if_pos s2, if_pos c3])
      exact rt_i X hr (ad, mg g ad y cr dr 0 kn (v_X4_refuse rf).2 pl pz mc) B (by rw [ev]; exact PO_of B) ⟨(fun _ _ _ => rfl), by rw [ev], by rw [ev]⟩ rfl (Nat.le_of_ble_eq_true rfl) (Nat.le_of_ble_eq_true rfl) dX4_lay_30
  · have s2x : (v_X4_isNone a1) = 1 := (b01_X4_isNone).resolve_left s2
    rw [s2x]
    refine k_i (k := 0) (n := 0) hA B (b_V (q := 24) (rest := []) hb0 X (c_X4_stops l g N ad y cr dr th kn rf pl pz mc (by omega) b0 hb0 1 0 H.size) mw_X4_stops md_X4_stops rfl lk_X4_99 ⟨Nat.le_of_ble_eq_true rfl, Nat.le_of_ble_eq_true rfl⟩ hA hK hT B (by omega) mg_24 rfl rfl hl.1 rfl (Nat.le_of_ble_eq_true rfl) dX4_lay_6 ⟨Nat.le_of_ble_eq_true rfl, Nat.le_of_ble_eq_true rfl⟩) (Nat.le_of_ble_eq_true rfl) (Nat.le_of_ble_eq_true rfl) (fun r ad' f' H locs hw B => ?_)
    rw [st_10] at hw
    dsimp only at hw
    obtain ⟨rfl, rfl, rfl⟩ := hw
    have B : WB g (aw N ad sz) s.heap N ad (mg g ad y cr dr 1 kn rf pl pz mc) H locs := B
    refine lv_if_eq (tgt := 14) hx hb dX4_lay_9 (by decide) (fun z => absurd z (by decide)) (fun _ => ?_)
    refine lv_iconst (v := 0) hx hb dX4_lay_12 (by decide) ?_
    have B : WB g (aw N ad sz) s.heap (36 + pz) ad (mg g ad y cr dr 1 kn rf pl pz mc) H locs := WM_drop B (by omega) (by omega) (fun _ _ => rfl) (fun _ _ => rfl)
    have ev := (show v_X4_lay cr rf pl pz mc a1 = (0, 1, rf, pl, pz, mc) from by unfold v_X4_lay; rw [if_neg s2])
    exact rt_i X hr (ad, mg g ad y cr dr 1 kn rf pl pz mc) B (by rw [ev]; exact PO_of B) ⟨(fun _ _ _ => rfl), by rw [ev], by rw [ev]⟩ rfl (Nat.le_of_ble_eq_true rfl) (Nat.le_of_ble_eq_true rfl) dX4_lay_13
def v_X4_take (cr : Nat → TR) (rf : Int32) (pl : Nat → TR) (pz : Nat) (mc : Int32) (a1 : Int32) : Int32 × (Nat → TR) × Int32 × Int32 × Nat × Int32 := if v_X4_isNone a1 = 0 then (if (if Int32.ofNat (pz - 1) = 0 then (1 : Int32) else 0) = 0 then (Int32.ofNat ((pz - 1) - 1), (v_X4_get cr a1 (pl (pz - 1 - 1))).2, 0, rf, (pz - 1), mc + 1) else ((v_X4_refuse rf).1, cr, 0, (v_X4_refuse rf).2, pz, mc)) else (0, cr, 1, rf, pz, mc)
set_option maxHeartbeats 4000000 in
set_option maxRecDepth 100000 in
theorem c_X4_take (l : Launch) (g : GG) (N : Nat) (ad : Nat → Nat) (y : Nat → va_E) (cr dr : Nat → TR) (th kn rf : Int32) (pl : Nat → TR) (pz : Nat) (mc : Int32) (hN : 36 + pz ≤ N) (b0 : Nat) (hb0 : ad 24 = b0) (a1 : Int32) (hz : pz ≤ 9) (hNe : N = 36 + pz) : KI l yX4_take cX4_take 2 (some .int) (rm 3 1 3) g [.ref b0, .int a1] N ad (mg g ad y cr dr th kn rf pl pz mc) (36 + (v_X4_take cr rf pl pz mc a1).2.2.2.2.1) (fun r ad' f' => (∀ k, k < N → k < 28 ∨ 36 ≤ k → ad' k = ad k) ∧ (v_X4_take cr rf pl pz mc a1).1 = r ∧ mg g ad' y (v_X4_take cr rf pl pz mc a1).2.1 dr (v_X4_take cr rf pl pz mc a1).2.2.1 kn (v_X4_take cr rf pl pz mc a1).2.2.2.1 pl (v_X4_take cr rf pl pz mc a1).2.2.2.2.1 (v_X4_take cr rf pl pz mc a1).2.2.2.2.2 = f') := by
  intro sz
  refine mt_start (by decide) (Nat.le_of_ble_eq_true rfl) ?_
  intro p e s m args below meth c hsz X hr hnam hA hK hT H locs B ls hl
  obtain ⟨hx, hb, hml, hown, hts, hlocks⟩ := id X
  have hl : lv_has ls 2 [(0, .ref b0), (1, .int a1)] := hl
  refine lv_aload_n hx hb dX4_take_0 rfl (lv_at hl 0 rfl) ?_
  refine lv_iload_n hx hb dX4_take_1 rfl (lv_at hl 1 rfl) ?_
  refine k_i (k := 0) (n := 0) hA B (u_S (rest := [.ref b0]) X (c_X4_isNone l g N ad (mg g ad y cr dr th kn rf pl pz mc) a1 H.size) mw_X4_isNone md_X4_isNone rfl lk_X4_95 ⟨Nat.le_of_ble_eq_true rfl, Nat.le_of_ble_eq_true rfl⟩ hA hK hT B hl.1 rfl (Nat.le_of_ble_eq_true rfl) dX4_take_2 ⟨Nat.le_of_ble_eq_true rfl, Nat.le_of_ble_eq_true rfl⟩) (Nat.le_of_ble_eq_true rfl) (Nat.le_of_ble_eq_true rfl) (fun r1 ad1 f' H locs hw B => ?_)
  obtain ⟨rfl, rfl, rfl⟩ := hw
  refine lv_iconst (v := 0) hx hb dX4_take_5 (by decide) ?_
  by_cases s2 : v_X4_isNone a1 = 0
  · rw [s2]
    refine k_i (k := 0) (n := 0) hA B (b_V (q := 24) (rest := []) hb0 X (c_X4_stops l g N ad y cr dr th kn rf pl pz mc (by omega) b0 hb0 0 0 H.size) mw_X4_stops md_X4_stops rfl lk_X4_99 ⟨Nat.le_of_ble_eq_true rfl, Nat.le_of_ble_eq_true rfl⟩ hA hK hT B (by omega) mg_24 rfl rfl hl.1 rfl (Nat.le_of_ble_eq_true rfl) dX4_take_6 ⟨Nat.le_of_ble_eq_true rfl, Nat.le_of_ble_eq_true rfl⟩) (Nat.le_of_ble_eq_true rfl) (Nat.le_of_ble_eq_true rfl) (fun r ad' f' H locs hw B => ?_)
    rw [st_00] at hw
    dsimp only at hw
    obtain ⟨rfl, rfl, rfl⟩ := hw
    have B : WB g (aw N ad sz) s.heap N ad (mg g ad y cr dr 0 kn rf pl pz mc) H locs := B
    refine lv_if_eq (tgt := 14) hx hb dX4_take_9 (by decide) (fun _ => ?_) (fun z => absurd z (by decide))
    refine lv_aload_n hx hb dX4_take_14 rfl (lv_at hl 0 rfl) ?_
    refine b_get (q := 24) (k := 2) hb0 X hK B rfl in_X4 (by omega) mg_24 (by decide) lk_X4_17 rfl rfl dX4_take_15 ?_
    refine k_i (k := 0) (n := 0) hA B (b_V (q := 27) (rest := []) rfl X (c_L_isEmpty l g N ad (mg g ad y cr dr 0 kn rf pl pz mc) 27 (ad 27) (by omega) rfl mc (Int32.ofNat (pz - 1)) _ mg_27 H.size) mw_Jx4a65c_isEmpty_aae02 md_Jx4a65c_isEmpty_aae02 rfl lk_X4_135 ⟨Nat.le_of_ble_eq_true rfl, Nat.le_of_ble_eq_true rfl⟩ hA hK hT B (by omega) mg_27 rfl rfl hl.1 rfl (Nat.le_of_ble_eq_true rfl) dX4_take_18 ⟨Nat.le_of_ble_eq_true rfl, Nat.le_of_ble_eq_true rfl⟩) (Nat.le_of_ble_eq_true rfl) (Nat.le_of_ble_eq_true rfl) (fun r ad' f' H locs hw B => ?_)
    obtain ⟨rfl, rfl, rfl⟩ := hw
    refine lv_if_eq (tgt := 29) hx hb dX4_take_21 (by decide) (fun c3 => ?_) (fun c3 => ?_)
    · refine lv_aload_n hx hb dX4_take_29 rfl (lv_at hl 0 rfl) ?_
      refine lv_iload_n hx hb dX4_take_30 rfl (lv_at hl 1 rfl) ?_
      refine lv_aload_n hx hb dX4_take_31 rfl (lv_at hl 0 rfl) ?_
      refine b_get (q := 24) (k := 2) hb0 X hK B rfl in_X4 (by omega) mg_24 (by decide) lk_X4_17 rfl rfl dX4_take_32 ?_
      refine lv_aload_n hx hb dX4_take_35 rfl (lv_at hl 0 rfl) ?_
      refine b_get (q := 24) (k := 2) hb0 X hK B rfl in_X4 (by omega) mg_24 (by decide) lk_X4_17 rfl rfl dX4_take_36 ?_
      refine k_i (k := 0) (n := 0) hA B (b_V (q := 27) (rest := [.ref (ad 27), .int a1, .ref b0]) rfl X (c_L_size l g N ad (mg g ad y cr dr 0 kn rf pl pz mc) 27 (ad 27) (by omega) rfl mc (Int32.ofNat (pz - 1)) _ mg_27 H.size) mw_Jx4a65c_size_8abf5 md_Jx4a65c_size_8abf5 rfl lk_X4_128 ⟨Nat.le_of_ble_eq_true rfl, Nat.le_of_ble_eq_true rfl⟩ hA hK hT B (by omega) mg_27 rfl rfl hl.1 rfl (Nat.le_of_ble_eq_true rfl) dX4_take_39 ⟨Nat.le_of_ble_eq_true rfl, Nat.le_of_ble_eq_true rfl⟩) (Nat.le_of_ble_eq_true rfl) (Nat.le_of_ble_eq_true rfl) (fun r ad' f' H locs hw B => ?_)
      obtain ⟨rfl, rfl, rfl⟩ := hw
      refine lv_iconst (v := 1) hx hb dX4_take_42 (by decide) ?_
      refine lv_isub hx hb dX4_take_43 ?_
      have h2z : 2 ≤ pz := sz_zero c3
      have hpd : Int32.ofNat (pz - 1) - 1 = Int32.ofNat (pz - 1 - 1) := sz_pred (by omega)
      rw [hpd]
      refine k_r (k := 0) (n := 0) hA B (b_V (q := 27) (rest := [.int a1, .ref b0]) rfl X (c_L_remove l g N ad (mg g ad y cr dr 0 kn rf pl pz mc) 27 (ad 27) (by omega) rfl mc (Int32.ofNat (pz - 1)) (ad 36) (mg_27p (by omega)) 36 10 (fun j => if j + 1 < pz then some (ad (37 + j)) else none) (by omega) rfl (mg_ed (by omega)) (by decide) (Int32.ofNat (pz - 1 - 1)) (ad (N - 1)) (sz_in (by omega)) (by rw [sz_clamp (by omega)]; exact (if_pos (by omega)).trans (congrArg (fun j => some (ad j)) (show 37 + (pz - 1 - 1) = N - 1 by omega))) (sz_nn (by omega)) (nI_lt (a := pz - 1 - 1) (b := pz - 1) (by omega) (by omega)) (by rw [hpd]; exact Int32.le_refl _) (by rw [hpd]; exact sz_in (by omega)) H.size) mw_Jx4a65c_remove_915e3 md_Jx4a65c_remove_915e3 rfl lk_X4_139 ⟨Nat.le_of_ble_eq_true rfl, Nat.le_of_ble_eq_true rfl⟩ hA hK hT B (by omega) (mg_27p (by omega)) rfl rfl hl.1 rfl (Nat.le_of_ble_eq_true rfl) dX4_take_44 ⟨Nat.le_of_ble_eq_true rfl, Nat.le_of_ble_eq_true rfl⟩) (Nat.le_of_ble_eq_true rfl) (Nat.le_of_ble_eq_true rfl) (fun r ad' f' H locs hw B => ?_)
      obtain ⟨rfl, rfl, rfl⟩ := hw
      have B : WB g (aw N ad sz) s.heap N ad (mg g ad (va_up y (N - 1) (c_row g (pl (pz - 1 - 1)))) cr dr 0 kn rf pl (pz - 1) (mc + 1)) H locs := WM_take (pz := pz) (mc1 := mc + 1) h2z hz hNe B ((va_up_ne _ _ (by decide)).trans (va_up_self _ _ _)) (va_up_self _ _ _) (by rw [hpd, sz_clamp (by omega), va_up_self]) (fun j hj => by rw [hpd, sz_clamp (by omega), va_up_ne _ _ hj]) (fun k _ h7 h6 => (va_up_ne _ _ h6).trans (va_up_ne _ _ h7))
      refine b_castR (q := (N - 1)) rfl X hK B (by omega) ((mg_hi (by omega)).trans (va_up_self _ _ _)) lk_X4_21 dX4_take_47 ?_
      refine k_i (k := 1) (n := 3) hA B (b_V (q := 24) (rest := []) hb0 X (c_X4_get l g N ad (va_up y (N - 1) (c_row g (pl (pz - 1 - 1)))) cr dr 0 kn rf pl (pz - 1) (mc + 1) (by omega) b0 hb0 a1 (N - 1) (ad (N - 1)) (pl (pz - 1 - 1)) (by omega) rfl ((mg_hi (by omega)).trans (va_up_self _ _ _)) s2 H.size) mw_X4_get md_X4_get rfl lk_X4_103 ⟨Nat.le_of_ble_eq_true rfl, Nat.le_of_ble_eq_true rfl⟩ hA hK hT B (by omega) mg_24 rfl rfl hl.1 rfl (Nat.le_of_ble_eq_true rfl) dX4_take_50 ⟨Nat.le_of_ble_eq_true rfl, Nat.le_of_ble_eq_true rfl⟩) (Nat.le_of_ble_eq_true rfl) (Nat.le_of_ble_eq_true rfl) (fun r4 ad4 f' H locs hw B => ?_)
      dsimp only at hw
      obtain ⟨mv5, rfl, rfl⟩ := hw
      have kk6 : ∀ k, k < N → k < 28 ∨ 36 ≤ k → ad4 k = ad k := fun k hk hkq => (mv5 k (by omega) hkq).trans (rfl.trans rfl)
      have nb7 : ad4 24 = b0 := (mv5 24 (by omega) (Or.inl (by decide))).trans hb0
      refine lv_pop hx hb dX4_take_53 rfl ?_
      refine lv_aload_n hx hb dX4_take_54 rfl (lv_at hl 0 rfl) ?_
      refine b_get (q := 24) (k := 2) nb7 X hK B rfl in_X4 (by omega) mg_24 (by decide) lk_X4_17 rfl rfl dX4_take_55 ?_
      refine k_i (k := 1) (n := 3) hA B (b_V (q := 27) (rest := []) rfl X (c_L_size l g N ad4 (mg g ad4 (va_up y (N - 1) (c_row g (pl (pz - 1 - 1)))) (v_X4_get cr a1 (pl (pz - 1 - 1))).2 dr 0 kn rf pl (pz - 1) (mc + 1)) 27 (ad4 27) (by omega) rfl (mc + 1) (Int32.ofNat ((pz - 1) - 1)) _ mg_27 H.size) mw_Jx4a65c_size_8abf5 md_Jx4a65c_size_8abf5 rfl lk_X4_128 ⟨Nat.le_of_ble_eq_true rfl, Nat.le_of_ble_eq_true rfl⟩ hA hK hT B (by omega) mg_27 rfl rfl hl.1 rfl (Nat.le_of_ble_eq_true rfl) dX4_take_58 ⟨Nat.le_of_ble_eq_true rfl, Nat.le_of_ble_eq_true rfl⟩) (Nat.le_of_ble_eq_true rfl) (Nat.le_of_ble_eq_true rfl) (fun r ad' f' H locs hw B => ?_)
      obtain ⟨rfl, rfl, rfl⟩ := hw
      have B : WB g (aw N ad sz) s.heap (36 + (pz - 1)) ad4 (mg g ad4 y (v_X4_get cr a1 (pl (pz - 1 - 1))).2 dr 0 kn rf pl (pz - 1) (mc + 1)) H locs := WM_drop B (by omega) (by omega) (fun _ _ => rfl) (fun k hk => va_up_ne _ _ (show k ≠ N - 1 by omega))
      have ev := (show v_X4_take cr rf pl pz mc a1 = (Int32.ofNat ((pz - 1) - 1), (v_X4_get cr a1 (pl (pz - 1 - 1))).2, 0, rf, (pz - 1), mc + 1) from by unfold v_X4_take; rw [if_pos s2, if_pos c3])
      exact rt_i X hr (ad4, mg g ad4 y (v_X4_get cr a1 (pl (pz - 1 - 1))).2 dr 0 kn rf pl (pz - 1) (mc + 1)) B (by rw [ev]; exact PO_of B) ⟨kk6, by rw [ev], by rw [ev]⟩ rfl (Nat.le_of_ble_eq_true rfl) (Nat.le_of_ble_eq_true rfl) dX4_take_61
    · refine lv_aload_n hx hb dX4_take_24 rfl (lv_at hl 0 rfl) ?_
      refine k_i (k := 0) (n := 0) hA B (b_V (q := 24) (rest := []) hb0 X (c_X4_refuse l g N ad y cr dr 0 kn rf pl pz mc (by omega) b0 hb0 H.size) mw_X4_refuse md_X4_refuse rfl lk_X4_83 ⟨Nat.le_of_ble_eq_true rfl, Nat.le_of_ble_eq_true rfl⟩ hA hK hT B (by omega) mg_24 rfl rfl hl.1 rfl (Nat.le_of_ble_eq_true rfl) dX4_take_25 ⟨Nat.le_of_ble_eq_true rfl, Nat.le_of_ble_eq_true rfl⟩) (Nat.le_of_ble_eq_true rfl) (Nat.le_of_ble_eq_true rfl) (fun r8 ad8 f' H locs hw B => ?_)
      obtain ⟨rfl, rfl, rfl⟩ := hw
      have B : WB g (aw N ad sz) s.heap (36 + pz) ad (mg g ad y cr dr 0 kn (v_X4_refuse rf).2 pl pz mc) H locs := WM_drop B (by omega) (by omega) (fun _ _ => rfl) (fun _ _ => rfl)
      have ev := (show v_X4_take cr rf pl pz mc a1 = ((v_X4_refuse rf).1, cr, 0, (v_X4_refuse rf).2, pz, mc) from by unfold v_X4_take; rw [if_pos s2, if_neg c3])
      exact rt_i X hr (ad, mg g ad y cr dr 0 kn (v_X4_refuse rf).2 pl pz mc) B (by rw [ev]; exact PO_of B) ⟨(fun _ _ _ => rfl), by rw [ev], by rw [ev]⟩ rfl (Nat.le_of_ble_eq_true rfl) (Nat.le_of_ble_eq_true rfl) dX4_take_28
  · have s2x : (v_X4_isNone a1) = 1 := (b01_X4_isNone).resolve_left s2
    rw [s2x]
    refine k_i (k := 0) (n := 0) hA B (b_V (q := 24) (rest := []) hb0 X (c_X4_stops l g N ad y cr dr th kn rf pl pz mc (by omega) b0 hb0 1 0 H.size) mw_X4_stops md_X4_stops rfl lk_X4_99 ⟨Nat.le_of_ble_eq_true rfl, Nat.le_of_ble_eq_true rfl⟩ hA hK hT B (by omega) mg_24 rfl rfl hl.1 rfl (Nat.le_of_ble_eq_true rfl) dX4_take_6 ⟨Nat.le_of_ble_eq_true rfl, Nat.le_of_ble_eq_true rfl⟩) (Nat.le_of_ble_eq_true rfl) (Nat.le_of_ble_eq_true rfl) (fun r ad' f' H locs hw B => ?_)
    rw [st_10] at hw
    dsimp only at hw
    obtain ⟨rfl, rfl, rfl⟩ := hw
    have B : WB g (aw N ad sz) s.heap N ad (mg g ad y cr dr 1 kn rf pl pz mc) H locs := B
    refine lv_if_eq (tgt := 14) hx hb dX4_take_9 (by decide) (fun z => absurd z (by decide)) (fun _ => ?_)
    refine lv_iconst (v := 0) hx hb dX4_take_12 (by decide) ?_
    have B : WB g (aw N ad sz) s.heap (36 + pz) ad (mg g ad y cr dr 1 kn rf pl pz mc) H locs := WM_drop B (by omega) (by omega) (fun _ _ => rfl) (fun _ _ => rfl)
    have ev := (show v_X4_take cr rf pl pz mc a1 = (0, cr, 1, rf, pz, mc) from by unfold v_X4_take; rw [if_neg s2])
    exact rt_i X hr (ad, mg g ad y cr dr 1 kn rf pl pz mc) B (by rw [ev]; exact PO_of B) ⟨(fun _ _ _ => rfl), by rw [ev], by rw [ev]⟩ rfl (Nat.le_of_ble_eq_true rfl) (Nat.le_of_ble_eq_true rfl) dX4_take_13
def wX4_sum__20 (cr : Nat → TR) (rf : Int32) (pl : Nat → TR) (pz : Nat) (a1 : Int32) : Nat → Int32 → TR → Int32 × (Nat → TR) × Int32 × Int32
  | 0, kk, tm => (0, (fun _ => (0, 0, 0)), 0, 0)
  | n + 1, kk, tm => if (Int32.ofNat (pz - 1)) ≤ kk then ((v_X4_get cr a1 tm).1, (v_X4_get cr a1 tm).2, 0, rf) else (om (v_X4_sum tm 1 (pl kk.toNatClampNeg)) (if (Int32.ofNat (pz - 1)) ≤ (kk + 1) then ((v_X4_getN rf).1, cr, 0, (v_X4_getN rf).2) else ((v_X4_getN rf).1, cr, 0, (v_X4_getN rf).2)) (fun t13 => wX4_sum__20 cr rf pl pz a1 n (kk + 1) t13))
def v_X4_sum_ (cr : Nat → TR) (rf : Int32) (pl : Nat → TR) (pz : Nat) (a1 : Int32) : Int32 × (Nat → TR) × Int32 × Int32 := if v_X4_isNone a1 = 0 then (wX4_sum__20 cr rf pl pz a1 (((Int32.ofNat (pz - 1)).toInt - (0 : Int32).toInt).toNat + 1) 0 (v_X4_nothing)) else (0, cr, 1, rf)
set_option maxHeartbeats 4000000 in
set_option maxRecDepth 100000 in
theorem c_X4_sum_ (l : Launch) (g : GG) (N : Nat) (ad : Nat → Nat) (y : Nat → va_E) (cr dr : Nat → TR) (th kn rf : Int32) (pl : Nat → TR) (pz : Nat) (mc : Int32) (hN : 36 + pz ≤ N) (b0 : Nat) (hb0 : ad 24 = b0) (a1 : Int32) (hz : pz ≤ 9) : KI l yX4_sum_ cX4_sum_ 4 (some .int) (rm 3 11 33) g [.ref b0, .int a1] N ad (mg g ad y cr dr th kn rf pl pz mc) N (fun r ad' f' => (∀ k, k < N → k < 28 ∨ 36 ≤ k → ad' k = ad k) ∧ (v_X4_sum_ cr rf pl pz a1).1 = r ∧ mg g ad' y (v_X4_sum_ cr rf pl pz a1).2.1 dr (v_X4_sum_ cr rf pl pz a1).2.2.1 kn (v_X4_sum_ cr rf pl pz a1).2.2.2 pl pz mc = f') := by
  intro sz
  refine mt_start (by decide) (Nat.le_of_ble_eq_true rfl) ?_
  intro p e s m args below meth c hsz X hr hnam hA hK hT H locs B ls hl
  obtain ⟨hx, hb, hml, hown, hts, hlocks⟩ := id X
  have hl : lv_has ls 4 [(0, .ref b0), (1, .int a1)] := hl
  refine lv_aload_n hx hb dX4_sum__0 rfl (lv_at hl 0 rfl) ?_
  refine lv_iload_n hx hb dX4_sum__1 rfl (lv_at hl 1 rfl) ?_
  refine k_i (k := 0) (n := 0) hA B (u_S (rest := [.ref b0]) X (c_X4_isNone l g N ad (mg g ad y cr dr th kn rf pl pz mc) a1 H.size) mw_X4_isNone md_X4_isNone rfl lk_X4_95 ⟨Nat.le_of_ble_eq_true rfl, Nat.le_of_ble_eq_true rfl⟩ hA hK hT B hl.1 rfl (Nat.le_of_ble_eq_true rfl) dX4_sum__2 ⟨Nat.le_of_ble_eq_true rfl, Nat.le_of_ble_eq_true rfl⟩) (Nat.le_of_ble_eq_true rfl) (Nat.le_of_ble_eq_true rfl) (fun r1 ad1 f' H locs hw B => ?_)
  obtain ⟨rfl, rfl, rfl⟩ := hw
  refine lv_iconst (v := 0) hx hb dX4_sum__5 (by decide) ?_
  by_cases s2 : v_X4_isNone a1 = 0
  · rw [s2]
    refine k_i (k := 0) (n := 0) hA B (b_V (q := 24) (rest := []) hb0 X (c_X4_stops l g N ad y cr dr th kn rf pl pz mc (by omega) b0 hb0 0 0 H.size) mw_X4_stops md_X4_stops rfl lk_X4_99 ⟨Nat.le_of_ble_eq_true rfl, Nat.le_of_ble_eq_true rfl⟩ hA hK hT B (by omega) mg_24 rfl rfl hl.1 rfl (Nat.le_of_ble_eq_true rfl) dX4_sum__6 ⟨Nat.le_of_ble_eq_true rfl, Nat.le_of_ble_eq_true rfl⟩) (Nat.le_of_ble_eq_true rfl) (Nat.le_of_ble_eq_true rfl) (fun r ad' f' H locs hw B => ?_)
    rw [st_00] at hw
    dsimp only at hw
    obtain ⟨rfl, rfl, rfl⟩ := hw
    have B : WB g (aw N ad sz) s.heap N ad (mg g ad y cr dr 0 kn rf pl pz mc) H locs := B
    refine lv_if_eq (tgt := 14) hx hb dX4_sum__9 (by decide) (fun _ => ?_) (fun z => absurd z (by decide))
    refine k_r (k := 1) (n := 3) hA B (u_S (rest := []) X (c_X4_nothing l g N ad (mg g ad y cr dr 0 kn rf pl pz mc) H.size) mw_X4_nothing md_X4_nothing rfl lk_X4_51 ⟨Nat.le_of_ble_eq_true rfl, Nat.le_of_ble_eq_true rfl⟩ hA hK hT B hl.1 rfl (Nat.le_of_ble_eq_true rfl) dX4_sum__14 ⟨Nat.le_of_ble_eq_true rfl, Nat.le_of_ble_eq_true rfl⟩) (Nat.le_of_ble_eq_true rfl) (Nat.le_of_ble_eq_true rfl) (fun r3 ad3 f' H locs hw B => ?_)
    obtain ⟨z4, rfl, rfl, rfl⟩ := hw
    have B : WB g (aw N ad sz) s.heap (N + 1) (va_up ad N z4) (mg g (va_up ad N z4) (va_up y N (c_row g (v_X4_nothing))) cr dr 0 kn rf pl pz mc) H locs := WM_push (by omega) B
    refine lv_astore_n (lv' := [(2, .ref z4), (0, .ref b0), (1, .int a1)]) hx hb dX4_sum__17 rfl hl (by decide) rfl (fun ls hl => ?_)
    refine lv_iconst (v := 0) hx hb dX4_sum__18 (by decide) ?_
    refine lv_istore_n (lv' := [(3, .int 0), (2, .ref z4), (0, .ref b0), (1, .int a1)]) hx hb dX4_sum__19 rfl hl (by decide) rfl (fun ls hl => ?_)
    have loop5 : ∀ (n5 : Nat) (kk : Int32) (tm : TR) (atm : Nat) (C5 : Nat) (S5 : Nat) (H : Heap) (locs : List Loc), C5 + n5 * 1 ≤ 10 → S5 + n5 * 3 ≤ 30 → ((Int32.ofNat (pz - 1)).toInt - kk.toInt).toNat < n5 → v_X4_sum_ cr rf pl pz a1 = wX4_sum__20 cr rf pl pz a1 n5 kk tm → ¬ kk < 0 → WB g (aw N ad sz) s.heap (N + 1) (va_up ad N atm) (mg g (va_up ad N atm) (va_up y N (c_row g tm)) cr dr 0 kn rf pl pz mc) H locs → ∀ ls : Array Slot, lv_has ls 4 [(3, .int kk), (2, .ref atm), (0, .ref b0), (1, .int a1)] → W p l e (rm 3 11 33) s m args below meth c H locs C5 S5 (MQ below (va_Qi (fun r (u : WS) => (fun r ad' f' => (∀ k, k < N → k < 28 ∨ 36 ≤ k → ad' k = ad k) ∧ (v_X4_sum_ cr rf pl pz a1).1 = r ∧ mg g ad' y (v_X4_sum_ cr rf pl pz a1).2.1 dr (v_X4_sum_ cr rf pl pz a1).2.2.1 kn (v_X4_sum_ cr rf pl pz a1).2.2.2 pl pz mc = f') r u.1 u.2) (fun u t => PO g N u.1 u.2 (aw N ad sz) t) (aw N ad sz)) args s (rm 3 11 33).cells (rm 3 11 33).slots (aw N ad sz)) (F0 m 20 ls []) := by
      intro n5
      induction n5 with
      | zero => intro kk tm atm C5 S5 H locs _ _ hn; exact absurd hn (Nat.not_lt_zero _)
      | succ n5 ih5 =>
        intro kk tm atm C5 S5 H locs hC5 hS5 hn5 he5 hk0 B ls hl
        refine lv_iload_n hx hb dX4_sum__20 rfl (lv_at hl 0 rfl) ?_
        refine lv_aload_n hx hb dX4_sum__21 rfl (lv_at hl 2 rfl) ?_
        refine b_get (q := 24) (k := 2) ((up_lt (by omega)).trans hb0) X hK B rfl in_X4 (by omega) mg_24 (by decide) lk_X4_17 rfl rfl dX4_sum__22 ?_
        refine k_i (k := (C5 + 0)) (n := (S5 + 0)) hA B (b_V (q := 27) (rest := [.int kk]) rfl X (c_L_size l g (N + 1) (va_up ad N atm) (mg g (va_up ad N atm) (va_up y N (c_row g tm)) cr dr 0 kn rf pl pz mc) 27 ((va_up ad N atm) 27) (by omega) rfl mc (Int32.ofNat (pz - 1)) _ mg_27 H.size) mw_Jx4a65c_size_8abf5 md_Jx4a65c_size_8abf5 rfl lk_X4_128 ⟨Nat.le_of_ble_eq_true rfl, Nat.le_of_ble_eq_true rfl⟩ hA hK hT B (by omega) mg_27 rfl rfl hl.1 rfl (Nat.le_of_ble_eq_true rfl) dX4_sum__25 (by dsimp only [rm]; omega)) (by dsimp only [rm]; omega) (by dsimp only [rm]; omega) (fun r ad' f' H locs hw B => ?_)
        obtain ⟨rfl, rfl, rfl⟩ := hw
        refine lv_icmp_ge (tgt := 58) hx hb dX4_sum__28 (by decide) (fun c6 => ?_) (fun c6 => ?_)
        · refine W.widen (show (C5 + 0) ≤ 10 by omega) (show (S5 + 0) ≤ 30 by omega) ?_
          refine lv_aload_n hx hb dX4_sum__58 rfl (lv_at hl 2 rfl) ?_
          refine lv_iload_n hx hb dX4_sum__59 rfl (lv_at hl 3 rfl) ?_
          refine lv_aload_n hx hb dX4_sum__60 rfl (lv_at hl 1 rfl) ?_
          refine k_i (k := 11) (n := 33) hA B (b_V (q := 24) (rest := []) ((up_lt (by omega)).trans hb0) X (c_X4_get l g (N + 1) (va_up ad N atm) (va_up y N (c_row g tm)) cr dr 0 kn rf pl pz mc (by omega) b0 ((up_lt (by omega)).trans hb0) a1 N atm tm (Nat.lt_succ_self _) up_eq ((mg_hi (by omega)).trans up_eq) s2 H.size) mw_X4_get md_X4_get rfl lk_X4_103 ⟨Nat.le_of_ble_eq_true rfl, Nat.le_of_ble_eq_true rfl⟩ hA hK hT B (by omega) mg_24 rfl rfl hl.1 rfl (Nat.le_of_ble_eq_true rfl) dX4_sum__61 ⟨Nat.le_of_ble_eq_true rfl, Nat.le_of_ble_eq_true rfl⟩) (Nat.le_of_ble_eq_true rfl) (Nat.le_of_ble_eq_true rfl) (fun r7 ad7 f' H locs hw B => ?_)
          dsimp only at hw
          obtain ⟨mv8, rfl, rfl⟩ := hw
          have B : WB g (aw N ad sz) s.heap N ad7 (mg g ad7 y (v_X4_get cr a1 tm).2 dr 0 kn rf pl pz mc) H locs := WM_drop B (by omega) (by omega) (fun _ _ => rfl) (fun _ hk => (up_lt hk))
          have kk9 : ∀ k, k < N → k < 28 ∨ 36 ≤ k → ad7 k = ad k := fun k hk hkq => (mv8 k (by omega) hkq).trans (((fun _ hk => (up_lt hk)) k hk).trans rfl)
          have nb10 : ad7 24 = b0 := (mv8 24 (by omega) (Or.inl (by decide))).trans ((up_lt (by omega)).trans hb0)
          have ev := (show v_X4_sum_ cr rf pl pz a1 = ((v_X4_get cr a1 tm).1, (v_X4_get cr a1 tm).2, 0, rf) from he5.trans (by rw [wX4_sum__20, if_pos c6]))
          exact rt_i X hr (ad7, mg g ad7 y (v_X4_get cr a1 tm).2 dr 0 kn rf pl pz mc) B (PO_of B) ⟨kk9, by rw [ev], by rw [ev]⟩ rfl (Nat.le_of_ble_eq_true rfl) (Nat.le_of_ble_eq_true rfl) dX4_sum__64
        · refine lv_aload_n hx hb dX4_sum__31 rfl (lv_at hl 1 rfl) ?_
          refine lv_ifnull hx hb dX4_sum__32 ?_
          refine lv_aload_n hx hb dX4_sum__35 rfl (lv_at hl 1 rfl) ?_
          refine lv_lconst (v := 1) hx hb dX4_sum__36 (by decide) ?_
          refine lv_aload_n hx hb dX4_sum__37 rfl (lv_at hl 2 rfl) ?_
          refine b_get (q := 24) (k := 2) ((up_lt (by omega)).trans hb0) X hK B rfl in_X4 (by omega) mg_24 (by decide) lk_X4_17 rfl rfl dX4_sum__38 ?_
          refine lv_iload_n hx hb dX4_sum__41 rfl (lv_at hl 0 rfl) ?_
          have g11 : kk.toNatClampNeg + 1 < pz := pl_ix hz hk0 c6
          refine k_r (k := (C5 + 0)) (n := (S5 + 0)) hA B (b_V (q := 27) (rest := [.long 1, .ref atm]) rfl X (c_L_get l g (N + 1) (va_up ad N atm) (mg g (va_up ad N atm) (va_up y N (c_row g tm)) cr dr 0 kn rf pl pz mc) 27 ((va_up ad N atm) 27) (by omega) rfl mc (Int32.ofNat (pz - 1)) ((va_up ad N atm) 36) (mg_27p (by omega)) 36 10 (fun j => if j + 1 < pz then some ((va_up ad N atm) (37 + j)) else none) (by omega) rfl (mg_ed (by omega)) (by decide) kk (ad (37 + kk.toNatClampNeg)) (pl_in hz hk0 g11) ((if_pos g11).trans (congrArg some (up_lt (by omega)))) hk0 (Int32.not_le.mp c6) H.size) mw_Jx4a65c_get_915e3 md_Jx4a65c_get_915e3 rfl lk_X4_143 ⟨Nat.le_of_ble_eq_true rfl, Nat.le_of_ble_eq_true rfl⟩ hA hK hT B (by omega) (mg_27p (by omega)) rfl rfl hl.1 rfl (Nat.le_of_ble_eq_true rfl) dX4_sum__42 (by dsimp only [rm]; omega)) (by dsimp only [rm]; omega) (by dsimp only [rm]; omega) (fun r ad' f' H locs hw B => ?_)
          obtain ⟨rfl, rfl, rfl⟩ := hw
          refine b_castR (q := (37 + kk.toNatClampNeg)) ((up_lt (pl_pl hN g11)).trans rfl) X hK B (Nat.lt_succ_of_lt (pl_pl hN g11)) (mg_pl g11) lk_X4_21 dX4_sum__45 ?_
          refine k_r (k := (C5 + 1)) (n := (S5 + 3)) hA B (u_S (rest := []) X (c_X4_sum l g (N + 1) (va_up ad N atm) (mg g (va_up ad N atm) (va_up y N (c_row g tm)) cr dr 0 kn rf pl pz mc) N atm tm (Nat.lt_succ_self _) up_eq ((mg_hi (by omega)).trans up_eq) 1 (37 + kk.toNatClampNeg) (ad (37 + kk.toNatClampNeg)) (pl kk.toNatClampNeg) (Nat.lt_succ_of_lt (pl_pl hN g11)) ((up_lt (pl_pl hN g11)).trans rfl) (mg_pl g11) H.size) mw_X4_sum md_X4_sum rfl lk_X4_57 ⟨Nat.le_of_ble_eq_true rfl, Nat.le_of_ble_eq_true rfl⟩ hA hK hT B hl.1 rfl (Nat.le_of_ble_eq_true rfl) dX4_sum__48 (by dsimp only [rm]; omega)) (by dsimp only [rm]; omega) (by dsimp only [rm]; omega) (fun r12 ad12 f' H locs hw B => ?_)
          generalize o13 : (v_X4_sum tm 1 (pl kk.toNatClampNeg)) = v9 at hw B
          cases v9 with
          | none =>
            obtain ⟨rfl, rfl, rfl⟩ := pw_n hw
            refine lv_astore_nN (lv' := [(2, .null), (3, .int kk), (0, .ref b0), (1, .int a1)]) hx hb dX4_sum__51 rfl hl (by decide) rfl (fun ls hl => ?_)
            refine lv_iinc (v := kk + 1) (lv' := [(3, .int (kk + 1)), (2, .null), (0, .ref b0), (1, .int a1)]) hx hb dX4_sum__52 hl (k := 1) rfl rfl (by decide) rfl (fun ls hl => ?_)
            refine lv_goto (tgt := 20) hx hb dX4_sum__55 (by decide) ?_
            refine lv_iload_n hx hb dX4_sum__20 rfl (lv_at hl 0 rfl) ?_
            refine lv_aload_n hx hb dX4_sum__21 rfl (lv_at hl 2 rfl) ?_
            refine b_get (q := 24) (k := 2) ((up_lt (by omega)).trans hb0) X hK B rfl in_X4 (by omega) mg_24 (by decide) lk_X4_17 rfl rfl dX4_sum__22 ?_
            refine k_i (k := (C5 + 1)) (n := (S5 + 3)) hA B (b_V (q := 27) (rest := [.int (kk + 1)]) rfl X (c_L_size l g (N + 1) (va_up ad N atm) (mg g (va_up ad N atm) (va_up y N (c_row g tm)) cr dr 0 kn rf pl pz mc) 27 ((va_up ad N atm) 27) (by omega) rfl mc (Int32.ofNat (pz - 1)) _ mg_27 H.size) mw_Jx4a65c_size_8abf5 md_Jx4a65c_size_8abf5 rfl lk_X4_128 ⟨Nat.le_of_ble_eq_true rfl, Nat.le_of_ble_eq_true rfl⟩ hA hK hT B (by omega) mg_27 rfl rfl hl.1 rfl (Nat.le_of_ble_eq_true rfl) dX4_sum__25 (by dsimp only [rm]; omega)) (by dsimp only [rm]; omega) (by dsimp only [rm]; omega) (fun r ad' f' H locs hw B => ?_)
            obtain ⟨rfl, rfl, rfl⟩ := hw
            refine lv_icmp_ge (tgt := 58) hx hb dX4_sum__28 (by decide) (fun c14 => ?_) (fun c14 => ?_)
            · refine W.widen (show (C5 + 1) ≤ 10 by omega) (show (S5 + 3) ≤ 30 by omega) ?_
              refine lv_aload_n hx hb dX4_sum__58 rfl (lv_at hl 2 rfl) ?_
              refine lv_iload_n hx hb dX4_sum__59 rfl (lv_at hl 3 rfl) ?_
              refine lv_aload_nN hx hb dX4_sum__60 rfl (lv_at hl 1 rfl) ?_
              refine k_i (k := 10) (n := 30) hA B (b_V (q := 24) (rest := []) ((up_lt (by omega)).trans hb0) X (c_X4_getN l g (N + 1) (va_up ad N atm) (va_up y N (c_row g tm)) cr dr 0 kn rf pl pz mc (by omega) b0 ((up_lt (by omega)).trans hb0) a1 H.size) mw_X4_get md_X4_get rfl lk_X4_103 ⟨Nat.le_of_ble_eq_true rfl, Nat.le_of_ble_eq_true rfl⟩ hA hK hT B (by omega) mg_24 rfl rfl hl.1 rfl (Nat.le_of_ble_eq_true rfl) dX4_sum__61 ⟨Nat.le_of_ble_eq_true rfl, Nat.le_of_ble_eq_true rfl⟩) (Nat.le_of_ble_eq_true rfl) (Nat.le_of_ble_eq_true rfl) (fun r15 ad15 f' H locs hw B => ?_)
              obtain ⟨rfl, rfl, rfl⟩ := hw
              have B : WB g (aw N ad sz) s.heap N ad (mg g ad y cr dr 0 kn (v_X4_getN rf).2 pl pz mc) H locs := WM_drop B (by omega) (by omega) (fun _ hk => (up_lt hk)) (fun _ hk => (up_lt hk))
              have ev := (show v_X4_sum_ cr rf pl pz a1 = ((v_X4_getN rf).1, cr, 0, (v_X4_getN rf).2) from he5.trans (by rw [wX4_sum__20, if_neg c6, om_none o13, if_pos c14]))
              exact rt_i X hr (ad, mg g ad y cr dr 0 kn (v_X4_getN rf).2 pl pz mc) B (PO_of B) ⟨(fun _ _ _ => rfl), by rw [ev], by rw [ev]⟩ rfl (Nat.le_of_ble_eq_true rfl) (Nat.le_of_ble_eq_true rfl) dX4_sum__64
            · refine lv_aload_nN hx hb dX4_sum__31 rfl (lv_at hl 1 rfl) ?_
              refine lv_ifnullN (tgt := 58) hx hb dX4_sum__32 (by decide) ?_
              refine W.widen (show (C5 + 1) ≤ 10 by omega) (show (S5 + 3) ≤ 30 by omega) ?_
              refine lv_aload_n hx hb dX4_sum__58 rfl (lv_at hl 2 rfl) ?_
              refine lv_iload_n hx hb dX4_sum__59 rfl (lv_at hl 3 rfl) ?_
              refine lv_aload_nN hx hb dX4_sum__60 rfl (lv_at hl 1 rfl) ?_
              refine k_i (k := 10) (n := 30) hA B (b_V (q := 24) (rest := []) ((up_lt (by omega)).trans hb0) X (c_X4_getN l g (N + 1) (va_up ad N atm) (va_up y N (c_row g tm)) cr dr 0 kn rf pl pz mc (by omega) b0 ((up_lt (by omega)).trans hb0) a1 H.size) mw_X4_get md_X4_get rfl lk_X4_103 ⟨Nat.le_of_ble_eq_true rfl, Nat.le_of_ble_eq_true rfl⟩ hA hK hT B (by omega) mg_24 rfl rfl hl.1 rfl (Nat.le_of_ble_eq_true rfl) dX4_sum__61 ⟨Nat.le_of_ble_eq_true rfl, Nat.le_of_ble_eq_true rfl⟩) (Nat.le_of_ble_eq_true rfl) (Nat.le_of_ble_eq_true rfl) (fun r16 ad16 f' H locs hw B => ?_)
              obtain ⟨rfl, rfl, rfl⟩ := hw
              have B : WB g (aw N ad sz) s.heap N ad (mg g ad y cr dr 0 kn (v_X4_getN rf).2 pl pz mc) H locs := WM_drop B (by omega) (by omega) (fun _ hk => (up_lt hk)) (fun _ hk => (up_lt hk))
              have ev := (show v_X4_sum_ cr rf pl pz a1 = ((v_X4_getN rf).1, cr, 0, (v_X4_getN rf).2) from he5.trans (by rw [wX4_sum__20, if_neg c6, om_none o13, if_neg c14]))
              exact rt_i X hr (ad, mg g ad y cr dr 0 kn (v_X4_getN rf).2 pl pz mc) B (PO_of B) ⟨(fun _ _ _ => rfl), by rw [ev], by rw [ev]⟩ rfl (Nat.le_of_ble_eq_true rfl) (Nat.le_of_ble_eq_true rfl) dX4_sum__64
          | some t13 =>
            obtain ⟨z13, rfl, rfl, rfl⟩ := pw_s hw
            have B : WB g (aw N ad sz) s.heap (N + 1 + 1) (va_up (va_up ad N atm) (N + 1) z13) (mg g (va_up (va_up ad N atm) (N + 1) z13) (va_up (va_up y N (c_row g tm)) (N + 1) (c_row g t13)) cr dr 0 kn rf pl pz mc) H locs := WM_push (by omega) B
            refine lv_astore_n (lv' := [(2, .ref z13), (3, .int kk), (0, .ref b0), (1, .int a1)]) hx hb dX4_sum__51 rfl hl (by decide) rfl (fun ls hl => ?_)
            refine lv_iinc (v := kk + 1) (lv' := [(3, .int (kk + 1)), (2, .ref z13), (0, .ref b0), (1, .int a1)]) hx hb dX4_sum__52 hl (k := 1) rfl rfl (by decide) rfl (fun ls hl => ?_)
            refine lv_goto (tgt := 20) hx hb dX4_sum__55 (by decide) ?_
            have B : WB g (aw N ad sz) s.heap (N + 1) (va_up ad N z13) (mg g (va_up ad N z13) (va_up y N (c_row g t13)) cr dr 0 kn rf pl pz mc) H locs := WM_pick (q := N + 1) (ad := ad) (y := y) B (by omega) (by omega) (by omega) up_eq up_eq (fun _ hk => ((up_lt (Nat.lt_succ_of_lt hk)).trans (up_lt hk))) (fun _ hk => ((up_lt (Nat.lt_succ_of_lt hk)).trans (up_lt hk)))
            exact ih5 (kk + 1) t13 z13 (C5 + 1) (S5 + 3) H locs (by omega) (by omega) (fu_le c6 hn5) (show v_X4_sum_ cr rf pl pz a1 = wX4_sum__20 cr rf pl pz a1 n5 (kk + 1) t13 from he5.trans (by rw [wX4_sum__20, if_neg c6, om_some o13])) (inc_nn hk0 c6) B ls (lv_sub hl [0, 1, 2, 3] rfl)
    have hT5 : ((Int32.ofNat (pz - 1)).toInt - (0 : Int32).toInt).toNat + 1 ≤ 9 := al_sz hz
    exact loop5 (((Int32.ofNat (pz - 1)).toInt - (0 : Int32).toInt).toNat + 1) 0 (v_X4_nothing) z4 1 3 H locs (by omega) (by omega) (Nat.lt_succ_self _) (show v_X4_sum_ cr rf pl pz a1 = wX4_sum__20 cr rf pl pz a1 (((Int32.ofNat (pz - 1)).toInt - (0 : Int32).toInt).toNat + 1) 0 (v_X4_nothing) from by unfold v_X4_sum_; rw [if_pos s2]) (by decide) B ls hl
  · have s2x : (v_X4_isNone a1) = 1 := (b01_X4_isNone).resolve_left s2
    rw [s2x]
    refine k_i (k := 0) (n := 0) hA B (b_V (q := 24) (rest := []) hb0 X (c_X4_stops l g N ad y cr dr th kn rf pl pz mc (by omega) b0 hb0 1 0 H.size) mw_X4_stops md_X4_stops rfl lk_X4_99 ⟨Nat.le_of_ble_eq_true rfl, Nat.le_of_ble_eq_true rfl⟩ hA hK hT B (by omega) mg_24 rfl rfl hl.1 rfl (Nat.le_of_ble_eq_true rfl) dX4_sum__6 ⟨Nat.le_of_ble_eq_true rfl, Nat.le_of_ble_eq_true rfl⟩) (Nat.le_of_ble_eq_true rfl) (Nat.le_of_ble_eq_true rfl) (fun r ad' f' H locs hw B => ?_)
    rw [st_10] at hw
    dsimp only at hw
    obtain ⟨rfl, rfl, rfl⟩ := hw
    have B : WB g (aw N ad sz) s.heap N ad (mg g ad y cr dr 1 kn rf pl pz mc) H locs := B
    refine lv_if_eq (tgt := 14) hx hb dX4_sum__9 (by decide) (fun z => absurd z (by decide)) (fun _ => ?_)
    refine lv_iconst (v := 0) hx hb dX4_sum__12 (by decide) ?_
    have ev := (show v_X4_sum_ cr rf pl pz a1 = (0, cr, 1, rf) from by unfold v_X4_sum_; rw [if_neg s2])
    exact rt_i X hr (ad, mg g ad y cr dr 1 kn rf pl pz mc) B (PO_of B) ⟨(fun _ _ _ => rfl), by rw [ev], by rw [ev]⟩ rfl (Nat.le_of_ble_eq_true rfl) (Nat.le_of_ble_eq_true rfl) dX4_sum__13
set_option maxHeartbeats 4000000 in
set_option maxRecDepth 100000 in
theorem c_X4_isSoundNow (l : Launch) (g : GG) (N : Nat) (ad : Nat → Nat) (y : Nat → va_E) (cr dr : Nat → TR) (th kn rf : Int32) (pl : Nat → TR) (pz : Nat) (mc : Int32) (hN : 36 + pz ≤ N) (b0 : Nat) (hb0 : ad 24 = b0) (hdr : ∀ i, i < 4 → okd (dr i)) : KI l yX4_isSoundNow cX4_isSoundNow 4 (some .boolean) (rm 5 465 1395) g [.ref b0] N ad (mg g ad y cr dr th kn rf pl pz mc) N (fun r ad' f' => ad = ad' ∧ (r = 0 ∨ r = 1) ∧ mg g ad y cr dr th kn rf pl pz mc = f') := by
  intro sz
  refine mt_start (by decide) (Nat.le_of_ble_eq_true rfl) ?_
  intro p e s m args below meth c hsz X hr hnam hA hK hT H locs B ls hl
  obtain ⟨hx, hb, hml, hown, hts, hlocks⟩ := id X
  have hl : lv_has ls 4 [(0, .ref b0)] := hl
  refine lv_iconst (v := 1) hx hb dX4_isSoundNow_0 (by decide) ?_
  refine lv_istore_n (lv' := [(1, .int 1), (0, .ref b0)]) hx hb dX4_isSoundNow_1 rfl hl (by decide) rfl (fun ls hl => ?_)
  refine lv_iconst (v := 0) hx hb dX4_isSoundNow_2 (by decide) ?_
  refine lv_istore_n (lv' := [(2, .int 0), (1, .int 1), (0, .ref b0)]) hx hb dX4_isSoundNow_3 rfl hl (by decide) rfl (fun ls hl => ?_)
  have loop1 : ∀ (n1 : Nat) (sa : Int32) (us : Int32) (C1 : Nat) (S1 : Nat) (H : Heap) (locs : List Loc), C1 + n1 * 93 ≤ 465 → S1 + n1 * 279 ≤ 1395 → ((4 : Int32).toInt - sa.toInt).toNat < n1 → (us = 0 ∨ us = 1) → ¬ sa < 0 → WB g (aw N ad sz) s.heap N ad (mg g ad y cr dr th kn rf pl pz mc) H locs → ∀ ls : Array Slot, lv_has ls 4 [(2, .int sa), (1, .int us), (0, .ref b0)] → W p l e (rm 5 465 1395) s m args below meth c H locs C1 S1 (MQ below (va_Qi (fun r (u : WS) => (fun r ad' f' => ad = ad' ∧ (r = 0 ∨ r = 1) ∧ mg g ad y cr dr th kn rf pl pz mc = f') r u.1 u.2) (fun u t => PO g N u.1 u.2 (aw N ad sz) t) (aw N ad sz)) args s (rm 5 465 1395).cells (rm 5 465 1395).slots (aw N ad sz)) (F0 m 4 ls []) := by
    intro n1
    induction n1 with
    | zero => intro sa us C1 S1 H locs _ _ hn; exact absurd hn (Nat.not_lt_zero _)
    | succ n1 ih1 =>
      intro sa us C1 S1 H locs hC1 hS1 hn1 hus hks B ls hl
      refine lv_iload_n hx hb dX4_isSoundNow_4 rfl (lv_at hl 0 rfl) ?_
      refine lv_iconst (v := 4) hx hb dX4_isSoundNow_5 (by decide) ?_
      refine lv_icmp_ge (tgt := 93) hx hb dX4_isSoundNow_6 (by decide) (fun c2 => ?_) (fun c2 => ?_)
      · refine W.widen (show (C1 + 0) ≤ 465 by omega) (show (S1 + 0) ≤ 1395 by omega) ?_
        refine lv_iload_n hx hb dX4_isSoundNow_93 rfl (lv_at hl 1 rfl) ?_
        exact rt_i X hr (ad, mg g ad y cr dr th kn rf pl pz mc) B (PO_of B) ⟨rfl, hus, rfl⟩ (nb_of hus) (Nat.le_of_ble_eq_true rfl) (Nat.le_of_ble_eq_true rfl) dX4_isSoundNow_94
      · refine lv_iload_n hx hb dX4_isSoundNow_9 rfl (lv_at hl 1 rfl) ?_
        refine lv_aload_n hx hb dX4_isSoundNow_10 rfl (lv_at hl 2 rfl) ?_
        refine b_get (q := 24) (k := 1) hb0 X hK B rfl in_X4 (by omega) mg_24 (by decide) lk_X4_11 rfl rfl dX4_isSoundNow_11 ?_
        refine lv_iload_n hx hb dX4_isSoundNow_14 rfl (lv_at hl 0 rfl) ?_
        refine b_aald (q := 25) (t0 := 2) (v := ad (28 + sa.toNatClampNeg)) rfl X hK B (by omega) mg_25 rfl rfl (ix_in (n := 4) hks c2 rfl) rfl dX4_isSoundNow_15 ?_
        have g3 : sa.toNatClampNeg < 4 := (ix_lt (n := 4) hks c2 rfl)
        refine k_i (k := (C1 + 8)) (n := (S1 + 24)) hA B (u_S (rest := [.int us]) X (c_X4_isSpanSound l g N ad (mg g ad y cr dr th kn rf pl pz mc) (28 + sa.toNatClampNeg) (ad (28 + sa.toNatClampNeg)) (cr sa.toNatClampNeg) (pl_cr hN g3) rfl (mg_cr g3) H.size) mw_X4_isSpanSound md_X4_isSpanSound rfl lk_X4_254 ⟨Nat.le_of_ble_eq_true rfl, Nat.le_of_ble_eq_true rfl⟩ hA hK hT B hl.1 rfl (Nat.le_of_ble_eq_true rfl) dX4_isSoundNow_16 (by dsimp only [rm]; omega)) (by dsimp only [rm]; omega) (by dsimp only [rm]; omega) (fun r4 ad4 f' H locs hw B => ?_)
        obtain ⟨rfl, rfl, rfl⟩ := hw
        refine lv_iand hx hb dX4_isSoundNow_19 ?_
        refine lv_istore_n (lv' := [(1, .int (us &&& (v_X4_isSpanSound (cr sa.toNatClampNeg)))), (2, .int sa), (0, .ref b0)]) hx hb dX4_isSoundNow_20 rfl hl (by decide) rfl (fun ls hl => ?_)
        refine lv_iconst (v := 0) hx hb dX4_isSoundNow_21 (by decide) ?_
        refine lv_istore_n (lv' := [(3, .int 0), (1, .int (us &&& (v_X4_isSpanSound (cr sa.toNatClampNeg)))), (2, .int sa), (0, .ref b0)]) hx hb dX4_isSoundNow_22 rfl hl (by decide) rfl (fun ls hl => ?_)
        have loop5 : ∀ (n5 : Nat) (sb : Int32) (ut : Int32) (C5 : Nat) (S5 : Nat) (H : Heap) (locs : List Loc), C5 + n5 * 17 ≤ (C1 + 93) → S5 + n5 * 51 ≤ (S1 + 279) → ((4 : Int32).toInt - sb.toInt).toNat < n5 → (ut = 0 ∨ ut = 1) → ¬ sb < 0 → WB g (aw N ad sz) s.heap N ad (mg g ad y cr dr th kn rf pl pz mc) H locs → ∀ ls : Array Slot, lv_has ls 4 [(3, .int sb), (1, .int ut), (2, .int sa), (0, .ref b0)] → W p l e (rm 5 465 1395) s m args below meth c H locs C5 S5 (MQ below (va_Qi (fun r (u : WS) => (fun r ad' f' => ad = ad' ∧ (r = 0 ∨ r = 1) ∧ mg g ad y cr dr th kn rf pl pz mc = f') r u.1 u.2) (fun u t => PO g N u.1 u.2 (aw N ad sz) t) (aw N ad sz)) args s (rm 5 465 1395).cells (rm 5 465 1395).slots (aw N ad sz)) (F0 m 23 ls []) := by
          intro n5
          induction n5 with
          | zero => intro sb ut C5 S5 H locs _ _ hn; exact absurd hn (Nat.not_lt_zero _)
          | succ n5 ih5 =>
            intro sb ut C5 S5 H locs hC5 hS5 hn5 hut hkt B ls hl
            refine lv_iload_n hx hb dX4_isSoundNow_23 rfl (lv_at hl 0 rfl) ?_
            refine lv_iconst (v := 4) hx hb dX4_isSoundNow_24 (by decide) ?_
            refine lv_icmp_ge (tgt := 87) hx hb dX4_isSoundNow_25 (by decide) (fun c6 => ?_) (fun c6 => ?_)
            · refine W.widen (show (C5 + 0) ≤ (C1 + 93) by omega) (show (S5 + 0) ≤ (S1 + 279) by omega) ?_
              refine lv_iinc (v := sa + 1) (lv' := [(2, .int (sa + 1)), (3, .int sb), (1, .int ut), (0, .ref b0)]) hx hb dX4_isSoundNow_87 hl (k := 2) rfl rfl (by decide) rfl (fun ls hl => ?_)
              refine lv_goto (tgt := 4) hx hb dX4_isSoundNow_90 (by decide) ?_
              exact ih1 (sa + 1) ut (C1 + 93) (S1 + 279) H locs (by omega) (by omega) (fu_le c2 hn1) hut (inc_nn hks c2) B ls (lv_sub hl [0, 2, 3] rfl)
            · refine lv_iload_n hx hb dX4_isSoundNow_28 rfl (lv_at hl 1 rfl) ?_
              refine lv_aload_n hx hb dX4_isSoundNow_29 rfl (lv_at hl 3 rfl) ?_
              refine b_get (q := 24) (k := 1) hb0 X hK B rfl in_X4 (by omega) mg_24 (by decide) lk_X4_11 rfl rfl dX4_isSoundNow_30 ?_
              refine lv_iload_n hx hb dX4_isSoundNow_33 rfl (lv_at hl 2 rfl) ?_
              refine b_aald (q := 25) (t0 := 2) (v := ad (28 + sa.toNatClampNeg)) rfl X hK B (by omega) mg_25 rfl rfl (ix_in (n := 4) hks c2 rfl) rfl dX4_isSoundNow_34 ?_
              have g7 : sa.toNatClampNeg < 4 := (ix_lt (n := 4) hks c2 rfl)
              refine lv_aload_n hx hb dX4_isSoundNow_35 rfl (lv_at hl 3 rfl) ?_
              refine b_get (q := 24) (k := 1) hb0 X hK B rfl in_X4 (by omega) mg_24 (by decide) lk_X4_11 rfl rfl dX4_isSoundNow_36 ?_
              refine lv_iload_n hx hb dX4_isSoundNow_39 rfl (lv_at hl 0 rfl) ?_
              refine b_aald (q := 25) (t0 := 2) (v := ad (28 + sb.toNatClampNeg)) rfl X hK B (by omega) mg_25 rfl rfl (ix_in (n := 4) hkt c6 rfl) rfl dX4_isSoundNow_40 ?_
              have g8 : sb.toNatClampNeg < 4 := (ix_lt (n := 4) hkt c6 rfl)
              refine k_i (k := (C5 + 11)) (n := (S5 + 33)) hA B (u_S (rest := [.int ut]) X (c_X4_areSound l g N ad (mg g ad y cr dr th kn rf pl pz mc) (28 + sa.toNatClampNeg) (ad (28 + sa.toNatClampNeg)) (cr sa.toNatClampNeg) (pl_cr hN g7) rfl (mg_cr g7) (28 + sb.toNatClampNeg) (ad (28 + sb.toNatClampNeg)) (cr sb.toNatClampNeg) (pl_cr hN g8) rfl (mg_cr g8) H.size) mw_X4_areSound md_X4_areSound rfl lk_X4_258 ⟨Nat.le_of_ble_eq_true rfl, Nat.le_of_ble_eq_true rfl⟩ hA hK hT B hl.1 rfl (Nat.le_of_ble_eq_true rfl) dX4_isSoundNow_41 (by dsimp only [rm]; omega)) (by dsimp only [rm]; omega) (by dsimp only [rm]; omega) (fun r9 ad9 f' H locs hw B => ?_)
              obtain ⟨rfl, rfl, rfl⟩ := hw
              refine lv_if_eq (tgt := 78) hx hb dX4_isSoundNow_44 (by decide) (fun c10 => ?_) (fun c10 => ?_)
              · refine lv_iconst (v := 0) hx hb dX4_isSoundNow_78 (by decide) ?_
                refine lv_iand hx hb dX4_isSoundNow_79 ?_
                refine lv_istore_n (lv' := [(1, .int (ut &&& 0)), (3, .int sb), (2, .int sa), (0, .ref b0)]) hx hb dX4_isSoundNow_80 rfl hl (by decide) rfl (fun ls hl => ?_)
                refine lv_iinc (v := sb + 1) (lv' := [(3, .int (sb + 1)), (1, .int (ut &&& 0)), (2, .int sa), (0, .ref b0)]) hx hb dX4_isSoundNow_81 hl (k := 1) rfl rfl (by decide) rfl (fun ls hl => ?_)
                refine lv_goto (tgt := 23) hx hb dX4_isSoundNow_84 (by decide) ?_
                exact ih5 (sb + 1) (ut &&& 0) (C5 + 11) (S5 + 33) H locs (by omega) (by omega) (fu_le c6 hn5) (and01 hut (Or.inl rfl)) (inc_nn hkt c6) B ls (lv_sub hl [0, 1, 2, 3] rfl)
              · refine lv_aload_n hx hb dX4_isSoundNow_47 rfl (lv_at hl 3 rfl) ?_
                refine b_get (q := 24) (k := 3) hb0 X hK B rfl in_X4 (by omega) mg_24 (by decide) lk_X4_23 rfl rfl dX4_isSoundNow_48 ?_
                refine lv_iload_n hx hb dX4_isSoundNow_51 rfl (lv_at hl 2 rfl) ?_
                refine b_aald (q := 26) (t0 := 2) (v := ad (32 + sa.toNatClampNeg)) rfl X hK B (by omega) mg_26 rfl rfl (ix_in (n := 4) hks c2 rfl) rfl dX4_isSoundNow_52 ?_
                have g11 : sa.toNatClampNeg < 4 := (ix_lt (n := 4) hks c2 rfl)
                refine lv_aload_n hx hb dX4_isSoundNow_53 rfl (lv_at hl 3 rfl) ?_
                refine b_get (q := 24) (k := 3) hb0 X hK B rfl in_X4 (by omega) mg_24 (by decide) lk_X4_23 rfl rfl dX4_isSoundNow_54 ?_
                refine lv_iload_n hx hb dX4_isSoundNow_57 rfl (lv_at hl 0 rfl) ?_
                refine b_aald (q := 26) (t0 := 2) (v := ad (32 + sb.toNatClampNeg)) rfl X hK B (by omega) mg_26 rfl rfl (ix_in (n := 4) hkt c6 rfl) rfl dX4_isSoundNow_58 ?_
                have g12 : sb.toNatClampNeg < 4 := (ix_lt (n := 4) hkt c6 rfl)
                refine k_r (k := (C5 + 13)) (n := (S5 + 39)) hA B (u_S (rest := [.int ut]) X (c_X4_apart l g N ad (mg g ad y cr dr th kn rf pl pz mc) (32 + sa.toNatClampNeg) (ad (32 + sa.toNatClampNeg)) (dr sa.toNatClampNeg) (pl_dr hN g11) rfl (mg_dr g11) (32 + sb.toNatClampNeg) (ad (32 + sb.toNatClampNeg)) (dr sb.toNatClampNeg) (pl_dr hN g12) rfl (mg_dr g12) (hdr _ g11) (hdr _ g12) H.size) mw_X4_apart md_X4_apart rfl lk_X4_219 ⟨Nat.le_of_ble_eq_true rfl, Nat.le_of_ble_eq_true rfl⟩ hA hK hT B hl.1 rfl (Nat.le_of_ble_eq_true rfl) dX4_isSoundNow_59 (by dsimp only [rm]; omega)) (by dsimp only [rm]; omega) (by dsimp only [rm]; omega) (fun r13 ad13 f' H locs hw B => ?_)
                generalize o14 : (v_X4_apart (dr sa.toNatClampNeg) (dr sb.toNatClampNeg)) = v9 at hw B
                cases v9 with
                | none =>
                  obtain ⟨rfl, rfl, rfl⟩ := pw_n hw
                  refine lv_ifnullN (tgt := 74) hx hb dX4_isSoundNow_62 (by decide) ?_
                  refine lv_iconst (v := 1) hx hb dX4_isSoundNow_74 (by decide) ?_
                  refine lv_goto (tgt := 79) hx hb dX4_isSoundNow_75 (by decide) ?_
                  refine lv_iand hx hb dX4_isSoundNow_79 ?_
                  refine lv_istore_n (lv' := [(1, .int (ut &&& 1)), (3, .int sb), (2, .int sa), (0, .ref b0)]) hx hb dX4_isSoundNow_80 rfl hl (by decide) rfl (fun ls hl => ?_)
                  refine lv_iinc (v := sb + 1) (lv' := [(3, .int (sb + 1)), (1, .int (ut &&& 1)), (2, .int sa), (0, .ref b0)]) hx hb dX4_isSoundNow_81 hl (k := 1) rfl rfl (by decide) rfl (fun ls hl => ?_)
                  refine lv_goto (tgt := 23) hx hb dX4_isSoundNow_84 (by decide) ?_
                  exact ih5 (sb + 1) (ut &&& 1) (C5 + 13) (S5 + 39) H locs (by omega) (by omega) (fu_le c6 hn5) (and01 hut (Or.inr rfl)) (inc_nn hkt c6) B ls (lv_sub hl [0, 1, 2, 3] rfl)
                | some t14 =>
                  obtain ⟨z14, rfl, rfl, rfl⟩ := pw_s hw
                  have B : WB g (aw N ad sz) s.heap (N + 1) (va_up ad N z14) (mg g (va_up ad N z14) (va_up y N (c_row g t14)) cr dr th kn rf pl pz mc) H locs := WM_push (by omega) B
                  refine lv_ifnull hx hb dX4_isSoundNow_62 ?_
                  refine lv_aload_n hx hb dX4_isSoundNow_65 rfl (lv_at hl 3 rfl) ?_
                  refine lv_iload_n hx hb dX4_isSoundNow_66 rfl (lv_at hl 2 rfl) ?_
                  refine lv_iload_n hx hb dX4_isSoundNow_67 rfl (lv_at hl 0 rfl) ?_
                  refine k_i (k := (C5 + 17)) (n := (S5 + 51)) hA B (b_V (q := 24) (rest := [.int ut]) ((up_lt (by omega)).trans hb0) X (c_X4_leadsBack l g (N + 1) (va_up ad N z14) (va_up y N (c_row g t14)) cr dr th kn rf pl pz mc (by omega) b0 ((up_lt (by omega)).trans hb0) sa sb (no_of hks c2) (no_of hkt c6) hdr H.size) mw_X4_leadsBack md_X4_leadsBack rfl lk_X4_239 ⟨Nat.le_of_ble_eq_true rfl, Nat.le_of_ble_eq_true rfl⟩ hA hK hT B (by omega) mg_24 rfl rfl hl.1 rfl (Nat.le_of_ble_eq_true rfl) dX4_isSoundNow_68 (by dsimp only [rm]; omega)) (by dsimp only [rm]; omega) (by dsimp only [rm]; omega) (fun r15 ad15 f' H locs hw B => ?_)
                  obtain ⟨rfl, rfl, rfl⟩ := hw
                  refine lv_if_eq (tgt := 78) hx hb dX4_isSoundNow_71 (by decide) (fun c16 => ?_) (fun c16 => ?_)
                  · refine lv_iconst (v := 0) hx hb dX4_isSoundNow_78 (by decide) ?_
                    refine lv_iand hx hb dX4_isSoundNow_79 ?_
                    refine lv_istore_n (lv' := [(1, .int (ut &&& 0)), (3, .int sb), (2, .int sa), (0, .ref b0)]) hx hb dX4_isSoundNow_80 rfl hl (by decide) rfl (fun ls hl => ?_)
                    refine lv_iinc (v := sb + 1) (lv' := [(3, .int (sb + 1)), (1, .int (ut &&& 0)), (2, .int sa), (0, .ref b0)]) hx hb dX4_isSoundNow_81 hl (k := 1) rfl rfl (by decide) rfl (fun ls hl => ?_)
                    refine lv_goto (tgt := 23) hx hb dX4_isSoundNow_84 (by decide) ?_
                    have B : WB g (aw N ad sz) s.heap N ad (mg g ad y cr dr th kn rf pl pz mc) H locs := WM_drop B (by omega) (by omega) (fun _ hk => (up_lt hk)) (fun _ hk => (up_lt hk))
                    exact ih5 (sb + 1) (ut &&& 0) (C5 + 17) (S5 + 51) H locs (by omega) (by omega) (fu_le c6 hn5) (and01 hut (Or.inl rfl)) (inc_nn hkt c6) B ls (lv_sub hl [0, 1, 2, 3] rfl)
                  · refine lv_iconst (v := 1) hx hb dX4_isSoundNow_74 (by decide) ?_
                    refine lv_goto (tgt := 79) hx hb dX4_isSoundNow_75 (by decide) ?_
                    refine lv_iand hx hb dX4_isSoundNow_79 ?_
                    refine lv_istore_n (lv' := [(1, .int (ut &&& 1)), (3, .int sb), (2, .int sa), (0, .ref b0)]) hx hb dX4_isSoundNow_80 rfl hl (by decide) rfl (fun ls hl => ?_)
                    refine lv_iinc (v := sb + 1) (lv' := [(3, .int (sb + 1)), (1, .int (ut &&& 1)), (2, .int sa), (0, .ref b0)]) hx hb dX4_isSoundNow_81 hl (k := 1) rfl rfl (by decide) rfl (fun ls hl => ?_)
                    refine lv_goto (tgt := 23) hx hb dX4_isSoundNow_84 (by decide) ?_
                    have B : WB g (aw N ad sz) s.heap N ad (mg g ad y cr dr th kn rf pl pz mc) H locs := WM_drop B (by omega) (by omega) (fun _ hk => (up_lt hk)) (fun _ hk => (up_lt hk))
                    exact ih5 (sb + 1) (ut &&& 1) (C5 + 17) (S5 + 51) H locs (by omega) (by omega) (fu_le c6 hn5) (and01 hut (Or.inr rfl)) (inc_nn hkt c6) B ls (lv_sub hl [0, 1, 2, 3] rfl)
        have hT5 : 4 + 1 ≤ 5 := (by decide)
        exact loop5 (4 + 1) 0 (us &&& (v_X4_isSpanSound (cr sa.toNatClampNeg))) (C1 + 8) (S1 + 24) H locs (by omega) (by omega) (by decide) (and01 hus b01_X4_isSpanSound) (by decide) B ls hl
  have hT1 : 4 + 1 ≤ 5 := (by decide)
  exact loop1 (4 + 1) 0 1 0 0 H locs (by omega) (by omega) (by decide) (Or.inr rfl) (by decide) B ls hl
def v_X4_isSound : Int32 := 0
set_option maxHeartbeats 4000000 in
set_option maxRecDepth 100000 in
theorem c_X4_isSound (l : Launch) (g : GG) (N : Nat) (ad : Nat → Nat) (y : Nat → va_E) (cr dr : Nat → TR) (th kn rf : Int32) (pl : Nat → TR) (pz : Nat) (mc : Int32) (hN : 36 + pz ≤ N) (b0 : Nat) (hb0 : ad 24 = b0) (hdr : ∀ i, i < 4 → okd (dr i)) : KI l yX4_isSound cX4_isSound 1 (some .boolean) (rm 6 465 1395) g [.ref b0] N ad (mg g ad y cr dr th kn rf pl pz mc) N (fun r ad' f' => ad = ad' ∧ (r = 0 ∨ r = 1) ∧ mg g ad y cr dr v_X4_isSound kn rf pl pz mc = f') := by
  intro sz
  refine mt_start (by decide) (Nat.le_of_ble_eq_true rfl) ?_
  intro p e s m args below meth c hsz X hr hnam hA hK hT H locs B ls hl
  obtain ⟨hx, hb, hml, hown, hts, hlocks⟩ := id X
  have hl : lv_has ls 1 [(0, .ref b0)] := hl
  refine lv_aload_n hx hb dX4_isSound_0 rfl (lv_at hl 0 rfl) ?_
  refine lv_iconst (v := 0) hx hb dX4_isSound_1 (by decide) ?_
  refine b_put (q := 24) (k := 0) hb0 X hK B rfl in_X4 tyX4_ok nmX4 (by omega) mg_24 (by decide) lk_X4_26 rfl rfl rfl rfl rfl (Nat.le_of_ble_eq_true rfl) dX4_isSound_2 (fun H locs B => ?_)
  have B : WB g (aw N ad sz) s.heap N ad (mg g ad y cr dr 0 kn rf pl pz mc) H locs := by rw [← mg_up_md]; exact B
  refine lv_aload_n hx hb dX4_isSound_5 rfl (lv_at hl 0 rfl) ?_
  refine k_i (k := 465) (n := 1395) hA B (b_V (q := 24) (rest := []) hb0 X (c_X4_isSoundNow l g N ad y cr dr 0 kn rf pl pz mc (by omega) b0 hb0 hdr H.size) mw_X4_isSoundNow md_X4_isSoundNow rfl lk_X4_261 ⟨Nat.le_of_ble_eq_true rfl, Nat.le_of_ble_eq_true rfl⟩ hA hK hT B (by omega) mg_24 rfl rfl hl.1 rfl (Nat.le_of_ble_eq_true rfl) dX4_isSound_6 ⟨Nat.le_of_ble_eq_true rfl, Nat.le_of_ble_eq_true rfl⟩) (Nat.le_of_ble_eq_true rfl) (Nat.le_of_ble_eq_true rfl) (fun r1 ad1 f' H locs hw B => ?_)
  obtain ⟨rfl, r1b, rfl⟩ := hw
  have ev := (show v_X4_isSound = 0 from rfl)
  exact rt_i X hr (ad, mg g ad y cr dr 0 kn rf pl pz mc) B (PO_of B) ⟨rfl, r1b, by rw [ev]⟩ (nb_of r1b) (Nat.le_of_ble_eq_true rfl) (Nat.le_of_ble_eq_true rfl) dX4_isSound_9
end
section
def wJ6_stringSize_0f7a4_16 : Nat → Int32 → Int32 → Int32 → Int32 → Int32
  | 0, xx, dd, pp, ii => 0
  | n + 1, xx, dd, pp, ii => if 10 ≤ ii then (10 + dd) else (if xx ≤ pp then (wJ6_stringSize_0f7a4_16 n xx dd (10 * pp) (ii + 1)) else (ii + dd))
def v_J6_stringSize_0f7a4 (a0 : Int32) : Int32 := if a0 < 0 then (wJ6_stringSize_0f7a4_16 (9 + 1) a0 1 (-10) 1) else (wJ6_stringSize_0f7a4_16 (9 + 1) (-a0) 0 (-10) 1)
set_option maxHeartbeats 4000000 in
set_option maxRecDepth 100000 in
theorem c_J6_stringSize_0f7a4 (l : Launch) (g : GG) (N : Nat) (ad : Nat → Nat) (f : Nat → va_E) (a0 : Int32) : KI l yJ6_stringSize_0f7a4 cJ6_stringSize_0f7a4 4 (some .int) (rm 0 0 0) g [.int a0] N ad f N (fun r ad' f' => ad = ad' ∧ (v_J6_stringSize_0f7a4 a0) = r ∧ f = f') := by
  intro sz
  refine mt_start (by decide) (Nat.le_of_ble_eq_true rfl) ?_
  intro p e s m args below meth c hsz X hr hnam hA hK hT H locs B ls hl
  obtain ⟨hx, hb, hml, hown, hts, hlocks⟩ := id X
  have hl : lv_has ls 4 [(0, .int a0)] := hl
  refine lv_iconst (v := 1) hx hb dJ6_stringSize_0f7a4_0 (by decide) ?_
  refine lv_istore_n (lv' := [(1, .int 1), (0, .int a0)]) hx hb dJ6_stringSize_0f7a4_1 rfl hl (by decide) rfl (fun ls hl => ?_)
  refine lv_iload_n hx hb dJ6_stringSize_0f7a4_2 rfl (lv_at hl 1 rfl) ?_
  refine lv_if_lt (tgt := 11) hx hb dJ6_stringSize_0f7a4_3 (by decide) (fun c1 => ?_) (fun c1 => ?_)
  · refine lv_bipush (v := (-10)) hx hb dJ6_stringSize_0f7a4_11 (by decide) ?_
    refine lv_istore_n (lv' := [(2, .int (-10)), (1, .int 1), (0, .int a0)]) hx hb dJ6_stringSize_0f7a4_13 rfl hl (by decide) rfl (fun ls hl => ?_)
    refine lv_iconst (v := 1) hx hb dJ6_stringSize_0f7a4_14 (by decide) ?_
    refine lv_istore_n (lv' := [(3, .int 1), (2, .int (-10)), (1, .int 1), (0, .int a0)]) hx hb dJ6_stringSize_0f7a4_15 rfl hl (by decide) rfl (fun ls hl => ?_)
    have hl : lv_has ls 4 [(0, .int a0), (1, .int 1), (2, .int (-10)), (3, .int 1)] := lv_sub hl [3, 2, 1, 0] rfl
    have loop2 : ∀ (n2 : Nat) (xx : Int32) (dd : Int32) (pp : Int32) (ii : Int32) (H : Heap) (locs : List Loc), ((10 : Int32).toInt - ii.toInt).toNat < n2 → v_J6_stringSize_0f7a4 a0 = wJ6_stringSize_0f7a4_16 n2 xx dd pp ii → WB g (aw N ad sz) s.heap N ad f H locs → ∀ ls : Array Slot, lv_has ls 4 [(0, .int xx), (1, .int dd), (2, .int pp), (3, .int ii)] → W p l e (rm 0 0 0) s m args below meth c H locs 0 0 (MQ below (va_Qi (fun r (u : WS) => (fun r ad' f' => ad = ad' ∧ (v_J6_stringSize_0f7a4 a0) = r ∧ f = f') r u.1 u.2) (fun u t => PO g N u.1 u.2 (aw N ad sz) t) (aw N ad sz)) args s (rm 0 0 0).cells (rm 0 0 0).slots (aw N ad sz)) (F0 m 16 ls []) := by
      intro n2
      induction n2 with
      | zero => intro xx dd pp ii H locs hn; exact absurd hn (Nat.not_lt_zero _)
      | succ n2 ih2 =>
        intro xx dd pp ii H locs hn2 he2 B ls hl
        refine lv_iload_n hx hb dJ6_stringSize_0f7a4_16 rfl (lv_at hl 3 rfl) ?_
        refine lv_bipush (v := 10) hx hb dJ6_stringSize_0f7a4_17 (by decide) ?_
        refine lv_icmp_ge (tgt := 42) hx hb dJ6_stringSize_0f7a4_19 (by decide) (fun c3 => ?_) (fun c3 => ?_)
        · refine lv_bipush (v := 10) hx hb dJ6_stringSize_0f7a4_42 (by decide) ?_
          refine lv_iload_n hx hb dJ6_stringSize_0f7a4_44 rfl (lv_at hl 1 rfl) ?_
          refine lv_iadd hx hb dJ6_stringSize_0f7a4_45 ?_
          have ev := (show v_J6_stringSize_0f7a4 a0 = 10 + dd from he2.trans (by rw [wJ6_stringSize_0f7a4_16, if_pos c3]))
          exact rt_i X hr (ad, f) B (PO_of B) ⟨rfl, by rw [ev], rfl⟩ rfl (Nat.le_of_ble_eq_true rfl) (Nat.le_of_ble_eq_true rfl) dJ6_stringSize_0f7a4_46
        · refine lv_iload_n hx hb dJ6_stringSize_0f7a4_22 rfl (lv_at hl 0 rfl) ?_
          refine lv_iload_n hx hb dJ6_stringSize_0f7a4_23 rfl (lv_at hl 2 rfl) ?_
          refine lv_icmp_le (tgt := 31) hx hb dJ6_stringSize_0f7a4_24 (by decide) (fun c4 => ?_) (fun c4 => ?_)
          · refine lv_bipush (v := 10) hx hb dJ6_stringSize_0f7a4_31 (by decide) ?_
            refine lv_iload_n hx hb dJ6_stringSize_0f7a4_33 rfl (lv_at hl 2 rfl) ?_
            refine lv_imul hx hb dJ6_stringSize_0f7a4_34 ?_
            refine lv_istore_n (lv' := [(2, .int (10 * pp)), (0, .int xx), (1, .int dd), (3, .int ii)]) hx hb dJ6_stringSize_0f7a4_35 rfl hl (by decide) rfl (fun ls hl => ?_)
            refine lv_iinc (v := ii + 1) (lv' := [(3, .int (ii + 1)), (2, .int (10 * pp)), (0, .int xx), (1, .int dd)]) hx hb dJ6_stringSize_0f7a4_36 hl (k := 3) rfl rfl (by decide) rfl (fun ls hl => ?_)
            refine lv_goto (tgt := 16) hx hb dJ6_stringSize_0f7a4_39 (by decide) ?_
            exact ih2 xx dd (10 * pp) (ii + 1) H locs (fu_le c3 hn2) (show v_J6_stringSize_0f7a4 a0 = wJ6_stringSize_0f7a4_16 n2 xx dd (10 * pp) (ii + 1) from he2.trans (by rw [wJ6_stringSize_0f7a4_16, if_neg c3, if_pos c4])) B ls (lv_sub hl [2, 3, 1, 0] rfl)
          · refine lv_iload_n hx hb dJ6_stringSize_0f7a4_27 rfl (lv_at hl 3 rfl) ?_
            refine lv_iload_n hx hb dJ6_stringSize_0f7a4_28 rfl (lv_at hl 1 rfl) ?_
            refine lv_iadd hx hb dJ6_stringSize_0f7a4_29 ?_
            have ev := (show v_J6_stringSize_0f7a4 a0 = ii + dd from he2.trans (by rw [wJ6_stringSize_0f7a4_16, if_neg c3, if_neg c4]))
            exact rt_i X hr (ad, f) B (PO_of B) ⟨rfl, by rw [ev], rfl⟩ rfl (Nat.le_of_ble_eq_true rfl) (Nat.le_of_ble_eq_true rfl) dJ6_stringSize_0f7a4_30
    exact loop2 (9 + 1) a0 1 (-10) 1 H locs (by decide) (show v_J6_stringSize_0f7a4 a0 = wJ6_stringSize_0f7a4_16 (9 + 1) a0 1 (-10) 1 from by unfold v_J6_stringSize_0f7a4; rw [if_pos c1]) B ls hl
  · refine lv_iconst (v := 0) hx hb dJ6_stringSize_0f7a4_6 (by decide) ?_
    refine lv_istore_n (lv' := [(1, .int 0), (0, .int a0)]) hx hb dJ6_stringSize_0f7a4_7 rfl hl (by decide) rfl (fun ls hl => ?_)
    refine lv_iload_n hx hb dJ6_stringSize_0f7a4_8 rfl (lv_at hl 1 rfl) ?_
    refine lv_ineg hx hb dJ6_stringSize_0f7a4_9 ?_
    refine lv_istore_n (lv' := [(0, .int (-a0)), (1, .int 0)]) hx hb dJ6_stringSize_0f7a4_10 rfl hl (by decide) rfl (fun ls hl => ?_)
    refine lv_bipush (v := (-10)) hx hb dJ6_stringSize_0f7a4_11 (by decide) ?_
    refine lv_istore_n (lv' := [(2, .int (-10)), (0, .int (-a0)), (1, .int 0)]) hx hb dJ6_stringSize_0f7a4_13 rfl hl (by decide) rfl (fun ls hl => ?_)
    refine lv_iconst (v := 1) hx hb dJ6_stringSize_0f7a4_14 (by decide) ?_
    refine lv_istore_n (lv' := [(3, .int 1), (2, .int (-10)), (0, .int (-a0)), (1, .int 0)]) hx hb dJ6_stringSize_0f7a4_15 rfl hl (by decide) rfl (fun ls hl => ?_)
    have hl : lv_has ls 4 [(0, .int (-a0)), (1, .int 0), (2, .int (-10)), (3, .int 1)] := lv_sub hl [2, 3, 1, 0] rfl
    have loop5 : ∀ (n5 : Nat) (xx : Int32) (dd : Int32) (pp : Int32) (ii : Int32) (H : Heap) (locs : List Loc), ((10 : Int32).toInt - ii.toInt).toNat < n5 → v_J6_stringSize_0f7a4 a0 = wJ6_stringSize_0f7a4_16 n5 xx dd pp ii → WB g (aw N ad sz) s.heap N ad f H locs → ∀ ls : Array Slot, lv_has ls 4 [(0, .int xx), (1, .int dd), (2, .int pp), (3, .int ii)] → W p l e (rm 0 0 0) s m args below meth c H locs 0 0 (MQ below (va_Qi (fun r (u : WS) => (fun r ad' f' => ad = ad' ∧ (v_J6_stringSize_0f7a4 a0) = r ∧ f = f') r u.1 u.2) (fun u t => PO g N u.1 u.2 (aw N ad sz) t) (aw N ad sz)) args s (rm 0 0 0).cells (rm 0 0 0).slots (aw N ad sz)) (F0 m 16 ls []) := by
      intro n5
      induction n5 with
      | zero => intro xx dd pp ii H locs hn; exact absurd hn (Nat.not_lt_zero _)
      | succ n5 ih5 =>
        intro xx dd pp ii H locs hn5 he5 B ls hl
        refine lv_iload_n hx hb dJ6_stringSize_0f7a4_16 rfl (lv_at hl 3 rfl) ?_
        refine lv_bipush (v := 10) hx hb dJ6_stringSize_0f7a4_17 (by decide) ?_
        refine lv_icmp_ge (tgt := 42) hx hb dJ6_stringSize_0f7a4_19 (by decide) (fun c6 => ?_) (fun c6 => ?_)
        · refine lv_bipush (v := 10) hx hb dJ6_stringSize_0f7a4_42 (by decide) ?_
          refine lv_iload_n hx hb dJ6_stringSize_0f7a4_44 rfl (lv_at hl 1 rfl) ?_
          refine lv_iadd hx hb dJ6_stringSize_0f7a4_45 ?_
          have ev := (show v_J6_stringSize_0f7a4 a0 = 10 + dd from he5.trans (by rw [wJ6_stringSize_0f7a4_16, if_pos c6]))
          exact rt_i X hr (ad, f) B (PO_of B) ⟨rfl, by rw [ev], rfl⟩ rfl (Nat.le_of_ble_eq_true rfl) (Nat.le_of_ble_eq_true rfl) dJ6_stringSize_0f7a4_46
        · refine lv_iload_n hx hb dJ6_stringSize_0f7a4_22 rfl (lv_at hl 0 rfl) ?_
          refine lv_iload_n hx hb dJ6_stringSize_0f7a4_23 rfl (lv_at hl 2 rfl) ?_
          refine lv_icmp_le (tgt := 31) hx hb dJ6_stringSize_0f7a4_24 (by decide) (fun c7 => ?_) (fun c7 => ?_)
          · refine lv_bipush (v := 10) hx hb dJ6_stringSize_0f7a4_31 (by decide) ?_
            refine lv_iload_n hx hb dJ6_stringSize_0f7a4_33 rfl (lv_at hl 2 rfl) ?_
            refine lv_imul hx hb dJ6_stringSize_0f7a4_34 ?_
            refine lv_istore_n (lv' := [(2, .int (10 * pp)), (0, .int xx), (1, .int dd), (3, .int ii)]) hx hb dJ6_stringSize_0f7a4_35 rfl hl (by decide) rfl (fun ls hl => ?_)
            refine lv_iinc (v := ii + 1) (lv' := [(3, .int (ii + 1)), (2, .int (10 * pp)), (0, .int xx), (1, .int dd)]) hx hb dJ6_stringSize_0f7a4_36 hl (k := 3) rfl rfl (by decide) rfl (fun ls hl => ?_)
            refine lv_goto (tgt := 16) hx hb dJ6_stringSize_0f7a4_39 (by decide) ?_
            exact ih5 xx dd (10 * pp) (ii + 1) H locs (fu_le c6 hn5) (show v_J6_stringSize_0f7a4 a0 = wJ6_stringSize_0f7a4_16 n5 xx dd (10 * pp) (ii + 1) from he5.trans (by rw [wJ6_stringSize_0f7a4_16, if_neg c6, if_pos c7])) B ls (lv_sub hl [2, 3, 1, 0] rfl)
          · refine lv_iload_n hx hb dJ6_stringSize_0f7a4_27 rfl (lv_at hl 3 rfl) ?_
            refine lv_iload_n hx hb dJ6_stringSize_0f7a4_28 rfl (lv_at hl 1 rfl) ?_
            refine lv_iadd hx hb dJ6_stringSize_0f7a4_29 ?_
            have ev := (show v_J6_stringSize_0f7a4 a0 = ii + dd from he5.trans (by rw [wJ6_stringSize_0f7a4_16, if_neg c6, if_neg c7]))
            exact rt_i X hr (ad, f) B (PO_of B) ⟨rfl, by rw [ev], rfl⟩ rfl (Nat.le_of_ble_eq_true rfl) (Nat.le_of_ble_eq_true rfl) dJ6_stringSize_0f7a4_30
    exact loop5 (9 + 1) (-a0) 0 (-10) 1 H locs (by decide) (show v_J6_stringSize_0f7a4 a0 = wJ6_stringSize_0f7a4_16 (9 + 1) (-a0) 0 (-10) 1 from by unfold v_J6_stringSize_0f7a4; rw [if_neg c1]) B ls hl
def wJ13_stringSize_95d88_20 : Nat → Int64 → Int32 → Int64 → Int32 → Int32
  | 0, xx, dd, pp, ii => 0
  | n + 1, xx, dd, pp, ii => if 19 ≤ ii then (19 + dd) else (if (lg_cmp xx pp) ≤ 0 then (wJ13_stringSize_95d88_20 n xx dd (10 * pp) (ii + 1)) else (ii + dd))
def v_J13_stringSize_95d88 (b0 : Int64) : Int32 := if (lg_cmp b0 0) < 0 then (wJ13_stringSize_95d88_20 (18 + 1) b0 1 (-10) 1) else (wJ13_stringSize_95d88_20 (18 + 1) (-b0) 0 (-10) 1)
set_option maxHeartbeats 4000000 in
set_option maxRecDepth 100000 in
theorem c_J13_stringSize_95d88 (l : Launch) (g : GG) (N : Nat) (ad : Nat → Nat) (f : Nat → va_E) (b0 : Int64) : KI l yJ13_stringSize_95d88 cJ13_stringSize_95d88 6 (some .int) (rm 0 0 0) g [.long b0] N ad f N (fun r ad' f' => ad = ad' ∧ (v_J13_stringSize_95d88 b0) = r ∧ f = f') := by
  intro sz
  refine mt_start (by decide) (Nat.le_of_ble_eq_true rfl) ?_
  intro p e s m args below meth c hsz X hr hnam hA hK hT H locs B ls hl
  obtain ⟨hx, hb, hml, hown, hts, hlocks⟩ := id X
  have hl : lv_has ls 6 [(0, .long b0)] := hl
  refine lv_iconst (v := 1) hx hb dJ13_stringSize_95d88_0 (by decide) ?_
  refine lv_istore_n (lv' := [(2, .int 1), (0, .long b0)]) hx hb dJ13_stringSize_95d88_1 rfl hl (by decide) rfl (fun ls hl => ?_)
  refine lv_lload_n hx hb dJ13_stringSize_95d88_2 rfl (lv_at hl 1 rfl) ?_
  refine lv_lconst (v := 0) hx hb dJ13_stringSize_95d88_3 (by decide) ?_
  refine W.lcmp hx hb dJ13_stringSize_95d88_4 ?_
  refine lv_if_lt (tgt := 13) hx hb dJ13_stringSize_95d88_5 (by decide) (fun c1 => ?_) (fun c1 => ?_)
  · refine lv_ldc2 hx hb hown (hts _ (List.mem_cons_of_mem _ lk_J13_140)) dJ13_stringSize_95d88_13 ?_
    refine lv_lstore_n (lv' := [(3, .long (-10)), (2, .int 1), (0, .long b0)]) hx hb dJ13_stringSize_95d88_16 rfl hl (by decide) rfl (fun ls hl => ?_)
    refine lv_iconst (v := 1) hx hb dJ13_stringSize_95d88_17 (by decide) ?_
    refine lv_istore (lv' := [(5, .int 1), (3, .long (-10)), (2, .int 1), (0, .long b0)]) hx hb dJ13_stringSize_95d88_18 hl (by decide) rfl (fun ls hl => ?_)
    have hl : lv_has ls 6 [(0, .long b0), (2, .int 1), (3, .long (-10)), (5, .int 1)] := lv_sub hl [3, 2, 1, 0] rfl
    have loop2 : ∀ (n2 : Nat) (xx : Int64) (dd : Int32) (pp : Int64) (ii : Int32) (H : Heap) (locs : List Loc), ((19 : Int32).toInt - ii.toInt).toNat < n2 → v_J13_stringSize_95d88 b0 = wJ13_stringSize_95d88_20 n2 xx dd pp ii → WB g (aw N ad sz) s.heap N ad f H locs → ∀ ls : Array Slot, lv_has ls 6 [(0, .long xx), (2, .int dd), (3, .long pp), (5, .int ii)] → W p l e (rm 0 0 0) s m args below meth c H locs 0 0 (MQ below (va_Qi (fun r (u : WS) => (fun r ad' f' => ad = ad' ∧ (v_J13_stringSize_95d88 b0) = r ∧ f = f') r u.1 u.2) (fun u t => PO g N u.1 u.2 (aw N ad sz) t) (aw N ad sz)) args s (rm 0 0 0).cells (rm 0 0 0).slots (aw N ad sz)) (F0 m 20 ls []) := by
      intro n2
      induction n2 with
      | zero => intro xx dd pp ii H locs hn; exact absurd hn (Nat.not_lt_zero _)
      | succ n2 ih2 =>
        intro xx dd pp ii H locs hn2 he2 B ls hl
        refine lv_iload hx hb dJ13_stringSize_95d88_20 (lv_at hl 3 rfl) ?_
        refine lv_bipush (v := 19) hx hb dJ13_stringSize_95d88_22 (by decide) ?_
        refine lv_icmp_ge (tgt := 50) hx hb dJ13_stringSize_95d88_24 (by decide) (fun c3 => ?_) (fun c3 => ?_)
        · refine lv_bipush (v := 19) hx hb dJ13_stringSize_95d88_50 (by decide) ?_
          refine lv_iload_n hx hb dJ13_stringSize_95d88_52 rfl (lv_at hl 1 rfl) ?_
          refine lv_iadd hx hb dJ13_stringSize_95d88_53 ?_
          have ev := (show v_J13_stringSize_95d88 b0 = 19 + dd from he2.trans (by rw [wJ13_stringSize_95d88_20, if_pos c3]))
          exact rt_i X hr (ad, f) B (PO_of B) ⟨rfl, by rw [ev], rfl⟩ rfl (Nat.le_of_ble_eq_true rfl) (Nat.le_of_ble_eq_true rfl) dJ13_stringSize_95d88_54
        · refine lv_lload_n hx hb dJ13_stringSize_95d88_27 rfl (lv_at hl 0 rfl) ?_
          refine lv_lload_n hx hb dJ13_stringSize_95d88_28 rfl (lv_at hl 2 rfl) ?_
          refine W.lcmp hx hb dJ13_stringSize_95d88_29 ?_
          refine lv_if_le (tgt := 38) hx hb dJ13_stringSize_95d88_30 (by decide) (fun c4 => ?_) (fun c4 => ?_)
          · refine lv_ldc2 hx hb hown (hts _ (List.mem_cons_of_mem _ lk_J13_53)) dJ13_stringSize_95d88_38 ?_
            refine lv_lload_n hx hb dJ13_stringSize_95d88_41 rfl (lv_at hl 2 rfl) ?_
            refine lv_lmul hx hb dJ13_stringSize_95d88_42 ?_
            refine lv_lstore_n (lv' := [(3, .long (10 * pp)), (0, .long xx), (2, .int dd), (5, .int ii)]) hx hb dJ13_stringSize_95d88_43 rfl hl (by decide) rfl (fun ls hl => ?_)
            refine lv_iinc (v := ii + 1) (lv' := [(5, .int (ii + 1)), (3, .long (10 * pp)), (0, .long xx), (2, .int dd)]) hx hb dJ13_stringSize_95d88_44 hl (k := 3) rfl rfl (by decide) rfl (fun ls hl => ?_)
            refine lv_goto (tgt := 20) hx hb dJ13_stringSize_95d88_47 (by decide) ?_
            exact ih2 xx dd (10 * pp) (ii + 1) H locs (fu_le c3 hn2) (show v_J13_stringSize_95d88 b0 = wJ13_stringSize_95d88_20 n2 xx dd (10 * pp) (ii + 1) from he2.trans (by rw [wJ13_stringSize_95d88_20, if_neg c3, if_pos c4])) B ls (lv_sub hl [2, 3, 1, 0] rfl)
          · refine lv_iload hx hb dJ13_stringSize_95d88_33 (lv_at hl 3 rfl) ?_
            refine lv_iload_n hx hb dJ13_stringSize_95d88_35 rfl (lv_at hl 1 rfl) ?_
            refine lv_iadd hx hb dJ13_stringSize_95d88_36 ?_
            have ev := (show v_J13_stringSize_95d88 b0 = ii + dd from he2.trans (by rw [wJ13_stringSize_95d88_20, if_neg c3, if_neg c4]))
            exact rt_i X hr (ad, f) B (PO_of B) ⟨rfl, by rw [ev], rfl⟩ rfl (Nat.le_of_ble_eq_true rfl) (Nat.le_of_ble_eq_true rfl) dJ13_stringSize_95d88_37
    exact loop2 (18 + 1) b0 1 (-10) 1 H locs (by decide) (show v_J13_stringSize_95d88 b0 = wJ13_stringSize_95d88_20 (18 + 1) b0 1 (-10) 1 from by unfold v_J13_stringSize_95d88; rw [if_pos c1]) B ls hl
  · refine lv_iconst (v := 0) hx hb dJ13_stringSize_95d88_8 (by decide) ?_
    refine lv_istore_n (lv' := [(2, .int 0), (0, .long b0)]) hx hb dJ13_stringSize_95d88_9 rfl hl (by decide) rfl (fun ls hl => ?_)
    refine lv_lload_n hx hb dJ13_stringSize_95d88_10 rfl (lv_at hl 1 rfl) ?_
    refine lv_lneg hx hb dJ13_stringSize_95d88_11 ?_
    refine lv_lstore_n (lv' := [(0, .long (-b0)), (2, .int 0)]) hx hb dJ13_stringSize_95d88_12 rfl hl (by decide) rfl (fun ls hl => ?_)
    refine lv_ldc2 hx hb hown (hts _ (List.mem_cons_of_mem _ lk_J13_140)) dJ13_stringSize_95d88_13 ?_
    refine lv_lstore_n (lv' := [(3, .long (-10)), (0, .long (-b0)), (2, .int 0)]) hx hb dJ13_stringSize_95d88_16 rfl hl (by decide) rfl (fun ls hl => ?_)
    refine lv_iconst (v := 1) hx hb dJ13_stringSize_95d88_17 (by decide) ?_
    refine lv_istore (lv' := [(5, .int 1), (3, .long (-10)), (0, .long (-b0)), (2, .int 0)]) hx hb dJ13_stringSize_95d88_18 hl (by decide) rfl (fun ls hl => ?_)
    have hl : lv_has ls 6 [(0, .long (-b0)), (2, .int 0), (3, .long (-10)), (5, .int 1)] := lv_sub hl [2, 3, 1, 0] rfl
    have loop5 : ∀ (n5 : Nat) (xx : Int64) (dd : Int32) (pp : Int64) (ii : Int32) (H : Heap) (locs : List Loc), ((19 : Int32).toInt - ii.toInt).toNat < n5 → v_J13_stringSize_95d88 b0 = wJ13_stringSize_95d88_20 n5 xx dd pp ii → WB g (aw N ad sz) s.heap N ad f H locs → ∀ ls : Array Slot, lv_has ls 6 [(0, .long xx), (2, .int dd), (3, .long pp), (5, .int ii)] → W p l e (rm 0 0 0) s m args below meth c H locs 0 0 (MQ below (va_Qi (fun r (u : WS) => (fun r ad' f' => ad = ad' ∧ (v_J13_stringSize_95d88 b0) = r ∧ f = f') r u.1 u.2) (fun u t => PO g N u.1 u.2 (aw N ad sz) t) (aw N ad sz)) args s (rm 0 0 0).cells (rm 0 0 0).slots (aw N ad sz)) (F0 m 20 ls []) := by
      intro n5
      induction n5 with
      | zero => intro xx dd pp ii H locs hn; exact absurd hn (Nat.not_lt_zero _)
      | succ n5 ih5 =>
        intro xx dd pp ii H locs hn5 he5 B ls hl
        refine lv_iload hx hb dJ13_stringSize_95d88_20 (lv_at hl 3 rfl) ?_
        refine lv_bipush (v := 19) hx hb dJ13_stringSize_95d88_22 (by decide) ?_
        refine lv_icmp_ge (tgt := 50) hx hb dJ13_stringSize_95d88_24 (by decide) (fun c6 => ?_) (fun c6 => ?_)
        · refine lv_bipush (v := 19) hx hb dJ13_stringSize_95d88_50 (by decide) ?_
          refine lv_iload_n hx hb dJ13_stringSize_95d88_52 rfl (lv_at hl 1 rfl) ?_
          refine lv_iadd hx hb dJ13_stringSize_95d88_53 ?_
          have ev := (show v_J13_stringSize_95d88 b0 = 19 + dd from he5.trans (by rw [wJ13_stringSize_95d88_20, if_pos c6]))
          exact rt_i X hr (ad, f) B (PO_of B) ⟨rfl, by rw [ev], rfl⟩ rfl (Nat.le_of_ble_eq_true rfl) (Nat.le_of_ble_eq_true rfl) dJ13_stringSize_95d88_54
        · refine lv_lload_n hx hb dJ13_stringSize_95d88_27 rfl (lv_at hl 0 rfl) ?_
          refine lv_lload_n hx hb dJ13_stringSize_95d88_28 rfl (lv_at hl 2 rfl) ?_
          refine W.lcmp hx hb dJ13_stringSize_95d88_29 ?_
          refine lv_if_le (tgt := 38) hx hb dJ13_stringSize_95d88_30 (by decide) (fun c7 => ?_) (fun c7 => ?_)
          · refine lv_ldc2 hx hb hown (hts _ (List.mem_cons_of_mem _ lk_J13_53)) dJ13_stringSize_95d88_38 ?_
            refine lv_lload_n hx hb dJ13_stringSize_95d88_41 rfl (lv_at hl 2 rfl) ?_
            refine lv_lmul hx hb dJ13_stringSize_95d88_42 ?_
            refine lv_lstore_n (lv' := [(3, .long (10 * pp)), (0, .long xx), (2, .int dd), (5, .int ii)]) hx hb dJ13_stringSize_95d88_43 rfl hl (by decide) rfl (fun ls hl => ?_)
            refine lv_iinc (v := ii + 1) (lv' := [(5, .int (ii + 1)), (3, .long (10 * pp)), (0, .long xx), (2, .int dd)]) hx hb dJ13_stringSize_95d88_44 hl (k := 3) rfl rfl (by decide) rfl (fun ls hl => ?_)
            refine lv_goto (tgt := 20) hx hb dJ13_stringSize_95d88_47 (by decide) ?_
            exact ih5 xx dd (10 * pp) (ii + 1) H locs (fu_le c6 hn5) (show v_J13_stringSize_95d88 b0 = wJ13_stringSize_95d88_20 n5 xx dd (10 * pp) (ii + 1) from he5.trans (by rw [wJ13_stringSize_95d88_20, if_neg c6, if_pos c7])) B ls (lv_sub hl [2, 3, 1, 0] rfl)
          · refine lv_iload hx hb dJ13_stringSize_95d88_33 (lv_at hl 3 rfl) ?_
            refine lv_iload_n hx hb dJ13_stringSize_95d88_35 rfl (lv_at hl 1 rfl) ?_
            refine lv_iadd hx hb dJ13_stringSize_95d88_36 ?_
            have ev := (show v_J13_stringSize_95d88 b0 = ii + dd from he5.trans (by rw [wJ13_stringSize_95d88_20, if_neg c6, if_neg c7]))
            exact rt_i X hr (ad, f) B (PO_of B) ⟨rfl, by rw [ev], rfl⟩ rfl (Nat.le_of_ble_eq_true rfl) (Nat.le_of_ble_eq_true rfl) dJ13_stringSize_95d88_37
    exact loop5 (18 + 1) (-b0) 0 (-10) 1 H locs (by decide) (show v_J13_stringSize_95d88 b0 = wJ13_stringSize_95d88_20 (18 + 1) (-b0) 0 (-10) 1 from by unfold v_J13_stringSize_95d88; rw [if_neg c1]) B ls hl
end
