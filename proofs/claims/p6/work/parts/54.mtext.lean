set_option maxHeartbeats 4000000 in
set_option maxRecDepth 100000 in
theorem c_X4_piledNowN (l : Launch) (g : GG) (N : Nat) (ad : Nat → Nat) (y : Nat → va_E) (cr dr : Nat → TR) (th kn rf : Int32) (pl : Nat → TR) (pz : Nat) (mc : Int32) (hN : 36 + pz ≤ N) (b0 : Nat) (hb0 : ad 24 = b0) (a1 : Int32) (hz : pz ≤ 9) (hin : v_X4_isIn a1.toInt64 0 (((Int32.ofNat (pz - 1)) - 1).toInt64) = 0) : KR l yX4_piledNow cX4_piledNow 2 (.object "java/lang/String") (rm 1 0 0) g [.ref b0, .int a1] N ad (mg g ad y cr dr th kn rf pl pz mc) N (fun r ad' f' => ad = ad' ∧ some (g.2.2 (100 + 10)) = r ∧ mg g ad y cr dr th kn rf pl pz mc = f') := by
  intro sz
  refine mt_start (by decide) (Nat.le_of_ble_eq_true rfl) ?_
  intro p e s m args below meth c hsz X hr hnam hA hK hT H locs B ls hl
  obtain ⟨hx, hb, hml, hown, hts, hlocks⟩ := id X
  have hl : lv_has ls 2 [(0, .ref b0), (1, .int a1)] := hl
  refine lv_iload_n hx hb dX4_piledNow_0 rfl (lv_at hl 1 rfl) ?_
  refine lv_i2l (v := a1.toInt64) hx hb dX4_piledNow_1 rfl ?_
  refine lv_lconst (v := 0) hx hb dX4_piledNow_2 (by decide) ?_
  refine lv_aload_n hx hb dX4_piledNow_3 rfl (lv_at hl 0 rfl) ?_
  refine b_get (q := 24) (k := 2) hb0 X hK B rfl in_X4 (by omega) mg_24 (by decide) lk_X4_17 rfl rfl dX4_piledNow_4 ?_
  refine k_i (k := 0) (n := 0) hA B (b_V (q := 27) (rest := [.long 0, .long a1.toInt64]) rfl X (c_L_size l g N ad (mg g ad y cr dr th kn rf pl pz mc) 27 (ad 27) (by omega) rfl mc (Int32.ofNat (pz - 1)) _ mg_27 H.size) mw_Jx4a65c_size_8abf5 md_Jx4a65c_size_8abf5 rfl lk_X4_128 ⟨Nat.le_of_ble_eq_true rfl, Nat.le_of_ble_eq_true rfl⟩ hA hK hT B (by omega) mg_27 rfl rfl hl.1 rfl (Nat.le_of_ble_eq_true rfl) dX4_piledNow_7 ⟨Nat.le_of_ble_eq_true rfl, Nat.le_of_ble_eq_true rfl⟩) (Nat.le_of_ble_eq_true rfl) (Nat.le_of_ble_eq_true rfl) (fun r ad' f' H locs hw B => ?_)
  obtain ⟨rfl, rfl, rfl⟩ := hw
  refine lv_iconst (v := 1) hx hb dX4_piledNow_10 (by decide) ?_
  refine lv_isub hx hb dX4_piledNow_11 ?_
  refine lv_i2l (v := ((Int32.ofNat (pz - 1)) - 1).toInt64) hx hb dX4_piledNow_12 rfl ?_
  refine k_i (k := 0) (n := 0) hA B (u_S (rest := []) X (c_X4_isIn l g N ad (mg g ad y cr dr th kn rf pl pz mc) a1.toInt64 0 (((Int32.ofNat (pz - 1)) - 1).toInt64) H.size) mw_X4_isIn md_X4_isIn rfl lk_X4_37 ⟨Nat.le_of_ble_eq_true rfl, Nat.le_of_ble_eq_true rfl⟩ hA hK hT B hl.1 rfl (Nat.le_of_ble_eq_true rfl) dX4_piledNow_13 ⟨Nat.le_of_ble_eq_true rfl, Nat.le_of_ble_eq_true rfl⟩) (Nat.le_of_ble_eq_true rfl) (Nat.le_of_ble_eq_true rfl) (fun r1 ad1 f' H locs hw B => ?_)
  obtain ⟨rfl, rfl, rfl⟩ := hw
  refine lv_if_eq (tgt := 36) hx hb dX4_piledNow_16 (by decide) (fun _ => ?_) (fun z => absurd hin z)
  refine b_ldc (i := 10) (by decide) rfl rfl X hT dX4_piledNow_36 ?_
  exact rt_r (r := some (g.2.2 (100 + 10))) rfl X hr (Or.inl ⟨_, rfl⟩) (ad, mg g ad y cr dr th kn rf pl pz mc) B (PO_of B) ⟨rfl, rfl, rfl⟩ (Nat.le_of_ble_eq_true rfl) (Nat.le_of_ble_eq_true rfl) dX4_piledNow_38
set_option maxHeartbeats 4000000 in
set_option maxRecDepth 100000 in
theorem c_X4_piledNowY (l : Launch) (g : GG) (N : Nat) (ad : Nat → Nat) (y : Nat → va_E) (cr dr : Nat → TR) (th kn rf : Int32) (pl : Nat → TR) (pz : Nat) (mc : Int32) (hN : 36 + pz ≤ N) (b0 : Nat) (hb0 : ad 24 = b0) (a1 : Int32) (hz : pz ≤ 9) (hin : ¬ v_X4_isIn a1.toInt64 0 (((Int32.ofNat (pz - 1)) - 1).toInt64) = 0) : KR l yX4_piledNow cX4_piledNow 2 (.object "java/lang/String") (rm 7 6 166) g [.ref b0, .int a1] N ad (mg g ad y cr dr th kn rf pl pz mc) (N + 1 + 1) (fun r ad' f' => ∃ (a a2 : Nat) (h' : Nat → Int32), sb_Fit h' ∧ some a = r ∧ va_up (va_up ad N a) (N + 1) a2 = ad' ∧ mg g ad' (va_up (va_up y N (c_st a2)) (N + 1) (c_ba g (tlen (pl a1.toNatClampNeg)) h')) cr dr th kn rf pl pz mc = f') := by
  intro sz
  refine mt_start (by decide) (Nat.le_of_ble_eq_true rfl) ?_
  intro p e s m args below meth c hsz X hr hnam hA hK hT H locs B ls hl
  obtain ⟨hx, hb, hml, hown, hts, hlocks⟩ := id X
  have hl : lv_has ls 2 [(0, .ref b0), (1, .int a1)] := hl
  refine lv_iload_n hx hb dX4_piledNow_0 rfl (lv_at hl 1 rfl) ?_
  refine lv_i2l (v := a1.toInt64) hx hb dX4_piledNow_1 rfl ?_
  refine lv_lconst (v := 0) hx hb dX4_piledNow_2 (by decide) ?_
  refine lv_aload_n hx hb dX4_piledNow_3 rfl (lv_at hl 0 rfl) ?_
  refine b_get (q := 24) (k := 2) hb0 X hK B rfl in_X4 (by omega) mg_24 (by decide) lk_X4_17 rfl rfl dX4_piledNow_4 ?_
  refine k_i (k := 0) (n := 0) hA B (b_V (q := 27) (rest := [.long 0, .long a1.toInt64]) rfl X (c_L_size l g N ad (mg g ad y cr dr th kn rf pl pz mc) 27 (ad 27) (by omega) rfl mc (Int32.ofNat (pz - 1)) _ mg_27 H.size) mw_Jx4a65c_size_8abf5 md_Jx4a65c_size_8abf5 rfl lk_X4_128 ⟨Nat.le_of_ble_eq_true rfl, Nat.le_of_ble_eq_true rfl⟩ hA hK hT B (by omega) mg_27 rfl rfl hl.1 rfl (Nat.le_of_ble_eq_true rfl) dX4_piledNow_7 ⟨Nat.le_of_ble_eq_true rfl, Nat.le_of_ble_eq_true rfl⟩) (Nat.le_of_ble_eq_true rfl) (Nat.le_of_ble_eq_true rfl) (fun r ad' f' H locs hw B => ?_)
  obtain ⟨rfl, rfl, rfl⟩ := hw
  refine lv_iconst (v := 1) hx hb dX4_piledNow_10 (by decide) ?_
  refine lv_isub hx hb dX4_piledNow_11 ?_
  refine lv_i2l (v := ((Int32.ofNat (pz - 1)) - 1).toInt64) hx hb dX4_piledNow_12 rfl ?_
  refine k_i (k := 0) (n := 0) hA B (u_S (rest := []) X (c_X4_isIn l g N ad (mg g ad y cr dr th kn rf pl pz mc) a1.toInt64 0 (((Int32.ofNat (pz - 1)) - 1).toInt64) H.size) mw_X4_isIn md_X4_isIn rfl lk_X4_37 ⟨Nat.le_of_ble_eq_true rfl, Nat.le_of_ble_eq_true rfl⟩ hA hK hT B hl.1 rfl (Nat.le_of_ble_eq_true rfl) dX4_piledNow_13 ⟨Nat.le_of_ble_eq_true rfl, Nat.le_of_ble_eq_true rfl⟩) (Nat.le_of_ble_eq_true rfl) (Nat.le_of_ble_eq_true rfl) (fun r1 ad1 f' H locs hw B => ?_)
  obtain ⟨rfl, rfl, rfl⟩ := hw
  refine lv_if_eq (tgt := 36) hx hb dX4_piledNow_16 (by decide) (fun z => absurd z hin) (fun _ => ?_)
  refine lv_aload_n hx hb dX4_piledNow_19 rfl (lv_at hl 0 rfl) ?_
  refine b_get (q := 24) (k := 2) hb0 X hK B rfl in_X4 (by omega) mg_24 (by decide) lk_X4_17 rfl rfl dX4_piledNow_20 ?_
  refine lv_iload_n hx hb dX4_piledNow_23 rfl (lv_at hl 1 rfl) ?_
  have g2 : a1.toNatClampNeg + 1 < pz := pl_ix hz (isin_lo hin) (isin_hi hz hin)
  refine k_r (k := 0) (n := 0) hA B (b_V (q := 27) (rest := []) rfl X (c_L_get l g N ad (mg g ad y cr dr th kn rf pl pz mc) 27 (ad 27) (by omega) rfl mc (Int32.ofNat (pz - 1)) (ad 36) (mg_27p (by omega)) 36 10 (fun j => if j + 1 < pz then some (ad (37 + j)) else none) (by omega) rfl (mg_ed (by omega)) (by decide) a1 (ad (37 + a1.toNatClampNeg)) (pl_in hz (isin_lo hin) g2) (if_pos g2) (isin_lo hin) (Int32.not_le.mp (isin_hi hz hin)) H.size) mw_Jx4a65c_get_915e3 md_Jx4a65c_get_915e3 rfl lk_X4_143 ⟨Nat.le_of_ble_eq_true rfl, Nat.le_of_ble_eq_true rfl⟩ hA hK hT B (by omega) (mg_27p (by omega)) rfl rfl hl.1 rfl (Nat.le_of_ble_eq_true rfl) dX4_piledNow_24 ⟨Nat.le_of_ble_eq_true rfl, Nat.le_of_ble_eq_true rfl⟩) (Nat.le_of_ble_eq_true rfl) (Nat.le_of_ble_eq_true rfl) (fun r ad' f' H locs hw B => ?_)
  obtain ⟨rfl, rfl, rfl⟩ := hw
  refine b_castR (q := (37 + a1.toNatClampNeg)) rfl X hK B (pl_pl hN g2) (mg_pl g2) lk_X4_21 dX4_piledNow_27 ?_
  refine k_r (k := 6) (n := 166) hA B (u_S (rest := []) X (c_W_told l g N ad (mg g ad y cr dr th kn rf pl pz mc) (37 + a1.toNatClampNeg) (ad (37 + a1.toNatClampNeg)) (pl a1.toNatClampNeg) (pl_pl hN g2) rfl (mg_pl g2) H.size) mw_X4_told md_X4_told rfl lk_X4_145 ⟨Nat.le_of_ble_eq_true rfl, Nat.le_of_ble_eq_true rfl⟩ hA hK hT B hl.1 rfl (Nat.le_of_ble_eq_true rfl) dX4_piledNow_30 ⟨Nat.le_of_ble_eq_true rfl, Nat.le_of_ble_eq_true rfl⟩) (Nat.le_of_ble_eq_true rfl) (Nat.le_of_ble_eq_true rfl) (fun r ad' f' H locs hw B => ?_)
  obtain ⟨a3, a3x, h3, hF3, rfl, rfl, rfl⟩ := hw
  have B : WB g (aw N ad sz) s.heap (N + 1 + 1) (va_up (va_up ad N a3) (N + 1) a3x) (mg g (va_up (va_up ad N a3) (N + 1) a3x) (va_up (va_up y N (c_st a3x)) (N + 1) (c_ba g (tlen (pl a1.toNatClampNeg)) h3)) cr dr th kn rf pl pz mc) H locs := WM_push2 (by omega) B
  refine lv_goto (tgt := 38) hx hb dX4_piledNow_33 (by decide) ?_
  have B : WB g (aw N ad sz) s.heap (N + 1 + 1) (va_up (va_up ad N a3) (N + 1) a3x) (mg g (va_up (va_up ad N a3) (N + 1) a3x) (va_up (va_up y N (c_st a3x)) (N + 1) (c_ba g (tlen (pl a1.toNatClampNeg)) h3)) cr dr th kn rf pl pz mc) H locs := WM_pick2 (q := N) (ad := ad) (y := y) B (by omega) (by omega) (by omega) (fun _ hk => ((up_lt (Nat.lt_succ_of_lt hk)).trans (up_lt hk))) (fun _ hk => ((up_lt (Nat.lt_succ_of_lt hk)).trans (up_lt hk))) ((up_lt (by omega)).trans up_eq) up_eq ((up_lt (by omega)).trans up_eq) up_eq
  exact rt_r (r := some (a3)) rfl X hr (Or.inl ⟨_, rfl⟩) ((va_up (va_up ad N a3) (N + 1) a3x), mg g (va_up (va_up ad N a3) (N + 1) a3x) (va_up (va_up y N (c_st a3x)) (N + 1) (c_ba g (tlen (pl a1.toNatClampNeg)) h3)) cr dr th kn rf pl pz mc) B (PO_of B) ⟨_, _, _, hF3, rfl, rfl, rfl⟩ (Nat.le_of_ble_eq_true rfl) (Nat.le_of_ble_eq_true rfl) dX4_piledNow_38
set_option maxHeartbeats 4000000 in
set_option maxRecDepth 100000 in
theorem c_X4_movedNowN (l : Launch) (g : GG) (N : Nat) (ad : Nat → Nat) (y : Nat → va_E) (cr dr : Nat → TR) (th kn rf : Int32) (pl : Nat → TR) (pz : Nat) (mc : Int32) (hN : 36 + pz ≤ N) (b0 : Nat) (hb0 : ad 24 = b0) (a1 : Int32) (a2 : Int32) (a3 : Int32) (hza1 : v_X4_isNone a1 = 0) (hza2 : v_X4_isNone a2 = 0) (hdr : ∀ i, i < 4 → okd (dr i)) (hon : v_X4_onBy (dr a1.toNatClampNeg) (cr a2.toNatClampNeg) (msg a3) = none) : KR l yX4_movedNow cX4_movedNow 4 (.object "java/lang/String") (rm 4 2 6) g [.ref b0, .int a1, .int a2, .int a3] N ad (mg g ad y cr dr th kn rf pl pz mc) N (fun r ad' f' => ad = ad' ∧ some (g.2.2 (100 + 10)) = r ∧ mg g ad y cr dr th kn rf pl pz mc = f') := by
  intro sz
  refine mt_start (by decide) (Nat.le_of_ble_eq_true rfl) ?_
  intro p e s m args below meth c hsz X hr hnam hA hK hT H locs B ls hl
  obtain ⟨hx, hb, hml, hown, hts, hlocks⟩ := id X
  have hl : lv_has ls 4 [(0, .ref b0), (1, .int a1), (2, .int a2), (3, .int a3)] := hl
  refine lv_aload_n hx hb dX4_movedNow_0 rfl (lv_at hl 0 rfl) ?_
  refine b_get (q := 24) (k := 3) hb0 X hK B rfl in_X4 (by omega) mg_24 (by decide) lk_X4_23 rfl rfl dX4_movedNow_1 ?_
  refine lv_iload_n hx hb dX4_movedNow_4 rfl (lv_at hl 1 rfl) ?_
  refine b_aald (q := 26) (t0 := 2) (v := ad (32 + a1.toNatClampNeg)) rfl X hK B (by omega) mg_26 rfl rfl (no_in hza1) rfl dX4_movedNow_5 ?_
  have g1 : a1.toNatClampNeg < 4 := (no_lt hza1)
  refine lv_aload_n hx hb dX4_movedNow_6 rfl (lv_at hl 0 rfl) ?_
  refine b_get (q := 24) (k := 1) hb0 X hK B rfl in_X4 (by omega) mg_24 (by decide) lk_X4_11 rfl rfl dX4_movedNow_7 ?_
  refine lv_iload_n hx hb dX4_movedNow_10 rfl (lv_at hl 2 rfl) ?_
  refine b_aald (q := 25) (t0 := 2) (v := ad (28 + a2.toNatClampNeg)) rfl X hK B (by omega) mg_25 rfl rfl (no_in hza2) rfl dX4_movedNow_11 ?_
  have g2 : a2.toNatClampNeg < 4 := (no_lt hza2)
  refine lv_iload_n hx hb dX4_movedNow_12 rfl (lv_at hl 3 rfl) ?_
  refine lv_if_eq (tgt := 20) hx hb dX4_movedNow_13 (by decide) (fun c3 => ?_) (fun c3 => ?_)
  · refine lv_iconst (v := 1) hx hb dX4_movedNow_20 (by decide) ?_
    have honk : v_X4_onBy (dr a1.toNatClampNeg) (cr a2.toNatClampNeg) 1 = none := by have z := hon; rw [show msg a3 = 1 from if_pos c3] at z; exact z
    refine k_r (k := 2) (n := 6) hA B (u_S (rest := []) X (c_X4_onBy l g N ad (mg g ad y cr dr th kn rf pl pz mc) (32 + a1.toNatClampNeg) (ad (32 + a1.toNatClampNeg)) (dr a1.toNatClampNeg) (pl_dr hN g1) rfl (mg_dr g1) (28 + a2.toNatClampNeg) (ad (28 + a2.toNatClampNeg)) (cr a2.toNatClampNeg) (pl_cr hN g2) rfl (mg_cr g2) 1 H.size) mw_X4_onBy md_X4_onBy rfl lk_X4_215 ⟨Nat.le_of_ble_eq_true rfl, Nat.le_of_ble_eq_true rfl⟩ hA hK hT B hl.1 rfl (Nat.le_of_ble_eq_true rfl) dX4_movedNow_21 ⟨Nat.le_of_ble_eq_true rfl, Nat.le_of_ble_eq_true rfl⟩) (Nat.le_of_ble_eq_true rfl) (Nat.le_of_ble_eq_true rfl) (fun r4 ad4 f' H locs hw B => ?_)
    rw [honk] at hw B
    obtain ⟨rfl, rfl, rfl⟩ := pw_n hw
    refine k_r (k := 2) (n := 6) hA B (u_S (rest := []) X (c_W_dateN l g N ad (mg g ad y cr dr th kn rf pl pz mc) H.size) mw_X4_dateTold md_X4_dateTold rfl lk_X4_232 ⟨Nat.le_of_ble_eq_true rfl, Nat.le_of_ble_eq_true rfl⟩ hA hK hT B hl.1 rfl (Nat.le_of_ble_eq_true rfl) dX4_movedNow_24 ⟨Nat.le_of_ble_eq_true rfl, Nat.le_of_ble_eq_true rfl⟩) (Nat.le_of_ble_eq_true rfl) (Nat.le_of_ble_eq_true rfl) (fun r ad' f' H locs hw B => ?_)
    obtain ⟨rfl, rfl, rfl⟩ := hw
    exact rt_r (r := some (g.2.2 (100 + 10))) rfl X hr (Or.inl ⟨_, rfl⟩) (ad, mg g ad y cr dr th kn rf pl pz mc) B (PO_of B) ⟨rfl, rfl, rfl⟩ (Nat.le_of_ble_eq_true rfl) (Nat.le_of_ble_eq_true rfl) dX4_movedNow_27
  · refine lv_iconst (v := (-1)) hx hb dX4_movedNow_16 (by decide) ?_
    refine lv_goto (tgt := 21) hx hb dX4_movedNow_17 (by decide) ?_
    have honk : v_X4_onBy (dr a1.toNatClampNeg) (cr a2.toNatClampNeg) (-1) = none := by have z := hon; rw [show msg a3 = (-1) from if_neg c3] at z; exact z
    refine k_r (k := 2) (n := 6) hA B (u_S (rest := []) X (c_X4_onBy l g N ad (mg g ad y cr dr th kn rf pl pz mc) (32 + a1.toNatClampNeg) (ad (32 + a1.toNatClampNeg)) (dr a1.toNatClampNeg) (pl_dr hN g1) rfl (mg_dr g1) (28 + a2.toNatClampNeg) (ad (28 + a2.toNatClampNeg)) (cr a2.toNatClampNeg) (pl_cr hN g2) rfl (mg_cr g2) (-1) H.size) mw_X4_onBy md_X4_onBy rfl lk_X4_215 ⟨Nat.le_of_ble_eq_true rfl, Nat.le_of_ble_eq_true rfl⟩ hA hK hT B hl.1 rfl (Nat.le_of_ble_eq_true rfl) dX4_movedNow_21 ⟨Nat.le_of_ble_eq_true rfl, Nat.le_of_ble_eq_true rfl⟩) (Nat.le_of_ble_eq_true rfl) (Nat.le_of_ble_eq_true rfl) (fun r6 ad6 f' H locs hw B => ?_)
    rw [honk] at hw B
    obtain ⟨rfl, rfl, rfl⟩ := pw_n hw
    refine k_r (k := 2) (n := 6) hA B (u_S (rest := []) X (c_W_dateN l g N ad (mg g ad y cr dr th kn rf pl pz mc) H.size) mw_X4_dateTold md_X4_dateTold rfl lk_X4_232 ⟨Nat.le_of_ble_eq_true rfl, Nat.le_of_ble_eq_true rfl⟩ hA hK hT B hl.1 rfl (Nat.le_of_ble_eq_true rfl) dX4_movedNow_24 ⟨Nat.le_of_ble_eq_true rfl, Nat.le_of_ble_eq_true rfl⟩) (Nat.le_of_ble_eq_true rfl) (Nat.le_of_ble_eq_true rfl) (fun r ad' f' H locs hw B => ?_)
    obtain ⟨rfl, rfl, rfl⟩ := hw
    exact rt_r (r := some (g.2.2 (100 + 10))) rfl X hr (Or.inl ⟨_, rfl⟩) (ad, mg g ad y cr dr th kn rf pl pz mc) B (PO_of B) ⟨rfl, rfl, rfl⟩ (Nat.le_of_ble_eq_true rfl) (Nat.le_of_ble_eq_true rfl) dX4_movedNow_27
set_option maxHeartbeats 4000000 in
set_option maxRecDepth 100000 in
theorem c_X4_movedNowY (l : Launch) (g : GG) (N : Nat) (ad : Nat → Nat) (y : Nat → va_E) (cr dr : Nat → TR) (th kn rf : Int32) (pl : Nat → TR) (pz : Nat) (mc : Int32) (hN : 36 + pz ≤ N) (b0 : Nat) (hb0 : ad 24 = b0) (a1 : Int32) (a2 : Int32) (a3 : Int32) (hza1 : v_X4_isNone a1 = 0) (hza2 : v_X4_isNone a2 = 0) (hdr : ∀ i, i < 4 → okd (dr i)) (tq : TR) (hon : v_X4_onBy (dr a1.toNatClampNeg) (cr a2.toNatClampNeg) (msg a3) = some tq) : KR l yX4_movedNow cX4_movedNow 4 (.object "java/lang/String") (rm 7 6 40) g [.ref b0, .int a1, .int a2, .int a3] N ad (mg g ad y cr dr th kn rf pl pz mc) (N + 1 + 1) (fun r ad' f' => ∃ (a a2 : Nat) (h' : Nat → Int32), sb_Fit h' ∧ some a = r ∧ va_up (va_up ad N a) (N + 1) a2 = ad' ∧ mg g ad' (va_up (va_up y N (c_st a2)) (N + 1) (c_ba g (dlen tq) h')) cr dr th kn rf pl pz mc = f') := by
  intro sz
  refine mt_start (by decide) (Nat.le_of_ble_eq_true rfl) ?_
  intro p e s m args below meth c hsz X hr hnam hA hK hT H locs B ls hl
  obtain ⟨hx, hb, hml, hown, hts, hlocks⟩ := id X
  have hl : lv_has ls 4 [(0, .ref b0), (1, .int a1), (2, .int a2), (3, .int a3)] := hl
  refine lv_aload_n hx hb dX4_movedNow_0 rfl (lv_at hl 0 rfl) ?_
  refine b_get (q := 24) (k := 3) hb0 X hK B rfl in_X4 (by omega) mg_24 (by decide) lk_X4_23 rfl rfl dX4_movedNow_1 ?_
  refine lv_iload_n hx hb dX4_movedNow_4 rfl (lv_at hl 1 rfl) ?_
  refine b_aald (q := 26) (t0 := 2) (v := ad (32 + a1.toNatClampNeg)) rfl X hK B (by omega) mg_26 rfl rfl (no_in hza1) rfl dX4_movedNow_5 ?_
  have g1 : a1.toNatClampNeg < 4 := (no_lt hza1)
  refine lv_aload_n hx hb dX4_movedNow_6 rfl (lv_at hl 0 rfl) ?_
  refine b_get (q := 24) (k := 1) hb0 X hK B rfl in_X4 (by omega) mg_24 (by decide) lk_X4_11 rfl rfl dX4_movedNow_7 ?_
  refine lv_iload_n hx hb dX4_movedNow_10 rfl (lv_at hl 2 rfl) ?_
  refine b_aald (q := 25) (t0 := 2) (v := ad (28 + a2.toNatClampNeg)) rfl X hK B (by omega) mg_25 rfl rfl (no_in hza2) rfl dX4_movedNow_11 ?_
  have g2 : a2.toNatClampNeg < 4 := (no_lt hza2)
  refine lv_iload_n hx hb dX4_movedNow_12 rfl (lv_at hl 3 rfl) ?_
  refine lv_if_eq (tgt := 20) hx hb dX4_movedNow_13 (by decide) (fun c3 => ?_) (fun c3 => ?_)
  · refine lv_iconst (v := 1) hx hb dX4_movedNow_20 (by decide) ?_
    have honk : v_X4_onBy (dr a1.toNatClampNeg) (cr a2.toNatClampNeg) 1 = some tq := by have z := hon; rw [show msg a3 = 1 from if_pos c3] at z; exact z
    refine k_r (k := 2) (n := 6) hA B (u_S (rest := []) X (c_X4_onBy l g N ad (mg g ad y cr dr th kn rf pl pz mc) (32 + a1.toNatClampNeg) (ad (32 + a1.toNatClampNeg)) (dr a1.toNatClampNeg) (pl_dr hN g1) rfl (mg_dr g1) (28 + a2.toNatClampNeg) (ad (28 + a2.toNatClampNeg)) (cr a2.toNatClampNeg) (pl_cr hN g2) rfl (mg_cr g2) 1 H.size) mw_X4_onBy md_X4_onBy rfl lk_X4_215 ⟨Nat.le_of_ble_eq_true rfl, Nat.le_of_ble_eq_true rfl⟩ hA hK hT B hl.1 rfl (Nat.le_of_ble_eq_true rfl) dX4_movedNow_21 ⟨Nat.le_of_ble_eq_true rfl, Nat.le_of_ble_eq_true rfl⟩) (Nat.le_of_ble_eq_true rfl) (Nat.le_of_ble_eq_true rfl) (fun r4 ad4 f' H locs hw B => ?_)
    rw [honk] at hw B
    obtain ⟨z5, rfl, rfl, rfl⟩ := pw_s hw
    have B : WB g (aw N ad sz) s.heap (N + 1) (va_up ad N z5) (mg g (va_up ad N z5) (va_up y N (c_row g tq)) cr dr th kn rf pl pz mc) H locs := WM_push (by omega) B
    refine k_r (k := 6) (n := 40) hA B (u_S (rest := []) X (c_W_date l g (N + 1) (va_up ad N z5) (mg g (va_up ad N z5) (va_up y N (c_row g tq)) cr dr th kn rf pl pz mc) N z5 tq (Nat.lt_succ_self _) up_eq ((mg_hi (by omega)).trans up_eq) (onBy_okd honk) H.size) mw_X4_dateTold md_X4_dateTold rfl lk_X4_232 ⟨Nat.le_of_ble_eq_true rfl, Nat.le_of_ble_eq_true rfl⟩ hA hK hT B hl.1 rfl (Nat.le_of_ble_eq_true rfl) dX4_movedNow_24 ⟨Nat.le_of_ble_eq_true rfl, Nat.le_of_ble_eq_true rfl⟩) (Nat.le_of_ble_eq_true rfl) (Nat.le_of_ble_eq_true rfl) (fun r ad' f' H locs hw B => ?_)
    obtain ⟨a6, a6x, h6, hF6, rfl, rfl, rfl⟩ := hw
    have B : WB g (aw N ad sz) s.heap (N + 1 + 1 + 1) (va_up (va_up (va_up ad N z5) (N + 1) a6) (N + 1 + 1) a6x) (mg g (va_up (va_up (va_up ad N z5) (N + 1) a6) (N + 1 + 1) a6x) (va_up (va_up (va_up y N (c_row g tq)) (N + 1) (c_st a6x)) (N + 1 + 1) (c_ba g (dlen tq) h6)) cr dr th kn rf pl pz mc) H locs := WM_push2 (by omega) B
    have B : WB g (aw N ad sz) s.heap (N + 1 + 1) (va_up (va_up ad N a6) (N + 1) a6x) (mg g (va_up (va_up ad N a6) (N + 1) a6x) (va_up (va_up y N (c_st a6x)) (N + 1) (c_ba g (dlen tq) h6)) cr dr th kn rf pl pz mc) H locs := WM_pick2 (q := N + 1) (ad := ad) (y := y) B (by omega) (by omega) (by omega) (fun _ hk => ((up_lt (Nat.lt_succ_of_lt (Nat.lt_succ_of_lt hk))).trans ((up_lt (Nat.lt_succ_of_lt hk)).trans (up_lt hk)))) (fun _ hk => ((up_lt (Nat.lt_succ_of_lt (Nat.lt_succ_of_lt hk))).trans ((up_lt (Nat.lt_succ_of_lt hk)).trans (up_lt hk)))) ((up_lt (by omega)).trans up_eq) up_eq ((up_lt (by omega)).trans up_eq) up_eq
    exact rt_r (r := some (a6)) rfl X hr (Or.inl ⟨_, rfl⟩) ((va_up (va_up ad N a6) (N + 1) a6x), mg g (va_up (va_up ad N a6) (N + 1) a6x) (va_up (va_up y N (c_st a6x)) (N + 1) (c_ba g (dlen tq) h6)) cr dr th kn rf pl pz mc) B (PO_of B) ⟨_, _, _, hF6, rfl, rfl, rfl⟩ (Nat.le_of_ble_eq_true rfl) (Nat.le_of_ble_eq_true rfl) dX4_movedNow_27
  · refine lv_iconst (v := (-1)) hx hb dX4_movedNow_16 (by decide) ?_
    refine lv_goto (tgt := 21) hx hb dX4_movedNow_17 (by decide) ?_
    have honk : v_X4_onBy (dr a1.toNatClampNeg) (cr a2.toNatClampNeg) (-1) = some tq := by have z := hon; rw [show msg a3 = (-1) from if_neg c3] at z; exact z
    refine k_r (k := 2) (n := 6) hA B (u_S (rest := []) X (c_X4_onBy l g N ad (mg g ad y cr dr th kn rf pl pz mc) (32 + a1.toNatClampNeg) (ad (32 + a1.toNatClampNeg)) (dr a1.toNatClampNeg) (pl_dr hN g1) rfl (mg_dr g1) (28 + a2.toNatClampNeg) (ad (28 + a2.toNatClampNeg)) (cr a2.toNatClampNeg) (pl_cr hN g2) rfl (mg_cr g2) (-1) H.size) mw_X4_onBy md_X4_onBy rfl lk_X4_215 ⟨Nat.le_of_ble_eq_true rfl, Nat.le_of_ble_eq_true rfl⟩ hA hK hT B hl.1 rfl (Nat.le_of_ble_eq_true rfl) dX4_movedNow_21 ⟨Nat.le_of_ble_eq_true rfl, Nat.le_of_ble_eq_true rfl⟩) (Nat.le_of_ble_eq_true rfl) (Nat.le_of_ble_eq_true rfl) (fun r7 ad7 f' H locs hw B => ?_)
    rw [honk] at hw B
    obtain ⟨z8, rfl, rfl, rfl⟩ := pw_s hw
    have B : WB g (aw N ad sz) s.heap (N + 1) (va_up ad N z8) (mg g (va_up ad N z8) (va_up y N (c_row g tq)) cr dr th kn rf pl pz mc) H locs := WM_push (by omega) B
    refine k_r (k := 6) (n := 40) hA B (u_S (rest := []) X (c_W_date l g (N + 1) (va_up ad N z8) (mg g (va_up ad N z8) (va_up y N (c_row g tq)) cr dr th kn rf pl pz mc) N z8 tq (Nat.lt_succ_self _) up_eq ((mg_hi (by omega)).trans up_eq) (onBy_okd honk) H.size) mw_X4_dateTold md_X4_dateTold rfl lk_X4_232 ⟨Nat.le_of_ble_eq_true rfl, Nat.le_of_ble_eq_true rfl⟩ hA hK hT B hl.1 rfl (Nat.le_of_ble_eq_true rfl) dX4_movedNow_24 ⟨Nat.le_of_ble_eq_true rfl, Nat.le_of_ble_eq_true rfl⟩) (Nat.le_of_ble_eq_true rfl) (Nat.le_of_ble_eq_true rfl) (fun r ad' f' H locs hw B => ?_)
    obtain ⟨a9, a9x, h9, hF9, rfl, rfl, rfl⟩ := hw
    have B : WB g (aw N ad sz) s.heap (N + 1 + 1 + 1) (va_up (va_up (va_up ad N z8) (N + 1) a9) (N + 1 + 1) a9x) (mg g (va_up (va_up (va_up ad N z8) (N + 1) a9) (N + 1 + 1) a9x) (va_up (va_up (va_up y N (c_row g tq)) (N + 1) (c_st a9x)) (N + 1 + 1) (c_ba g (dlen tq) h9)) cr dr th kn rf pl pz mc) H locs := WM_push2 (by omega) B
    have B : WB g (aw N ad sz) s.heap (N + 1 + 1) (va_up (va_up ad N a9) (N + 1) a9x) (mg g (va_up (va_up ad N a9) (N + 1) a9x) (va_up (va_up y N (c_st a9x)) (N + 1) (c_ba g (dlen tq) h9)) cr dr th kn rf pl pz mc) H locs := WM_pick2 (q := N + 1) (ad := ad) (y := y) B (by omega) (by omega) (by omega) (fun _ hk => ((up_lt (Nat.lt_succ_of_lt (Nat.lt_succ_of_lt hk))).trans ((up_lt (Nat.lt_succ_of_lt hk)).trans (up_lt hk)))) (fun _ hk => ((up_lt (Nat.lt_succ_of_lt (Nat.lt_succ_of_lt hk))).trans ((up_lt (Nat.lt_succ_of_lt hk)).trans (up_lt hk)))) ((up_lt (by omega)).trans up_eq) up_eq ((up_lt (by omega)).trans up_eq) up_eq
    exact rt_r (r := some (a9)) rfl X hr (Or.inl ⟨_, rfl⟩) ((va_up (va_up ad N a9) (N + 1) a9x), mg g (va_up (va_up ad N a9) (N + 1) a9x) (va_up (va_up y N (c_st a9x)) (N + 1) (c_ba g (dlen tq) h9)) cr dr th kn rf pl pz mc) B (PO_of B) ⟨_, _, _, hF9, rfl, rfl, rfl⟩ (Nat.le_of_ble_eq_true rfl) (Nat.le_of_ble_eq_true rfl) dX4_movedNow_27
def v_X4_piled (pz : Nat) (a1 : Int32) : Int32 := if (v_X4_isIn a1.toInt64 0 (((Int32.ofNat (pz - 1)) - 1).toInt64)) = 0 then 0 else 0
set_option maxHeartbeats 4000000 in
set_option maxRecDepth 100000 in
theorem c_X4_piled (l : Launch) (g : GG) (N : Nat) (ad : Nat → Nat) (y : Nat → va_E) (cr dr : Nat → TR) (th kn rf : Int32) (pl : Nat → TR) (pz : Nat) (mc : Int32) (hN : 36 + pz ≤ N) (b0 : Nat) (hb0 : ad 24 = b0) (a1 : Int32) (hz : pz ≤ 9) : KR l yX4_piled cX4_piled 2 (.object "java/lang/String") (rm 8 6 166) g [.ref b0, .int a1] N ad (mg g ad y cr dr th kn rf pl pz mc) N (fun r ad' f' => ad = ad' ∧ (∃ a : Nat, some a = r) ∧ mg g ad y cr dr (v_X4_piled pz a1) kn rf pl pz mc = f') := by
  intro sz
  refine mt_start (by decide) (Nat.le_of_ble_eq_true rfl) ?_
  intro p e s m args below meth c hsz X hr hnam hA hK hT H locs B ls hl
  obtain ⟨hx, hb, hml, hown, hts, hlocks⟩ := id X
  have hl : lv_has ls 2 [(0, .ref b0), (1, .int a1)] := hl
  refine lv_aload_n hx hb dX4_piled_0 rfl (lv_at hl 0 rfl) ?_
  refine lv_iconst (v := 0) hx hb dX4_piled_1 (by decide) ?_
  refine b_put (q := 24) (k := 0) hb0 X hK B rfl in_X4 tyX4_ok nmX4 (by omega) mg_24 (by decide) lk_X4_26 rfl rfl rfl rfl rfl (Nat.le_of_ble_eq_true rfl) dX4_piled_2 (fun H locs B => ?_)
  have B : WB g (aw N ad sz) s.heap N ad (mg g ad y cr dr 0 kn rf pl pz mc) H locs := by rw [← mg_up_md]; exact B
  refine lv_aload_n hx hb dX4_piled_5 rfl (lv_at hl 0 rfl) ?_
  refine lv_iload_n hx hb dX4_piled_6 rfl (lv_at hl 1 rfl) ?_
  by_cases sn1 : (v_X4_isIn a1.toInt64 0 (((Int32.ofNat (pz - 1)) - 1).toInt64)) = 0
  · refine k_r (k := 0) (n := 0) hA B (b_V (q := 24) (rest := []) hb0 X (c_X4_piledNowN l g N ad y cr dr 0 kn rf pl pz mc (by omega) b0 hb0 a1 hz sn1 H.size) mw_X4_piledNow md_X4_piledNow rfl lk_X4_149 ⟨Nat.le_of_ble_eq_true rfl, Nat.le_of_ble_eq_true rfl⟩ hA hK hT B (by omega) mg_24 rfl rfl hl.1 rfl (Nat.le_of_ble_eq_true rfl) dX4_piled_7 ⟨Nat.le_of_ble_eq_true rfl, Nat.le_of_ble_eq_true rfl⟩) (Nat.le_of_ble_eq_true rfl) (Nat.le_of_ble_eq_true rfl) (fun r ad' f' H locs hw B => ?_)
    obtain ⟨rfl, rfl, rfl⟩ := hw
    have ev := (show v_X4_piled pz a1 = 0 from by unfold v_X4_piled; rw [if_pos sn1])
    exact rt_r (r := some (g.2.2 (100 + 10))) rfl X hr (Or.inl ⟨_, rfl⟩) (ad, mg g ad y cr dr 0 kn rf pl pz mc) B (PO_of B) ⟨rfl, ⟨_, rfl⟩, by rw [ev]⟩ (Nat.le_of_ble_eq_true rfl) (Nat.le_of_ble_eq_true rfl) dX4_piled_10
  · refine k_r (k := 6) (n := 166) hA B (b_V (q := 24) (rest := []) hb0 X (c_X4_piledNowY l g N ad y cr dr 0 kn rf pl pz mc (by omega) b0 hb0 a1 hz sn1 H.size) mw_X4_piledNow md_X4_piledNow rfl lk_X4_149 ⟨Nat.le_of_ble_eq_true rfl, Nat.le_of_ble_eq_true rfl⟩ hA hK hT B (by omega) mg_24 rfl rfl hl.1 rfl (Nat.le_of_ble_eq_true rfl) dX4_piled_7 ⟨Nat.le_of_ble_eq_true rfl, Nat.le_of_ble_eq_true rfl⟩) (Nat.le_of_ble_eq_true rfl) (Nat.le_of_ble_eq_true rfl) (fun r ad' f' H locs hw B => ?_)
    dsimp only at hw
    obtain ⟨a2, a2x, h2, hF2, rfl, rfl, rfl⟩ := hw
    have B : WB g (aw N ad sz) s.heap (N + 1 + 1) (va_up (va_up ad N a2) (N + 1) a2x) (mg g (va_up (va_up ad N a2) (N + 1) a2x) (va_up (va_up y N (c_st a2x)) (N + 1) (c_ba g (tlen (pl a1.toNatClampNeg)) h2)) cr dr 0 kn rf pl pz mc) H locs := B
    have B : WB g (aw N ad sz) s.heap N ad (mg g ad y cr dr 0 kn rf pl pz mc) H locs := WM_drop B (by omega) (by omega) (fun _ hk => ((up_lt (Nat.lt_succ_of_lt hk)).trans (up_lt hk))) (fun _ hk => ((up_lt (Nat.lt_succ_of_lt hk)).trans (up_lt hk)))
    have ev := (show v_X4_piled pz a1 = 0 from by unfold v_X4_piled; rw [if_neg sn1])
    exact rt_r (r := some (a2)) rfl X hr (Or.inl ⟨_, rfl⟩) (ad, mg g ad y cr dr 0 kn rf pl pz mc) B (PO_of B) ⟨rfl, ⟨_, rfl⟩, by rw [ev]⟩ (Nat.le_of_ble_eq_true rfl) (Nat.le_of_ble_eq_true rfl) dX4_piled_10
def v_X4_text (a1 : Int32) : Int32 := if v_X4_isNone a1 = 0 then 0 else 1
set_option maxHeartbeats 4000000 in
set_option maxRecDepth 100000 in
theorem c_X4_text (l : Launch) (g : GG) (N : Nat) (ad : Nat → Nat) (y : Nat → va_E) (cr dr : Nat → TR) (th kn rf : Int32) (pl : Nat → TR) (pz : Nat) (mc : Int32) (hN : 36 + pz ≤ N) (b0 : Nat) (hb0 : ad 24 = b0) (a1 : Int32) : KR l yX4_text cX4_text 2 (.object "java/lang/String") (rm 7 6 166) g [.ref b0, .int a1] N ad (mg g ad y cr dr th kn rf pl pz mc) N (fun r ad' f' => ad = ad' ∧ (∃ a : Nat, some a = r) ∧ mg g ad y cr dr (v_X4_text a1) kn rf pl pz mc = f') := by
  intro sz
  refine mt_start (by decide) (Nat.le_of_ble_eq_true rfl) ?_
  intro p e s m args below meth c hsz X hr hnam hA hK hT H locs B ls hl
  obtain ⟨hx, hb, hml, hown, hts, hlocks⟩ := id X
  have hl : lv_has ls 2 [(0, .ref b0), (1, .int a1)] := hl
  refine lv_aload_n hx hb dX4_text_0 rfl (lv_at hl 0 rfl) ?_
  refine lv_iload_n hx hb dX4_text_1 rfl (lv_at hl 1 rfl) ?_
  refine k_i (k := 0) (n := 0) hA B (u_S (rest := [.ref b0]) X (c_X4_isNone l g N ad (mg g ad y cr dr th kn rf pl pz mc) a1 H.size) mw_X4_isNone md_X4_isNone rfl lk_X4_95 ⟨Nat.le_of_ble_eq_true rfl, Nat.le_of_ble_eq_true rfl⟩ hA hK hT B hl.1 rfl (Nat.le_of_ble_eq_true rfl) dX4_text_2 ⟨Nat.le_of_ble_eq_true rfl, Nat.le_of_ble_eq_true rfl⟩) (Nat.le_of_ble_eq_true rfl) (Nat.le_of_ble_eq_true rfl) (fun r1 ad1 f' H locs hw B => ?_)
  obtain ⟨rfl, rfl, rfl⟩ := hw
  refine lv_iconst (v := 0) hx hb dX4_text_5 (by decide) ?_
  by_cases s2 : v_X4_isNone a1 = 0
  · rw [s2]
    refine k_i (k := 0) (n := 0) hA B (b_V (q := 24) (rest := []) hb0 X (c_X4_stops l g N ad y cr dr th kn rf pl pz mc (by omega) b0 hb0 0 0 H.size) mw_X4_stops md_X4_stops rfl lk_X4_99 ⟨Nat.le_of_ble_eq_true rfl, Nat.le_of_ble_eq_true rfl⟩ hA hK hT B (by omega) mg_24 rfl rfl hl.1 rfl (Nat.le_of_ble_eq_true rfl) dX4_text_6 ⟨Nat.le_of_ble_eq_true rfl, Nat.le_of_ble_eq_true rfl⟩) (Nat.le_of_ble_eq_true rfl) (Nat.le_of_ble_eq_true rfl) (fun r ad' f' H locs hw B => ?_)
    rw [st_00] at hw
    dsimp only at hw
    obtain ⟨rfl, rfl, rfl⟩ := hw
    have B : WB g (aw N ad sz) s.heap N ad (mg g ad y cr dr 0 kn rf pl pz mc) H locs := B
    refine lv_if_eq (tgt := 17) hx hb dX4_text_9 (by decide) (fun _ => ?_) (fun z => absurd z (by decide))
    refine lv_aload_n hx hb dX4_text_17 rfl (lv_at hl 0 rfl) ?_
    refine b_get (q := 24) (k := 1) hb0 X hK B rfl in_X4 (by omega) mg_24 (by decide) lk_X4_11 rfl rfl dX4_text_18 ?_
    refine lv_iload_n hx hb dX4_text_21 rfl (lv_at hl 1 rfl) ?_
    refine b_aald (q := 25) (t0 := 2) (v := ad (28 + a1.toNatClampNeg)) rfl X hK B (by omega) mg_25 rfl rfl (no_in s2) rfl dX4_text_22 ?_
    have g3 : a1.toNatClampNeg < 4 := (no_lt s2)
    refine k_r (k := 6) (n := 166) hA B (u_S (rest := []) X (c_W_told l g N ad (mg g ad y cr dr 0 kn rf pl pz mc) (28 + a1.toNatClampNeg) (ad (28 + a1.toNatClampNeg)) (cr a1.toNatClampNeg) (pl_cr hN g3) rfl (mg_cr g3) H.size) mw_X4_told md_X4_told rfl lk_X4_145 ⟨Nat.le_of_ble_eq_true rfl, Nat.le_of_ble_eq_true rfl⟩ hA hK hT B hl.1 rfl (Nat.le_of_ble_eq_true rfl) dX4_text_23 ⟨Nat.le_of_ble_eq_true rfl, Nat.le_of_ble_eq_true rfl⟩) (Nat.le_of_ble_eq_true rfl) (Nat.le_of_ble_eq_true rfl) (fun r ad' f' H locs hw B => ?_)
    obtain ⟨a4, a4x, h4, hF4, rfl, rfl, rfl⟩ := hw
    have B : WB g (aw N ad sz) s.heap (N + 1 + 1) (va_up (va_up ad N a4) (N + 1) a4x) (mg g (va_up (va_up ad N a4) (N + 1) a4x) (va_up (va_up y N (c_st a4x)) (N + 1) (c_ba g (tlen (cr a1.toNatClampNeg)) h4)) cr dr 0 kn rf pl pz mc) H locs := WM_push2 (by omega) B
    have B : WB g (aw N ad sz) s.heap N ad (mg g ad y cr dr 0 kn rf pl pz mc) H locs := WM_drop B (by omega) (by omega) (fun _ hk => ((up_lt (Nat.lt_succ_of_lt hk)).trans (up_lt hk))) (fun _ hk => ((up_lt (Nat.lt_succ_of_lt hk)).trans (up_lt hk)))
    have ev := (show v_X4_text a1 = 0 from by unfold v_X4_text; rw [if_pos s2])
    exact rt_r (r := some (a4)) rfl X hr (Or.inl ⟨_, rfl⟩) (ad, mg g ad y cr dr 0 kn rf pl pz mc) B (PO_of B) ⟨rfl, ⟨_, rfl⟩, by rw [ev]⟩ (Nat.le_of_ble_eq_true rfl) (Nat.le_of_ble_eq_true rfl) dX4_text_26
  · have s2x : (v_X4_isNone a1) = 1 := (b01_X4_isNone).resolve_left s2
    rw [s2x]
    refine k_i (k := 0) (n := 0) hA B (b_V (q := 24) (rest := []) hb0 X (c_X4_stops l g N ad y cr dr th kn rf pl pz mc (by omega) b0 hb0 1 0 H.size) mw_X4_stops md_X4_stops rfl lk_X4_99 ⟨Nat.le_of_ble_eq_true rfl, Nat.le_of_ble_eq_true rfl⟩ hA hK hT B (by omega) mg_24 rfl rfl hl.1 rfl (Nat.le_of_ble_eq_true rfl) dX4_text_6 ⟨Nat.le_of_ble_eq_true rfl, Nat.le_of_ble_eq_true rfl⟩) (Nat.le_of_ble_eq_true rfl) (Nat.le_of_ble_eq_true rfl) (fun r ad' f' H locs hw B => ?_)
    rw [st_10] at hw
    dsimp only at hw
    obtain ⟨rfl, rfl, rfl⟩ := hw
    have B : WB g (aw N ad sz) s.heap N ad (mg g ad y cr dr 1 kn rf pl pz mc) H locs := B
    refine lv_if_eq (tgt := 17) hx hb dX4_text_9 (by decide) (fun z => absurd z (by decide)) (fun _ => ?_)
    refine b_ldc (i := 10) (by decide) rfl rfl X hT dX4_text_12 ?_
    refine lv_goto (tgt := 26) hx hb dX4_text_14 (by decide) ?_
    have ev := (show v_X4_text a1 = 1 from by unfold v_X4_text; rw [if_neg s2])
    exact rt_r (r := some (g.2.2 (100 + 10))) rfl X hr (Or.inl ⟨_, rfl⟩) (ad, mg g ad y cr dr 1 kn rf pl pz mc) B (PO_of B) ⟨rfl, ⟨_, rfl⟩, by rw [ev]⟩ (Nat.le_of_ble_eq_true rfl) (Nat.le_of_ble_eq_true rfl) dX4_text_26
def v_X4_times (cr : Nat → TR) (a1 : Int32) (a2 : Int32) : Int32 := if v_X4_isNone a1 = 0 then (om (v_X4_sum (v_X4_nothing) a2.toInt64 (cr a1.toNatClampNeg)) 0 (fun t7 => 0)) else 1
set_option maxHeartbeats 4000000 in
set_option maxRecDepth 100000 in
theorem c_X4_times (l : Launch) (g : GG) (N : Nat) (ad : Nat → Nat) (y : Nat → va_E) (cr dr : Nat → TR) (th kn rf : Int32) (pl : Nat → TR) (pz : Nat) (mc : Int32) (hN : 36 + pz ≤ N) (b0 : Nat) (hb0 : ad 24 = b0) (a1 : Int32) (a2 : Int32) : KR l yX4_times cX4_times 3 (.object "java/lang/String") (rm 7 8 172) g [.ref b0, .int a1, .int a2] N ad (mg g ad y cr dr th kn rf pl pz mc) N (fun r ad' f' => ad = ad' ∧ (∃ a : Nat, some a = r) ∧ mg g ad y cr dr (v_X4_times cr a1 a2) kn rf pl pz mc = f') := by
  intro sz
  refine mt_start (by decide) (Nat.le_of_ble_eq_true rfl) ?_
  intro p e s m args below meth c hsz X hr hnam hA hK hT H locs B ls hl
  obtain ⟨hx, hb, hml, hown, hts, hlocks⟩ := id X
  have hl : lv_has ls 3 [(0, .ref b0), (1, .int a1), (2, .int a2)] := hl
  refine lv_aload_n hx hb dX4_times_0 rfl (lv_at hl 0 rfl) ?_
  refine lv_iload_n hx hb dX4_times_1 rfl (lv_at hl 1 rfl) ?_
  refine k_i (k := 0) (n := 0) hA B (u_S (rest := [.ref b0]) X (c_X4_isNone l g N ad (mg g ad y cr dr th kn rf pl pz mc) a1 H.size) mw_X4_isNone md_X4_isNone rfl lk_X4_95 ⟨Nat.le_of_ble_eq_true rfl, Nat.le_of_ble_eq_true rfl⟩ hA hK hT B hl.1 rfl (Nat.le_of_ble_eq_true rfl) dX4_times_2 ⟨Nat.le_of_ble_eq_true rfl, Nat.le_of_ble_eq_true rfl⟩) (Nat.le_of_ble_eq_true rfl) (Nat.le_of_ble_eq_true rfl) (fun r1 ad1 f' H locs hw B => ?_)
  obtain ⟨rfl, rfl, rfl⟩ := hw
  refine lv_iconst (v := 0) hx hb dX4_times_5 (by decide) ?_
  by_cases s2 : v_X4_isNone a1 = 0
  · rw [s2]
    refine k_i (k := 0) (n := 0) hA B (b_V (q := 24) (rest := []) hb0 X (c_X4_stops l g N ad y cr dr th kn rf pl pz mc (by omega) b0 hb0 0 0 H.size) mw_X4_stops md_X4_stops rfl lk_X4_99 ⟨Nat.le_of_ble_eq_true rfl, Nat.le_of_ble_eq_true rfl⟩ hA hK hT B (by omega) mg_24 rfl rfl hl.1 rfl (Nat.le_of_ble_eq_true rfl) dX4_times_6 ⟨Nat.le_of_ble_eq_true rfl, Nat.le_of_ble_eq_true rfl⟩) (Nat.le_of_ble_eq_true rfl) (Nat.le_of_ble_eq_true rfl) (fun r ad' f' H locs hw B => ?_)
    rw [st_00] at hw
    dsimp only at hw
    obtain ⟨rfl, rfl, rfl⟩ := hw
    have B : WB g (aw N ad sz) s.heap N ad (mg g ad y cr dr 0 kn rf pl pz mc) H locs := B
    refine lv_if_eq (tgt := 17) hx hb dX4_times_9 (by decide) (fun _ => ?_) (fun z => absurd z (by decide))
    refine k_r (k := 1) (n := 3) hA B (u_S (rest := []) X (c_X4_nothing l g N ad (mg g ad y cr dr 0 kn rf pl pz mc) H.size) mw_X4_nothing md_X4_nothing rfl lk_X4_51 ⟨Nat.le_of_ble_eq_true rfl, Nat.le_of_ble_eq_true rfl⟩ hA hK hT B hl.1 rfl (Nat.le_of_ble_eq_true rfl) dX4_times_17 ⟨Nat.le_of_ble_eq_true rfl, Nat.le_of_ble_eq_true rfl⟩) (Nat.le_of_ble_eq_true rfl) (Nat.le_of_ble_eq_true rfl) (fun r3 ad3 f' H locs hw B => ?_)
    obtain ⟨z4, rfl, rfl, rfl⟩ := hw
    have B : WB g (aw N ad sz) s.heap (N + 1) (va_up ad N z4) (mg g (va_up ad N z4) (va_up y N (c_row g (v_X4_nothing))) cr dr 0 kn rf pl pz mc) H locs := WM_push (by omega) B
    refine lv_iload_n hx hb dX4_times_20 rfl (lv_at hl 2 rfl) ?_
    refine lv_i2l (v := a2.toInt64) hx hb dX4_times_21 rfl ?_
    refine lv_aload_n hx hb dX4_times_22 rfl (lv_at hl 0 rfl) ?_
    refine b_get (q := 24) (k := 1) ((up_lt (by omega)).trans hb0) X hK B rfl in_X4 (by omega) mg_24 (by decide) lk_X4_11 rfl rfl dX4_times_23 ?_
    refine lv_iload_n hx hb dX4_times_26 rfl (lv_at hl 1 rfl) ?_
    refine b_aald (q := 25) (t0 := 2) (v := (va_up ad N z4) (28 + a1.toNatClampNeg)) rfl X hK B (by omega) mg_25 rfl rfl (no_in s2) rfl dX4_times_27 ?_
    have g5 : a1.toNatClampNeg < 4 := (no_lt s2)
    rw [show (va_up ad N z4) (28 + a1.toNatClampNeg) = ad (28 + a1.toNatClampNeg) from (up_lt (by omega))]
    refine k_r (k := 2) (n := 6) hA B (u_S (rest := []) X (c_X4_sum l g (N + 1) (va_up ad N z4) (mg g (va_up ad N z4) (va_up y N (c_row g (v_X4_nothing))) cr dr 0 kn rf pl pz mc) N z4 (v_X4_nothing) (Nat.lt_succ_self _) up_eq ((mg_hi (by omega)).trans up_eq) a2.toInt64 (28 + a1.toNatClampNeg) (ad (28 + a1.toNatClampNeg)) (cr a1.toNatClampNeg) (Nat.lt_succ_of_lt (pl_cr hN g5)) ((up_lt (pl_cr hN g5)).trans rfl) (mg_cr g5) H.size) mw_X4_sum md_X4_sum rfl lk_X4_57 ⟨Nat.le_of_ble_eq_true rfl, Nat.le_of_ble_eq_true rfl⟩ hA hK hT B hl.1 rfl (Nat.le_of_ble_eq_true rfl) dX4_times_28 ⟨Nat.le_of_ble_eq_true rfl, Nat.le_of_ble_eq_true rfl⟩) (Nat.le_of_ble_eq_true rfl) (Nat.le_of_ble_eq_true rfl) (fun r6 ad6 f' H locs hw B => ?_)
    generalize o7 : (v_X4_sum (v_X4_nothing) a2.toInt64 (cr a1.toNatClampNeg)) = v9 at hw B
    cases v9 with
    | none =>
      obtain ⟨rfl, rfl, rfl⟩ := pw_n hw
      refine k_r (k := 2) (n := 6) hA B (u_S (rest := []) X (c_W_toldN l g (N + 1) (va_up ad N z4) (mg g (va_up ad N z4) (va_up y N (c_row g (v_X4_nothing))) cr dr 0 kn rf pl pz mc) H.size) mw_X4_told md_X4_told rfl lk_X4_145 ⟨Nat.le_of_ble_eq_true rfl, Nat.le_of_ble_eq_true rfl⟩ hA hK hT B hl.1 rfl (Nat.le_of_ble_eq_true rfl) dX4_times_31 ⟨Nat.le_of_ble_eq_true rfl, Nat.le_of_ble_eq_true rfl⟩) (Nat.le_of_ble_eq_true rfl) (Nat.le_of_ble_eq_true rfl) (fun r ad' f' H locs hw B => ?_)
      obtain ⟨rfl, rfl, rfl⟩ := hw
      have B : WB g (aw N ad sz) s.heap N ad (mg g ad y cr dr 0 kn rf pl pz mc) H locs := WM_drop B (by omega) (by omega) (fun _ hk => (up_lt hk)) (fun _ hk => (up_lt hk))
      have ev := (show v_X4_times cr a1 a2 = 0 from by unfold v_X4_times; rw [if_pos s2, om_none o7])
      exact rt_r (r := some (g.2.2 (100 + 10))) rfl X hr (Or.inl ⟨_, rfl⟩) (ad, mg g ad y cr dr 0 kn rf pl pz mc) B (PO_of B) ⟨rfl, ⟨_, rfl⟩, by rw [ev]⟩ (Nat.le_of_ble_eq_true rfl) (Nat.le_of_ble_eq_true rfl) dX4_times_34
    | some t7 =>
      obtain ⟨z7, rfl, rfl, rfl⟩ := pw_s hw
      have B : WB g (aw N ad sz) s.heap (N + 1 + 1) (va_up (va_up ad N z4) (N + 1) z7) (mg g (va_up (va_up ad N z4) (N + 1) z7) (va_up (va_up y N (c_row g (v_X4_nothing))) (N + 1) (c_row g t7)) cr dr 0 kn rf pl pz mc) H locs := WM_push (by omega) B
      refine k_r (k := 8) (n := 172) hA B (u_S (rest := []) X (c_W_told l g (N + 1 + 1) (va_up (va_up ad N z4) (N + 1) z7) (mg g (va_up (va_up ad N z4) (N + 1) z7) (va_up (va_up y N (c_row g (v_X4_nothing))) (N + 1) (c_row g t7)) cr dr 0 kn rf pl pz mc) (N + 1) z7 t7 (Nat.lt_succ_self _) up_eq ((mg_hi (by omega)).trans up_eq) H.size) mw_X4_told md_X4_told rfl lk_X4_145 ⟨Nat.le_of_ble_eq_true rfl, Nat.le_of_ble_eq_true rfl⟩ hA hK hT B hl.1 rfl (Nat.le_of_ble_eq_true rfl) dX4_times_31 ⟨Nat.le_of_ble_eq_true rfl, Nat.le_of_ble_eq_true rfl⟩) (Nat.le_of_ble_eq_true rfl) (Nat.le_of_ble_eq_true rfl) (fun r ad' f' H locs hw B => ?_)
      obtain ⟨a8, a8x, h8, hF8, rfl, rfl, rfl⟩ := hw
      have B : WB g (aw N ad sz) s.heap (N + 1 + 1 + 1 + 1) (va_up (va_up (va_up (va_up ad N z4) (N + 1) z7) (N + 1 + 1) a8) (N + 1 + 1 + 1) a8x) (mg g (va_up (va_up (va_up (va_up ad N z4) (N + 1) z7) (N + 1 + 1) a8) (N + 1 + 1 + 1) a8x) (va_up (va_up (va_up (va_up y N (c_row g (v_X4_nothing))) (N + 1) (c_row g t7)) (N + 1 + 1) (c_st a8x)) (N + 1 + 1 + 1) (c_ba g (tlen t7) h8)) cr dr 0 kn rf pl pz mc) H locs := WM_push2 (by omega) B
      have B : WB g (aw N ad sz) s.heap N ad (mg g ad y cr dr 0 kn rf pl pz mc) H locs := WM_drop B (by omega) (by omega) (fun _ hk => ((((up_lt (Nat.lt_succ_of_lt (Nat.lt_succ_of_lt (Nat.lt_succ_of_lt hk)))).trans (up_lt (Nat.lt_succ_of_lt (Nat.lt_succ_of_lt hk)))).trans (up_lt (Nat.lt_succ_of_lt hk))).trans (up_lt hk))) (fun _ hk => ((((up_lt (Nat.lt_succ_of_lt (Nat.lt_succ_of_lt (Nat.lt_succ_of_lt hk)))).trans (up_lt (Nat.lt_succ_of_lt (Nat.lt_succ_of_lt hk)))).trans (up_lt (Nat.lt_succ_of_lt hk))).trans (up_lt hk)))
      have ev := (show v_X4_times cr a1 a2 = 0 from by unfold v_X4_times; rw [if_pos s2, om_some o7])
      exact rt_r (r := some (a8)) rfl X hr (Or.inl ⟨_, rfl⟩) (ad, mg g ad y cr dr 0 kn rf pl pz mc) B (PO_of B) ⟨rfl, ⟨_, rfl⟩, by rw [ev]⟩ (Nat.le_of_ble_eq_true rfl) (Nat.le_of_ble_eq_true rfl) dX4_times_34
  · have s2x : (v_X4_isNone a1) = 1 := (b01_X4_isNone).resolve_left s2
    rw [s2x]
    refine k_i (k := 0) (n := 0) hA B (b_V (q := 24) (rest := []) hb0 X (c_X4_stops l g N ad y cr dr th kn rf pl pz mc (by omega) b0 hb0 1 0 H.size) mw_X4_stops md_X4_stops rfl lk_X4_99 ⟨Nat.le_of_ble_eq_true rfl, Nat.le_of_ble_eq_true rfl⟩ hA hK hT B (by omega) mg_24 rfl rfl hl.1 rfl (Nat.le_of_ble_eq_true rfl) dX4_times_6 ⟨Nat.le_of_ble_eq_true rfl, Nat.le_of_ble_eq_true rfl⟩) (Nat.le_of_ble_eq_true rfl) (Nat.le_of_ble_eq_true rfl) (fun r ad' f' H locs hw B => ?_)
    rw [st_10] at hw
    dsimp only at hw
    obtain ⟨rfl, rfl, rfl⟩ := hw
    have B : WB g (aw N ad sz) s.heap N ad (mg g ad y cr dr 1 kn rf pl pz mc) H locs := B
    refine lv_if_eq (tgt := 17) hx hb dX4_times_9 (by decide) (fun z => absurd z (by decide)) (fun _ => ?_)
    refine b_ldc (i := 10) (by decide) rfl rfl X hT dX4_times_12 ?_
    refine lv_goto (tgt := 34) hx hb dX4_times_14 (by decide) ?_
    have ev := (show v_X4_times cr a1 a2 = 1 from by unfold v_X4_times; rw [if_neg s2])
    exact rt_r (r := some (g.2.2 (100 + 10))) rfl X hr (Or.inl ⟨_, rfl⟩) (ad, mg g ad y cr dr 1 kn rf pl pz mc) B (PO_of B) ⟨rfl, ⟨_, rfl⟩, by rw [ev]⟩ (Nat.le_of_ble_eq_true rfl) (Nat.le_of_ble_eq_true rfl) dX4_times_34
def v_X4_added (cr : Nat → TR) (a1 : Int32) (a2 : Int32) : Int32 := if (v_X4_isIn a2.toInt64 0 9) = 0 then (if v_X4_isNone a1 = 0 then 2 else 1) else (if v_X4_isNone a1 = 0 then (om (v_X4_addedUp (cr a1.toNatClampNeg) a2) 0 (fun t7 => 0)) else 1)
set_option maxHeartbeats 4000000 in
set_option maxRecDepth 100000 in
theorem c_X4_added (l : Launch) (g : GG) (N : Nat) (ad : Nat → Nat) (y : Nat → va_E) (cr dr : Nat → TR) (th kn rf : Int32) (pl : Nat → TR) (pz : Nat) (mc : Int32) (hN : 36 + pz ≤ N) (b0 : Nat) (hb0 : ad 24 = b0) (a1 : Int32) (a2 : Int32) : KR l yX4_added cX4_added 3 (.object "java/lang/String") (rm 7 17 199) g [.ref b0, .int a1, .int a2] N ad (mg g ad y cr dr th kn rf pl pz mc) N (fun r ad' f' => ad = ad' ∧ (∃ a : Nat, some a = r) ∧ mg g ad y cr dr (v_X4_added cr a1 a2) kn rf pl pz mc = f') := by
  intro sz
  refine mt_start (by decide) (Nat.le_of_ble_eq_true rfl) ?_
  intro p e s m args below meth c hsz X hr hnam hA hK hT H locs B ls hl
  obtain ⟨hx, hb, hml, hown, hts, hlocks⟩ := id X
  have hl : lv_has ls 3 [(0, .ref b0), (1, .int a1), (2, .int a2)] := hl
  refine lv_aload_n hx hb dX4_added_0 rfl (lv_at hl 0 rfl) ?_
  refine lv_iload_n hx hb dX4_added_1 rfl (lv_at hl 1 rfl) ?_
  refine k_i (k := 0) (n := 0) hA B (u_S (rest := [.ref b0]) X (c_X4_isNone l g N ad (mg g ad y cr dr th kn rf pl pz mc) a1 H.size) mw_X4_isNone md_X4_isNone rfl lk_X4_95 ⟨Nat.le_of_ble_eq_true rfl, Nat.le_of_ble_eq_true rfl⟩ hA hK hT B hl.1 rfl (Nat.le_of_ble_eq_true rfl) dX4_added_2 ⟨Nat.le_of_ble_eq_true rfl, Nat.le_of_ble_eq_true rfl⟩) (Nat.le_of_ble_eq_true rfl) (Nat.le_of_ble_eq_true rfl) (fun r1 ad1 f' H locs hw B => ?_)
  obtain ⟨rfl, rfl, rfl⟩ := hw
  refine lv_iload_n hx hb dX4_added_5 rfl (lv_at hl 2 rfl) ?_
  refine lv_i2l (v := a2.toInt64) hx hb dX4_added_6 rfl ?_
  refine lv_lconst (v := 0) hx hb dX4_added_7 (by decide) ?_
  refine lv_ldc2 hx hb hown (hts _ (List.mem_cons_of_mem _ lk_X4_165)) dX4_added_8 ?_
  refine k_i (k := 0) (n := 0) hA B (u_S (rest := [.int (v_X4_isNone a1), .ref b0]) X (c_X4_isIn l g N ad (mg g ad y cr dr th kn rf pl pz mc) a2.toInt64 0 9 H.size) mw_X4_isIn md_X4_isIn rfl lk_X4_37 ⟨Nat.le_of_ble_eq_true rfl, Nat.le_of_ble_eq_true rfl⟩ hA hK hT B hl.1 rfl (Nat.le_of_ble_eq_true rfl) dX4_added_11 ⟨Nat.le_of_ble_eq_true rfl, Nat.le_of_ble_eq_true rfl⟩) (Nat.le_of_ble_eq_true rfl) (Nat.le_of_ble_eq_true rfl) (fun r2 ad2 f' H locs hw B => ?_)
  obtain ⟨rfl, rfl, rfl⟩ := hw
  refine lv_if_ne (tgt := 21) hx hb dX4_added_14 (by decide) (fun c3 => ?_) (fun c3 => ?_)
  · refine lv_iconst (v := 0) hx hb dX4_added_21 (by decide) ?_
    by_cases s4 : v_X4_isNone a1 = 0
    · rw [s4]
      refine k_i (k := 0) (n := 0) hA B (b_V (q := 24) (rest := []) hb0 X (c_X4_stops l g N ad y cr dr th kn rf pl pz mc (by omega) b0 hb0 0 0 H.size) mw_X4_stops md_X4_stops rfl lk_X4_99 ⟨Nat.le_of_ble_eq_true rfl, Nat.le_of_ble_eq_true rfl⟩ hA hK hT B (by omega) mg_24 rfl rfl hl.1 rfl (Nat.le_of_ble_eq_true rfl) dX4_added_22 ⟨Nat.le_of_ble_eq_true rfl, Nat.le_of_ble_eq_true rfl⟩) (Nat.le_of_ble_eq_true rfl) (Nat.le_of_ble_eq_true rfl) (fun r ad' f' H locs hw B => ?_)
      rw [st_00] at hw
      dsimp only at hw
      obtain ⟨rfl, rfl, rfl⟩ := hw
      have B : WB g (aw N ad sz) s.heap N ad (mg g ad y cr dr 0 kn rf pl pz mc) H locs := B
      refine lv_if_eq (tgt := 33) hx hb dX4_added_25 (by decide) (fun _ => ?_) (fun z => absurd z (by decide))
      refine lv_aload_n hx hb dX4_added_33 rfl (lv_at hl 0 rfl) ?_
      refine b_get (q := 24) (k := 1) hb0 X hK B rfl in_X4 (by omega) mg_24 (by decide) lk_X4_11 rfl rfl dX4_added_34 ?_
      refine lv_iload_n hx hb dX4_added_37 rfl (lv_at hl 1 rfl) ?_
      refine b_aald (q := 25) (t0 := 2) (v := ad (28 + a1.toNatClampNeg)) rfl X hK B (by omega) mg_25 rfl rfl (no_in s4) rfl dX4_added_38 ?_
      have g5 : a1.toNatClampNeg < 4 := (no_lt s4)
      refine lv_iload_n hx hb dX4_added_39 rfl (lv_at hl 2 rfl) ?_
      refine k_r (k := 11) (n := 33) hA B (u_S (rest := []) X (c_X4_addedUp l g N ad (mg g ad y cr dr 0 kn rf pl pz mc) (28 + a1.toNatClampNeg) (ad (28 + a1.toNatClampNeg)) (cr a1.toNatClampNeg) (pl_cr hN g5) rfl (mg_cr g5) a2 (isin_9 c3) H.size) mw_X4_addedUp md_X4_addedUp rfl lk_X4_167 ⟨Nat.le_of_ble_eq_true rfl, Nat.le_of_ble_eq_true rfl⟩ hA hK hT B hl.1 rfl (Nat.le_of_ble_eq_true rfl) dX4_added_40 ⟨Nat.le_of_ble_eq_true rfl, Nat.le_of_ble_eq_true rfl⟩) (Nat.le_of_ble_eq_true rfl) (Nat.le_of_ble_eq_true rfl) (fun r6 ad6 f' H locs hw B => ?_)
      generalize o7 : (v_X4_addedUp (cr a1.toNatClampNeg) a2) = v9 at hw B
      cases v9 with
      | none =>
        obtain ⟨rfl, rfl, rfl⟩ := pw_n hw
        refine k_r (k := 11) (n := 33) hA B (u_S (rest := []) X (c_W_toldN l g N ad (mg g ad y cr dr 0 kn rf pl pz mc) H.size) mw_X4_told md_X4_told rfl lk_X4_145 ⟨Nat.le_of_ble_eq_true rfl, Nat.le_of_ble_eq_true rfl⟩ hA hK hT B hl.1 rfl (Nat.le_of_ble_eq_true rfl) dX4_added_43 ⟨Nat.le_of_ble_eq_true rfl, Nat.le_of_ble_eq_true rfl⟩) (Nat.le_of_ble_eq_true rfl) (Nat.le_of_ble_eq_true rfl) (fun r ad' f' H locs hw B => ?_)
        obtain ⟨rfl, rfl, rfl⟩ := hw
        have ev := (show v_X4_added cr a1 a2 = 0 from by unfold v_X4_added; rw [if_neg c3, if_pos s4, om_none o7])
        exact rt_r (r := some (g.2.2 (100 + 10))) rfl X hr (Or.inl ⟨_, rfl⟩) (ad, mg g ad y cr dr 0 kn rf pl pz mc) B (PO_of B) ⟨rfl, ⟨_, rfl⟩, by rw [ev]⟩ (Nat.le_of_ble_eq_true rfl) (Nat.le_of_ble_eq_true rfl) dX4_added_46
      | some t7 =>
        obtain ⟨z7, rfl, rfl, rfl⟩ := pw_s hw
        have B : WB g (aw N ad sz) s.heap (N + 1) (va_up ad N z7) (mg g (va_up ad N z7) (va_up y N (c_row g t7)) cr dr 0 kn rf pl pz mc) H locs := WM_push (by omega) B
        refine k_r (k := 17) (n := 199) hA B (u_S (rest := []) X (c_W_told l g (N + 1) (va_up ad N z7) (mg g (va_up ad N z7) (va_up y N (c_row g t7)) cr dr 0 kn rf pl pz mc) N z7 t7 (Nat.lt_succ_self _) up_eq ((mg_hi (by omega)).trans up_eq) H.size) mw_X4_told md_X4_told rfl lk_X4_145 ⟨Nat.le_of_ble_eq_true rfl, Nat.le_of_ble_eq_true rfl⟩ hA hK hT B hl.1 rfl (Nat.le_of_ble_eq_true rfl) dX4_added_43 ⟨Nat.le_of_ble_eq_true rfl, Nat.le_of_ble_eq_true rfl⟩) (Nat.le_of_ble_eq_true rfl) (Nat.le_of_ble_eq_true rfl) (fun r ad' f' H locs hw B => ?_)
        obtain ⟨a8, a8x, h8, hF8, rfl, rfl, rfl⟩ := hw
        have B : WB g (aw N ad sz) s.heap (N + 1 + 1 + 1) (va_up (va_up (va_up ad N z7) (N + 1) a8) (N + 1 + 1) a8x) (mg g (va_up (va_up (va_up ad N z7) (N + 1) a8) (N + 1 + 1) a8x) (va_up (va_up (va_up y N (c_row g t7)) (N + 1) (c_st a8x)) (N + 1 + 1) (c_ba g (tlen t7) h8)) cr dr 0 kn rf pl pz mc) H locs := WM_push2 (by omega) B
        have B : WB g (aw N ad sz) s.heap N ad (mg g ad y cr dr 0 kn rf pl pz mc) H locs := WM_drop B (by omega) (by omega) (fun _ hk => (((up_lt (Nat.lt_succ_of_lt (Nat.lt_succ_of_lt hk))).trans (up_lt (Nat.lt_succ_of_lt hk))).trans (up_lt hk))) (fun _ hk => (((up_lt (Nat.lt_succ_of_lt (Nat.lt_succ_of_lt hk))).trans (up_lt (Nat.lt_succ_of_lt hk))).trans (up_lt hk)))
        have ev := (show v_X4_added cr a1 a2 = 0 from by unfold v_X4_added; rw [if_neg c3, if_pos s4, om_some o7])
        exact rt_r (r := some (a8)) rfl X hr (Or.inl ⟨_, rfl⟩) (ad, mg g ad y cr dr 0 kn rf pl pz mc) B (PO_of B) ⟨rfl, ⟨_, rfl⟩, by rw [ev]⟩ (Nat.le_of_ble_eq_true rfl) (Nat.le_of_ble_eq_true rfl) dX4_added_46
    · have s4x : (v_X4_isNone a1) = 1 := (b01_X4_isNone).resolve_left s4
      rw [s4x]
      refine k_i (k := 0) (n := 0) hA B (b_V (q := 24) (rest := []) hb0 X (c_X4_stops l g N ad y cr dr th kn rf pl pz mc (by omega) b0 hb0 1 0 H.size) mw_X4_stops md_X4_stops rfl lk_X4_99 ⟨Nat.le_of_ble_eq_true rfl, Nat.le_of_ble_eq_true rfl⟩ hA hK hT B (by omega) mg_24 rfl rfl hl.1 rfl (Nat.le_of_ble_eq_true rfl) dX4_added_22 ⟨Nat.le_of_ble_eq_true rfl, Nat.le_of_ble_eq_true rfl⟩) (Nat.le_of_ble_eq_true rfl) (Nat.le_of_ble_eq_true rfl) (fun r ad' f' H locs hw B => ?_)
      rw [st_10] at hw
      dsimp only at hw
      obtain ⟨rfl, rfl, rfl⟩ := hw
      have B : WB g (aw N ad sz) s.heap N ad (mg g ad y cr dr 1 kn rf pl pz mc) H locs := B
      refine lv_if_eq (tgt := 33) hx hb dX4_added_25 (by decide) (fun z => absurd z (by decide)) (fun _ => ?_)
      refine b_ldc (i := 10) (by decide) rfl rfl X hT dX4_added_28 ?_
      refine lv_goto (tgt := 46) hx hb dX4_added_30 (by decide) ?_
      have ev := (show v_X4_added cr a1 a2 = 1 from by unfold v_X4_added; rw [if_neg c3, if_neg s4])
      exact rt_r (r := some (g.2.2 (100 + 10))) rfl X hr (Or.inl ⟨_, rfl⟩) (ad, mg g ad y cr dr 1 kn rf pl pz mc) B (PO_of B) ⟨rfl, ⟨_, rfl⟩, by rw [ev]⟩ (Nat.le_of_ble_eq_true rfl) (Nat.le_of_ble_eq_true rfl) dX4_added_46
  · refine lv_iconst (v := 1) hx hb dX4_added_17 (by decide) ?_
    refine lv_goto (tgt := 22) hx hb dX4_added_18 (by decide) ?_
    by_cases s9 : v_X4_isNone a1 = 0
    · rw [s9]
      refine k_i (k := 0) (n := 0) hA B (b_V (q := 24) (rest := []) hb0 X (c_X4_stops l g N ad y cr dr th kn rf pl pz mc (by omega) b0 hb0 0 1 H.size) mw_X4_stops md_X4_stops rfl lk_X4_99 ⟨Nat.le_of_ble_eq_true rfl, Nat.le_of_ble_eq_true rfl⟩ hA hK hT B (by omega) mg_24 rfl rfl hl.1 rfl (Nat.le_of_ble_eq_true rfl) dX4_added_22 ⟨Nat.le_of_ble_eq_true rfl, Nat.le_of_ble_eq_true rfl⟩) (Nat.le_of_ble_eq_true rfl) (Nat.le_of_ble_eq_true rfl) (fun r ad' f' H locs hw B => ?_)
      rw [st_01] at hw
      dsimp only at hw
      obtain ⟨rfl, rfl, rfl⟩ := hw
      have B : WB g (aw N ad sz) s.heap N ad (mg g ad y cr dr 2 kn rf pl pz mc) H locs := B
      refine lv_if_eq (tgt := 33) hx hb dX4_added_25 (by decide) (fun z => absurd z (by decide)) (fun _ => ?_)
      refine b_ldc (i := 10) (by decide) rfl rfl X hT dX4_added_28 ?_
      refine lv_goto (tgt := 46) hx hb dX4_added_30 (by decide) ?_
      have ev := (show v_X4_added cr a1 a2 = 2 from by unfold v_X4_added; rw [if_pos c3, if_pos s9])
      exact rt_r (r := some (g.2.2 (100 + 10))) rfl X hr (Or.inl ⟨_, rfl⟩) (ad, mg g ad y cr dr 2 kn rf pl pz mc) B (PO_of B) ⟨rfl, ⟨_, rfl⟩, by rw [ev]⟩ (Nat.le_of_ble_eq_true rfl) (Nat.le_of_ble_eq_true rfl) dX4_added_46
    · have s9x : (v_X4_isNone a1) = 1 := (b01_X4_isNone).resolve_left s9
      rw [s9x]
      refine k_i (k := 0) (n := 0) hA B (b_V (q := 24) (rest := []) hb0 X (c_X4_stops l g N ad y cr dr th kn rf pl pz mc (by omega) b0 hb0 1 1 H.size) mw_X4_stops md_X4_stops rfl lk_X4_99 ⟨Nat.le_of_ble_eq_true rfl, Nat.le_of_ble_eq_true rfl⟩ hA hK hT B (by omega) mg_24 rfl rfl hl.1 rfl (Nat.le_of_ble_eq_true rfl) dX4_added_22 ⟨Nat.le_of_ble_eq_true rfl, Nat.le_of_ble_eq_true rfl⟩) (Nat.le_of_ble_eq_true rfl) (Nat.le_of_ble_eq_true rfl) (fun r ad' f' H locs hw B => ?_)
      rw [st_11] at hw
      dsimp only at hw
      obtain ⟨rfl, rfl, rfl⟩ := hw
      have B : WB g (aw N ad sz) s.heap N ad (mg g ad y cr dr 1 kn rf pl pz mc) H locs := B
      refine lv_if_eq (tgt := 33) hx hb dX4_added_25 (by decide) (fun z => absurd z (by decide)) (fun _ => ?_)
      refine b_ldc (i := 10) (by decide) rfl rfl X hT dX4_added_28 ?_
      refine lv_goto (tgt := 46) hx hb dX4_added_30 (by decide) ?_
      have ev := (show v_X4_added cr a1 a2 = 1 from by unfold v_X4_added; rw [if_pos c3, if_neg s9])
      exact rt_r (r := some (g.2.2 (100 + 10))) rfl X hr (Or.inl ⟨_, rfl⟩) (ad, mg g ad y cr dr 1 kn rf pl pz mc) B (PO_of B) ⟨rfl, ⟨_, rfl⟩, by rw [ev]⟩ (Nat.le_of_ble_eq_true rfl) (Nat.le_of_ble_eq_true rfl) dX4_added_46
def v_X4_with (cr : Nat → TR) (a1 : Int32) (a2 : Int32) (a3 : Int32) : Int32 := if (v_X4_isNone a1) = 0 then (if (v_X4_isNone a2) = 0 then (if a3 = 0 then (om (v_X4_sum (cr a1.toNatClampNeg) 1 (cr a2.toNatClampNeg)) 0 (fun t9 => 0)) else (om (v_X4_sum (cr a1.toNatClampNeg) (-1) (cr a2.toNatClampNeg)) 0 (fun t13 => 0))) else 1) else 1
set_option maxHeartbeats 4000000 in
set_option maxRecDepth 100000 in
theorem c_X4_with (l : Launch) (g : GG) (N : Nat) (ad : Nat → Nat) (y : Nat → va_E) (cr dr : Nat → TR) (th kn rf : Int32) (pl : Nat → TR) (pz : Nat) (mc : Int32) (hN : 36 + pz ≤ N) (b0 : Nat) (hb0 : ad 24 = b0) (a1 : Int32) (a2 : Int32) (a3 : Int32) : KR l yX4_with cX4_with 4 (.object "java/lang/String") (rm 7 7 169) g [.ref b0, .int a1, .int a2, .int a3] N ad (mg g ad y cr dr th kn rf pl pz mc) N (fun r ad' f' => ad = ad' ∧ (∃ a : Nat, some a = r) ∧ mg g ad y cr dr (v_X4_with cr a1 a2 a3) kn rf pl pz mc = f') := by
  intro sz
  refine mt_start (by decide) (Nat.le_of_ble_eq_true rfl) ?_
  intro p e s m args below meth c hsz X hr hnam hA hK hT H locs B ls hl
  obtain ⟨hx, hb, hml, hown, hts, hlocks⟩ := id X
  have hl : lv_has ls 4 [(0, .ref b0), (1, .int a1), (2, .int a2), (3, .int a3)] := hl
  refine lv_aload_n hx hb dX4_with_0 rfl (lv_at hl 0 rfl) ?_
  refine lv_iload_n hx hb dX4_with_1 rfl (lv_at hl 1 rfl) ?_
  refine k_i (k := 0) (n := 0) hA B (u_S (rest := [.ref b0]) X (c_X4_isNone l g N ad (mg g ad y cr dr th kn rf pl pz mc) a1 H.size) mw_X4_isNone md_X4_isNone rfl lk_X4_95 ⟨Nat.le_of_ble_eq_true rfl, Nat.le_of_ble_eq_true rfl⟩ hA hK hT B hl.1 rfl (Nat.le_of_ble_eq_true rfl) dX4_with_2 ⟨Nat.le_of_ble_eq_true rfl, Nat.le_of_ble_eq_true rfl⟩) (Nat.le_of_ble_eq_true rfl) (Nat.le_of_ble_eq_true rfl) (fun r1 ad1 f' H locs hw B => ?_)
  obtain ⟨rfl, rfl, rfl⟩ := hw
  refine lv_if_ne (tgt := 15) hx hb dX4_with_5 (by decide) (fun c2 => ?_) (fun c2 => ?_)
  · refine lv_iconst (v := 1) hx hb dX4_with_15 (by decide) ?_
    refine lv_goto (tgt := 20) hx hb dX4_with_16 (by decide) ?_
    refine lv_iconst (v := 0) hx hb dX4_with_20 (by decide) ?_
    refine k_i (k := 0) (n := 0) hA B (b_V (q := 24) (rest := []) hb0 X (c_X4_stops l g N ad y cr dr th kn rf pl pz mc (by omega) b0 hb0 1 0 H.size) mw_X4_stops md_X4_stops rfl lk_X4_99 ⟨Nat.le_of_ble_eq_true rfl, Nat.le_of_ble_eq_true rfl⟩ hA hK hT B (by omega) mg_24 rfl rfl hl.1 rfl (Nat.le_of_ble_eq_true rfl) dX4_with_21 ⟨Nat.le_of_ble_eq_true rfl, Nat.le_of_ble_eq_true rfl⟩) (Nat.le_of_ble_eq_true rfl) (Nat.le_of_ble_eq_true rfl) (fun r ad' f' H locs hw B => ?_)
    rw [st_10] at hw
    dsimp only at hw
    obtain ⟨rfl, rfl, rfl⟩ := hw
    have B : WB g (aw N ad sz) s.heap N ad (mg g ad y cr dr 1 kn rf pl pz mc) H locs := B
    refine lv_if_eq (tgt := 32) hx hb dX4_with_24 (by decide) (fun z => absurd z (by decide)) (fun _ => ?_)
    refine b_ldc (i := 10) (by decide) rfl rfl X hT dX4_with_27 ?_
    refine lv_goto (tgt := 61) hx hb dX4_with_29 (by decide) ?_
    have ev := (show v_X4_with cr a1 a2 a3 = 1 from by unfold v_X4_with; rw [if_neg c2])
    exact rt_r (r := some (g.2.2 (100 + 10))) rfl X hr (Or.inl ⟨_, rfl⟩) (ad, mg g ad y cr dr 1 kn rf pl pz mc) B (PO_of B) ⟨rfl, ⟨_, rfl⟩, by rw [ev]⟩ (Nat.le_of_ble_eq_true rfl) (Nat.le_of_ble_eq_true rfl) dX4_with_61
  · refine lv_iload_n hx hb dX4_with_8 rfl (lv_at hl 2 rfl) ?_
    refine k_i (k := 0) (n := 0) hA B (u_S (rest := [.ref b0]) X (c_X4_isNone l g N ad (mg g ad y cr dr th kn rf pl pz mc) a2 H.size) mw_X4_isNone md_X4_isNone rfl lk_X4_95 ⟨Nat.le_of_ble_eq_true rfl, Nat.le_of_ble_eq_true rfl⟩ hA hK hT B hl.1 rfl (Nat.le_of_ble_eq_true rfl) dX4_with_9 ⟨Nat.le_of_ble_eq_true rfl, Nat.le_of_ble_eq_true rfl⟩) (Nat.le_of_ble_eq_true rfl) (Nat.le_of_ble_eq_true rfl) (fun r3 ad3 f' H locs hw B => ?_)
    obtain ⟨rfl, rfl, rfl⟩ := hw
    refine lv_if_eq (tgt := 19) hx hb dX4_with_12 (by decide) (fun c4 => ?_) (fun c4 => ?_)
    · refine lv_iconst (v := 0) hx hb dX4_with_19 (by decide) ?_
      refine lv_iconst (v := 0) hx hb dX4_with_20 (by decide) ?_
      refine k_i (k := 0) (n := 0) hA B (b_V (q := 24) (rest := []) hb0 X (c_X4_stops l g N ad y cr dr th kn rf pl pz mc (by omega) b0 hb0 0 0 H.size) mw_X4_stops md_X4_stops rfl lk_X4_99 ⟨Nat.le_of_ble_eq_true rfl, Nat.le_of_ble_eq_true rfl⟩ hA hK hT B (by omega) mg_24 rfl rfl hl.1 rfl (Nat.le_of_ble_eq_true rfl) dX4_with_21 ⟨Nat.le_of_ble_eq_true rfl, Nat.le_of_ble_eq_true rfl⟩) (Nat.le_of_ble_eq_true rfl) (Nat.le_of_ble_eq_true rfl) (fun r ad' f' H locs hw B => ?_)
      rw [st_00] at hw
      dsimp only at hw
      obtain ⟨rfl, rfl, rfl⟩ := hw
      have B : WB g (aw N ad sz) s.heap N ad (mg g ad y cr dr 0 kn rf pl pz mc) H locs := B
      refine lv_if_eq (tgt := 32) hx hb dX4_with_24 (by decide) (fun _ => ?_) (fun z => absurd z (by decide))
      refine lv_aload_n hx hb dX4_with_32 rfl (lv_at hl 0 rfl) ?_
      refine b_get (q := 24) (k := 1) hb0 X hK B rfl in_X4 (by omega) mg_24 (by decide) lk_X4_11 rfl rfl dX4_with_33 ?_
      refine lv_iload_n hx hb dX4_with_36 rfl (lv_at hl 1 rfl) ?_
      refine b_aald (q := 25) (t0 := 2) (v := ad (28 + a1.toNatClampNeg)) rfl X hK B (by omega) mg_25 rfl rfl (no_in c2) rfl dX4_with_37 ?_
      have g5 : a1.toNatClampNeg < 4 := (no_lt c2)
      refine lv_iload_n hx hb dX4_with_38 rfl (lv_at hl 3 rfl) ?_
      refine lv_if_eq (tgt := 48) hx hb dX4_with_39 (by decide) (fun c6 => ?_) (fun c6 => ?_)
      · refine lv_lconst (v := 1) hx hb dX4_with_48 (by decide) ?_
        refine lv_aload_n hx hb dX4_with_49 rfl (lv_at hl 0 rfl) ?_
        refine b_get (q := 24) (k := 1) hb0 X hK B rfl in_X4 (by omega) mg_24 (by decide) lk_X4_11 rfl rfl dX4_with_50 ?_
        refine lv_iload_n hx hb dX4_with_53 rfl (lv_at hl 2 rfl) ?_
        refine b_aald (q := 25) (t0 := 2) (v := ad (28 + a2.toNatClampNeg)) rfl X hK B (by omega) mg_25 rfl rfl (no_in c4) rfl dX4_with_54 ?_
        have g7 : a2.toNatClampNeg < 4 := (no_lt c4)
        refine k_r (k := 1) (n := 3) hA B (u_S (rest := []) X (c_X4_sum l g N ad (mg g ad y cr dr 0 kn rf pl pz mc) (28 + a1.toNatClampNeg) (ad (28 + a1.toNatClampNeg)) (cr a1.toNatClampNeg) (pl_cr hN g5) rfl (mg_cr g5) 1 (28 + a2.toNatClampNeg) (ad (28 + a2.toNatClampNeg)) (cr a2.toNatClampNeg) (pl_cr hN g7) rfl (mg_cr g7) H.size) mw_X4_sum md_X4_sum rfl lk_X4_57 ⟨Nat.le_of_ble_eq_true rfl, Nat.le_of_ble_eq_true rfl⟩ hA hK hT B hl.1 rfl (Nat.le_of_ble_eq_true rfl) dX4_with_55 ⟨Nat.le_of_ble_eq_true rfl, Nat.le_of_ble_eq_true rfl⟩) (Nat.le_of_ble_eq_true rfl) (Nat.le_of_ble_eq_true rfl) (fun r8 ad8 f' H locs hw B => ?_)
        generalize o9 : (v_X4_sum (cr a1.toNatClampNeg) 1 (cr a2.toNatClampNeg)) = v9 at hw B
        cases v9 with
        | none =>
          obtain ⟨rfl, rfl, rfl⟩ := pw_n hw
          refine k_r (k := 1) (n := 3) hA B (u_S (rest := []) X (c_W_toldN l g N ad (mg g ad y cr dr 0 kn rf pl pz mc) H.size) mw_X4_told md_X4_told rfl lk_X4_145 ⟨Nat.le_of_ble_eq_true rfl, Nat.le_of_ble_eq_true rfl⟩ hA hK hT B hl.1 rfl (Nat.le_of_ble_eq_true rfl) dX4_with_58 ⟨Nat.le_of_ble_eq_true rfl, Nat.le_of_ble_eq_true rfl⟩) (Nat.le_of_ble_eq_true rfl) (Nat.le_of_ble_eq_true rfl) (fun r ad' f' H locs hw B => ?_)
          obtain ⟨rfl, rfl, rfl⟩ := hw
          have ev := (show v_X4_with cr a1 a2 a3 = 0 from by unfold v_X4_with; rw [if_pos c2, if_pos c4, if_pos c6, om_none o9])
          exact rt_r (r := some (g.2.2 (100 + 10))) rfl X hr (Or.inl ⟨_, rfl⟩) (ad, mg g ad y cr dr 0 kn rf pl pz mc) B (PO_of B) ⟨rfl, ⟨_, rfl⟩, by rw [ev]⟩ (Nat.le_of_ble_eq_true rfl) (Nat.le_of_ble_eq_true rfl) dX4_with_61
        | some t9 =>
          obtain ⟨z9, rfl, rfl, rfl⟩ := pw_s hw
          have B : WB g (aw N ad sz) s.heap (N + 1) (va_up ad N z9) (mg g (va_up ad N z9) (va_up y N (c_row g t9)) cr dr 0 kn rf pl pz mc) H locs := WM_push (by omega) B
          refine k_r (k := 7) (n := 169) hA B (u_S (rest := []) X (c_W_told l g (N + 1) (va_up ad N z9) (mg g (va_up ad N z9) (va_up y N (c_row g t9)) cr dr 0 kn rf pl pz mc) N z9 t9 (Nat.lt_succ_self _) up_eq ((mg_hi (by omega)).trans up_eq) H.size) mw_X4_told md_X4_told rfl lk_X4_145 ⟨Nat.le_of_ble_eq_true rfl, Nat.le_of_ble_eq_true rfl⟩ hA hK hT B hl.1 rfl (Nat.le_of_ble_eq_true rfl) dX4_with_58 ⟨Nat.le_of_ble_eq_true rfl, Nat.le_of_ble_eq_true rfl⟩) (Nat.le_of_ble_eq_true rfl) (Nat.le_of_ble_eq_true rfl) (fun r ad' f' H locs hw B => ?_)
          obtain ⟨a10, a10x, h10, hF10, rfl, rfl, rfl⟩ := hw
          have B : WB g (aw N ad sz) s.heap (N + 1 + 1 + 1) (va_up (va_up (va_up ad N z9) (N + 1) a10) (N + 1 + 1) a10x) (mg g (va_up (va_up (va_up ad N z9) (N + 1) a10) (N + 1 + 1) a10x) (va_up (va_up (va_up y N (c_row g t9)) (N + 1) (c_st a10x)) (N + 1 + 1) (c_ba g (tlen t9) h10)) cr dr 0 kn rf pl pz mc) H locs := WM_push2 (by omega) B
          have B : WB g (aw N ad sz) s.heap N ad (mg g ad y cr dr 0 kn rf pl pz mc) H locs := WM_drop B (by omega) (by omega) (fun _ hk => (((up_lt (Nat.lt_succ_of_lt (Nat.lt_succ_of_lt hk))).trans (up_lt (Nat.lt_succ_of_lt hk))).trans (up_lt hk))) (fun _ hk => (((up_lt (Nat.lt_succ_of_lt (Nat.lt_succ_of_lt hk))).trans (up_lt (Nat.lt_succ_of_lt hk))).trans (up_lt hk)))
          have ev := (show v_X4_with cr a1 a2 a3 = 0 from by unfold v_X4_with; rw [if_pos c2, if_pos c4, if_pos c6, om_some o9])
          exact rt_r (r := some (a10)) rfl X hr (Or.inl ⟨_, rfl⟩) (ad, mg g ad y cr dr 0 kn rf pl pz mc) B (PO_of B) ⟨rfl, ⟨_, rfl⟩, by rw [ev]⟩ (Nat.le_of_ble_eq_true rfl) (Nat.le_of_ble_eq_true rfl) dX4_with_61
      · refine lv_ldc2 hx hb hown (hts _ (List.mem_cons_of_mem _ lk_X4_55)) dX4_with_42 ?_
        refine lv_goto (tgt := 49) hx hb dX4_with_45 (by decide) ?_
        refine lv_aload_n hx hb dX4_with_49 rfl (lv_at hl 0 rfl) ?_
        refine b_get (q := 24) (k := 1) hb0 X hK B rfl in_X4 (by omega) mg_24 (by decide) lk_X4_11 rfl rfl dX4_with_50 ?_
        refine lv_iload_n hx hb dX4_with_53 rfl (lv_at hl 2 rfl) ?_
        refine b_aald (q := 25) (t0 := 2) (v := ad (28 + a2.toNatClampNeg)) rfl X hK B (by omega) mg_25 rfl rfl (no_in c4) rfl dX4_with_54 ?_
        have g11 : a2.toNatClampNeg < 4 := (no_lt c4)
        refine k_r (k := 1) (n := 3) hA B (u_S (rest := []) X (c_X4_sum l g N ad (mg g ad y cr dr 0 kn rf pl pz mc) (28 + a1.toNatClampNeg) (ad (28 + a1.toNatClampNeg)) (cr a1.toNatClampNeg) (pl_cr hN g5) rfl (mg_cr g5) (-1) (28 + a2.toNatClampNeg) (ad (28 + a2.toNatClampNeg)) (cr a2.toNatClampNeg) (pl_cr hN g11) rfl (mg_cr g11) H.size) mw_X4_sum md_X4_sum rfl lk_X4_57 ⟨Nat.le_of_ble_eq_true rfl, Nat.le_of_ble_eq_true rfl⟩ hA hK hT B hl.1 rfl (Nat.le_of_ble_eq_true rfl) dX4_with_55 ⟨Nat.le_of_ble_eq_true rfl, Nat.le_of_ble_eq_true rfl⟩) (Nat.le_of_ble_eq_true rfl) (Nat.le_of_ble_eq_true rfl) (fun r12 ad12 f' H locs hw B => ?_)
        generalize o13 : (v_X4_sum (cr a1.toNatClampNeg) (-1) (cr a2.toNatClampNeg)) = v9 at hw B
        cases v9 with
        | none =>
          obtain ⟨rfl, rfl, rfl⟩ := pw_n hw
          refine k_r (k := 1) (n := 3) hA B (u_S (rest := []) X (c_W_toldN l g N ad (mg g ad y cr dr 0 kn rf pl pz mc) H.size) mw_X4_told md_X4_told rfl lk_X4_145 ⟨Nat.le_of_ble_eq_true rfl, Nat.le_of_ble_eq_true rfl⟩ hA hK hT B hl.1 rfl (Nat.le_of_ble_eq_true rfl) dX4_with_58 ⟨Nat.le_of_ble_eq_true rfl, Nat.le_of_ble_eq_true rfl⟩) (Nat.le_of_ble_eq_true rfl) (Nat.le_of_ble_eq_true rfl) (fun r ad' f' H locs hw B => ?_)
          obtain ⟨rfl, rfl, rfl⟩ := hw
          have ev := (show v_X4_with cr a1 a2 a3 = 0 from by unfold v_X4_with; rw [if_pos c2, if_pos c4, if_neg c6, om_none o13])
          exact rt_r (r := some (g.2.2 (100 + 10))) rfl X hr (Or.inl ⟨_, rfl⟩) (ad, mg g ad y cr dr 0 kn rf pl pz mc) B (PO_of B) ⟨rfl, ⟨_, rfl⟩, by rw [ev]⟩ (Nat.le_of_ble_eq_true rfl) (Nat.le_of_ble_eq_true rfl) dX4_with_61
        | some t13 =>
          obtain ⟨z13, rfl, rfl, rfl⟩ := pw_s hw
          have B : WB g (aw N ad sz) s.heap (N + 1) (va_up ad N z13) (mg g (va_up ad N z13) (va_up y N (c_row g t13)) cr dr 0 kn rf pl pz mc) H locs := WM_push (by omega) B
          refine k_r (k := 7) (n := 169) hA B (u_S (rest := []) X (c_W_told l g (N + 1) (va_up ad N z13) (mg g (va_up ad N z13) (va_up y N (c_row g t13)) cr dr 0 kn rf pl pz mc) N z13 t13 (Nat.lt_succ_self _) up_eq ((mg_hi (by omega)).trans up_eq) H.size) mw_X4_told md_X4_told rfl lk_X4_145 ⟨Nat.le_of_ble_eq_true rfl, Nat.le_of_ble_eq_true rfl⟩ hA hK hT B hl.1 rfl (Nat.le_of_ble_eq_true rfl) dX4_with_58 ⟨Nat.le_of_ble_eq_true rfl, Nat.le_of_ble_eq_true rfl⟩) (Nat.le_of_ble_eq_true rfl) (Nat.le_of_ble_eq_true rfl) (fun r ad' f' H locs hw B => ?_)
          obtain ⟨a14, a14x, h14, hF14, rfl, rfl, rfl⟩ := hw
          have B : WB g (aw N ad sz) s.heap (N + 1 + 1 + 1) (va_up (va_up (va_up ad N z13) (N + 1) a14) (N + 1 + 1) a14x) (mg g (va_up (va_up (va_up ad N z13) (N + 1) a14) (N + 1 + 1) a14x) (va_up (va_up (va_up y N (c_row g t13)) (N + 1) (c_st a14x)) (N + 1 + 1) (c_ba g (tlen t13) h14)) cr dr 0 kn rf pl pz mc) H locs := WM_push2 (by omega) B
          have B : WB g (aw N ad sz) s.heap N ad (mg g ad y cr dr 0 kn rf pl pz mc) H locs := WM_drop B (by omega) (by omega) (fun _ hk => (((up_lt (Nat.lt_succ_of_lt (Nat.lt_succ_of_lt hk))).trans (up_lt (Nat.lt_succ_of_lt hk))).trans (up_lt hk))) (fun _ hk => (((up_lt (Nat.lt_succ_of_lt (Nat.lt_succ_of_lt hk))).trans (up_lt (Nat.lt_succ_of_lt hk))).trans (up_lt hk)))
          have ev := (show v_X4_with cr a1 a2 a3 = 0 from by unfold v_X4_with; rw [if_pos c2, if_pos c4, if_neg c6, om_some o13])
          exact rt_r (r := some (a14)) rfl X hr (Or.inl ⟨_, rfl⟩) (ad, mg g ad y cr dr 0 kn rf pl pz mc) B (PO_of B) ⟨rfl, ⟨_, rfl⟩, by rw [ev]⟩ (Nat.le_of_ble_eq_true rfl) (Nat.le_of_ble_eq_true rfl) dX4_with_61
    · refine lv_iconst (v := 1) hx hb dX4_with_15 (by decide) ?_
      refine lv_goto (tgt := 20) hx hb dX4_with_16 (by decide) ?_
      refine lv_iconst (v := 0) hx hb dX4_with_20 (by decide) ?_
      refine k_i (k := 0) (n := 0) hA B (b_V (q := 24) (rest := []) hb0 X (c_X4_stops l g N ad y cr dr th kn rf pl pz mc (by omega) b0 hb0 1 0 H.size) mw_X4_stops md_X4_stops rfl lk_X4_99 ⟨Nat.le_of_ble_eq_true rfl, Nat.le_of_ble_eq_true rfl⟩ hA hK hT B (by omega) mg_24 rfl rfl hl.1 rfl (Nat.le_of_ble_eq_true rfl) dX4_with_21 ⟨Nat.le_of_ble_eq_true rfl, Nat.le_of_ble_eq_true rfl⟩) (Nat.le_of_ble_eq_true rfl) (Nat.le_of_ble_eq_true rfl) (fun r ad' f' H locs hw B => ?_)
      rw [st_10] at hw
      dsimp only at hw
      obtain ⟨rfl, rfl, rfl⟩ := hw
      have B : WB g (aw N ad sz) s.heap N ad (mg g ad y cr dr 1 kn rf pl pz mc) H locs := B
      refine lv_if_eq (tgt := 32) hx hb dX4_with_24 (by decide) (fun z => absurd z (by decide)) (fun _ => ?_)
      refine b_ldc (i := 10) (by decide) rfl rfl X hT dX4_with_27 ?_
      refine lv_goto (tgt := 61) hx hb dX4_with_29 (by decide) ?_
      have ev := (show v_X4_with cr a1 a2 a3 = 1 from by unfold v_X4_with; rw [if_pos c2, if_neg c4])
      exact rt_r (r := some (g.2.2 (100 + 10))) rfl X hr (Or.inl ⟨_, rfl⟩) (ad, mg g ad y cr dr 1 kn rf pl pz mc) B (PO_of B) ⟨rfl, ⟨_, rfl⟩, by rw [ev]⟩ (Nat.le_of_ble_eq_true rfl) (Nat.le_of_ble_eq_true rfl) dX4_with_61
def v_X4_tidy (cr : Nat → TR) (a1 : Int32) : Int32 := if v_X4_isNone a1 = 0 then (om (v_X4_tidied (cr a1.toNatClampNeg)) 0 (fun t5 => 0)) else 1
set_option maxHeartbeats 4000000 in
set_option maxRecDepth 100000 in
theorem c_X4_tidy (l : Launch) (g : GG) (N : Nat) (ad : Nat → Nat) (y : Nat → va_E) (cr dr : Nat → TR) (th kn rf : Int32) (pl : Nat → TR) (pz : Nat) (mc : Int32) (hN : 36 + pz ≤ N) (b0 : Nat) (hb0 : ad 24 = b0) (a1 : Int32) : KR l yX4_tidy cX4_tidy 2 (.object "java/lang/String") (rm 7 7 169) g [.ref b0, .int a1] N ad (mg g ad y cr dr th kn rf pl pz mc) N (fun r ad' f' => ad = ad' ∧ (∃ a : Nat, some a = r) ∧ mg g ad y cr dr (v_X4_tidy cr a1) kn rf pl pz mc = f') := by
  intro sz
  refine mt_start (by decide) (Nat.le_of_ble_eq_true rfl) ?_
  intro p e s m args below meth c hsz X hr hnam hA hK hT H locs B ls hl
  obtain ⟨hx, hb, hml, hown, hts, hlocks⟩ := id X
  have hl : lv_has ls 2 [(0, .ref b0), (1, .int a1)] := hl
  refine lv_aload_n hx hb dX4_tidy_0 rfl (lv_at hl 0 rfl) ?_
  refine lv_iload_n hx hb dX4_tidy_1 rfl (lv_at hl 1 rfl) ?_
  refine k_i (k := 0) (n := 0) hA B (u_S (rest := [.ref b0]) X (c_X4_isNone l g N ad (mg g ad y cr dr th kn rf pl pz mc) a1 H.size) mw_X4_isNone md_X4_isNone rfl lk_X4_95 ⟨Nat.le_of_ble_eq_true rfl, Nat.le_of_ble_eq_true rfl⟩ hA hK hT B hl.1 rfl (Nat.le_of_ble_eq_true rfl) dX4_tidy_2 ⟨Nat.le_of_ble_eq_true rfl, Nat.le_of_ble_eq_true rfl⟩) (Nat.le_of_ble_eq_true rfl) (Nat.le_of_ble_eq_true rfl) (fun r1 ad1 f' H locs hw B => ?_)
  obtain ⟨rfl, rfl, rfl⟩ := hw
  refine lv_iconst (v := 0) hx hb dX4_tidy_5 (by decide) ?_
  by_cases s2 : v_X4_isNone a1 = 0
  · rw [s2]
    refine k_i (k := 0) (n := 0) hA B (b_V (q := 24) (rest := []) hb0 X (c_X4_stops l g N ad y cr dr th kn rf pl pz mc (by omega) b0 hb0 0 0 H.size) mw_X4_stops md_X4_stops rfl lk_X4_99 ⟨Nat.le_of_ble_eq_true rfl, Nat.le_of_ble_eq_true rfl⟩ hA hK hT B (by omega) mg_24 rfl rfl hl.1 rfl (Nat.le_of_ble_eq_true rfl) dX4_tidy_6 ⟨Nat.le_of_ble_eq_true rfl, Nat.le_of_ble_eq_true rfl⟩) (Nat.le_of_ble_eq_true rfl) (Nat.le_of_ble_eq_true rfl) (fun r ad' f' H locs hw B => ?_)
    rw [st_00] at hw
    dsimp only at hw
    obtain ⟨rfl, rfl, rfl⟩ := hw
    have B : WB g (aw N ad sz) s.heap N ad (mg g ad y cr dr 0 kn rf pl pz mc) H locs := B
    refine lv_if_eq (tgt := 17) hx hb dX4_tidy_9 (by decide) (fun _ => ?_) (fun z => absurd z (by decide))
    refine lv_aload_n hx hb dX4_tidy_17 rfl (lv_at hl 0 rfl) ?_
    refine b_get (q := 24) (k := 1) hb0 X hK B rfl in_X4 (by omega) mg_24 (by decide) lk_X4_11 rfl rfl dX4_tidy_18 ?_
    refine lv_iload_n hx hb dX4_tidy_21 rfl (lv_at hl 1 rfl) ?_
    refine b_aald (q := 25) (t0 := 2) (v := ad (28 + a1.toNatClampNeg)) rfl X hK B (by omega) mg_25 rfl rfl (no_in s2) rfl dX4_tidy_22 ?_
    have g3 : a1.toNatClampNeg < 4 := (no_lt s2)
    refine k_r (k := 1) (n := 3) hA B (u_S (rest := []) X (c_X4_tidied l g N ad (mg g ad y cr dr 0 kn rf pl pz mc) (28 + a1.toNatClampNeg) (ad (28 + a1.toNatClampNeg)) (cr a1.toNatClampNeg) (pl_cr hN g3) rfl (mg_cr g3) H.size) mw_X4_tidied md_X4_tidied rfl lk_X4_125 ⟨Nat.le_of_ble_eq_true rfl, Nat.le_of_ble_eq_true rfl⟩ hA hK hT B hl.1 rfl (Nat.le_of_ble_eq_true rfl) dX4_tidy_23 ⟨Nat.le_of_ble_eq_true rfl, Nat.le_of_ble_eq_true rfl⟩) (Nat.le_of_ble_eq_true rfl) (Nat.le_of_ble_eq_true rfl) (fun r4 ad4 f' H locs hw B => ?_)
    generalize o5 : (v_X4_tidied (cr a1.toNatClampNeg)) = v9 at hw B
    cases v9 with
    | none =>
      obtain ⟨rfl, rfl, rfl⟩ := pw_n hw
      refine k_r (k := 1) (n := 3) hA B (u_S (rest := []) X (c_W_toldN l g N ad (mg g ad y cr dr 0 kn rf pl pz mc) H.size) mw_X4_told md_X4_told rfl lk_X4_145 ⟨Nat.le_of_ble_eq_true rfl, Nat.le_of_ble_eq_true rfl⟩ hA hK hT B hl.1 rfl (Nat.le_of_ble_eq_true rfl) dX4_tidy_26 ⟨Nat.le_of_ble_eq_true rfl, Nat.le_of_ble_eq_true rfl⟩) (Nat.le_of_ble_eq_true rfl) (Nat.le_of_ble_eq_true rfl) (fun r ad' f' H locs hw B => ?_)
      obtain ⟨rfl, rfl, rfl⟩ := hw
      have ev := (show v_X4_tidy cr a1 = 0 from by unfold v_X4_tidy; rw [if_pos s2, om_none o5])
      exact rt_r (r := some (g.2.2 (100 + 10))) rfl X hr (Or.inl ⟨_, rfl⟩) (ad, mg g ad y cr dr 0 kn rf pl pz mc) B (PO_of B) ⟨rfl, ⟨_, rfl⟩, by rw [ev]⟩ (Nat.le_of_ble_eq_true rfl) (Nat.le_of_ble_eq_true rfl) dX4_tidy_29
    | some t5 =>
      obtain ⟨z5, rfl, rfl, rfl⟩ := pw_s hw
      have B : WB g (aw N ad sz) s.heap (N + 1) (va_up ad N z5) (mg g (va_up ad N z5) (va_up y N (c_row g t5)) cr dr 0 kn rf pl pz mc) H locs := WM_push (by omega) B
      refine k_r (k := 7) (n := 169) hA B (u_S (rest := []) X (c_W_told l g (N + 1) (va_up ad N z5) (mg g (va_up ad N z5) (va_up y N (c_row g t5)) cr dr 0 kn rf pl pz mc) N z5 t5 (Nat.lt_succ_self _) up_eq ((mg_hi (by omega)).trans up_eq) H.size) mw_X4_told md_X4_told rfl lk_X4_145 ⟨Nat.le_of_ble_eq_true rfl, Nat.le_of_ble_eq_true rfl⟩ hA hK hT B hl.1 rfl (Nat.le_of_ble_eq_true rfl) dX4_tidy_26 ⟨Nat.le_of_ble_eq_true rfl, Nat.le_of_ble_eq_true rfl⟩) (Nat.le_of_ble_eq_true rfl) (Nat.le_of_ble_eq_true rfl) (fun r ad' f' H locs hw B => ?_)
      obtain ⟨a6, a6x, h6, hF6, rfl, rfl, rfl⟩ := hw
      have B : WB g (aw N ad sz) s.heap (N + 1 + 1 + 1) (va_up (va_up (va_up ad N z5) (N + 1) a6) (N + 1 + 1) a6x) (mg g (va_up (va_up (va_up ad N z5) (N + 1) a6) (N + 1 + 1) a6x) (va_up (va_up (va_up y N (c_row g t5)) (N + 1) (c_st a6x)) (N + 1 + 1) (c_ba g (tlen t5) h6)) cr dr 0 kn rf pl pz mc) H locs := WM_push2 (by omega) B
      have B : WB g (aw N ad sz) s.heap N ad (mg g ad y cr dr 0 kn rf pl pz mc) H locs := WM_drop B (by omega) (by omega) (fun _ hk => (((up_lt (Nat.lt_succ_of_lt (Nat.lt_succ_of_lt hk))).trans (up_lt (Nat.lt_succ_of_lt hk))).trans (up_lt hk))) (fun _ hk => (((up_lt (Nat.lt_succ_of_lt (Nat.lt_succ_of_lt hk))).trans (up_lt (Nat.lt_succ_of_lt hk))).trans (up_lt hk)))
      have ev := (show v_X4_tidy cr a1 = 0 from by unfold v_X4_tidy; rw [if_pos s2, om_some o5])
      exact rt_r (r := some (a6)) rfl X hr (Or.inl ⟨_, rfl⟩) (ad, mg g ad y cr dr 0 kn rf pl pz mc) B (PO_of B) ⟨rfl, ⟨_, rfl⟩, by rw [ev]⟩ (Nat.le_of_ble_eq_true rfl) (Nat.le_of_ble_eq_true rfl) dX4_tidy_29
  · have s2x : (v_X4_isNone a1) = 1 := (b01_X4_isNone).resolve_left s2
    rw [s2x]
    refine k_i (k := 0) (n := 0) hA B (b_V (q := 24) (rest := []) hb0 X (c_X4_stops l g N ad y cr dr th kn rf pl pz mc (by omega) b0 hb0 1 0 H.size) mw_X4_stops md_X4_stops rfl lk_X4_99 ⟨Nat.le_of_ble_eq_true rfl, Nat.le_of_ble_eq_true rfl⟩ hA hK hT B (by omega) mg_24 rfl rfl hl.1 rfl (Nat.le_of_ble_eq_true rfl) dX4_tidy_6 ⟨Nat.le_of_ble_eq_true rfl, Nat.le_of_ble_eq_true rfl⟩) (Nat.le_of_ble_eq_true rfl) (Nat.le_of_ble_eq_true rfl) (fun r ad' f' H locs hw B => ?_)
    rw [st_10] at hw
    dsimp only at hw
    obtain ⟨rfl, rfl, rfl⟩ := hw
    have B : WB g (aw N ad sz) s.heap N ad (mg g ad y cr dr 1 kn rf pl pz mc) H locs := B
    refine lv_if_eq (tgt := 17) hx hb dX4_tidy_9 (by decide) (fun z => absurd z (by decide)) (fun _ => ?_)
    refine b_ldc (i := 10) (by decide) rfl rfl X hT dX4_tidy_12 ?_
    refine lv_goto (tgt := 29) hx hb dX4_tidy_14 (by decide) ?_
    have ev := (show v_X4_tidy cr a1 = 1 from by unfold v_X4_tidy; rw [if_neg s2])
    exact rt_r (r := some (g.2.2 (100 + 10))) rfl X hr (Or.inl ⟨_, rfl⟩) (ad, mg g ad y cr dr 1 kn rf pl pz mc) B (PO_of B) ⟨rfl, ⟨_, rfl⟩, by rw [ev]⟩ (Nat.le_of_ble_eq_true rfl) (Nat.le_of_ble_eq_true rfl) dX4_tidy_29
def v_X4_opposite (cr : Nat → TR) (a1 : Int32) : Int32 := if v_X4_isNone a1 = 0 then (om (v_X4_opposed (cr a1.toNatClampNeg)) 0 (fun t5 => 0)) else 1
set_option maxHeartbeats 4000000 in
set_option maxRecDepth 100000 in
theorem c_X4_opposite (l : Launch) (g : GG) (N : Nat) (ad : Nat → Nat) (y : Nat → va_E) (cr dr : Nat → TR) (th kn rf : Int32) (pl : Nat → TR) (pz : Nat) (mc : Int32) (hN : 36 + pz ≤ N) (b0 : Nat) (hb0 : ad 24 = b0) (a1 : Int32) : KR l yX4_opposite cX4_opposite 2 (.object "java/lang/String") (rm 7 8 172) g [.ref b0, .int a1] N ad (mg g ad y cr dr th kn rf pl pz mc) N (fun r ad' f' => ad = ad' ∧ (∃ a : Nat, some a = r) ∧ mg g ad y cr dr (v_X4_opposite cr a1) kn rf pl pz mc = f') := by
  intro sz
  refine mt_start (by decide) (Nat.le_of_ble_eq_true rfl) ?_
  intro p e s m args below meth c hsz X hr hnam hA hK hT H locs B ls hl
  obtain ⟨hx, hb, hml, hown, hts, hlocks⟩ := id X
  have hl : lv_has ls 2 [(0, .ref b0), (1, .int a1)] := hl
  refine lv_aload_n hx hb dX4_opposite_0 rfl (lv_at hl 0 rfl) ?_
  refine lv_iload_n hx hb dX4_opposite_1 rfl (lv_at hl 1 rfl) ?_
  refine k_i (k := 0) (n := 0) hA B (u_S (rest := [.ref b0]) X (c_X4_isNone l g N ad (mg g ad y cr dr th kn rf pl pz mc) a1 H.size) mw_X4_isNone md_X4_isNone rfl lk_X4_95 ⟨Nat.le_of_ble_eq_true rfl, Nat.le_of_ble_eq_true rfl⟩ hA hK hT B hl.1 rfl (Nat.le_of_ble_eq_true rfl) dX4_opposite_2 ⟨Nat.le_of_ble_eq_true rfl, Nat.le_of_ble_eq_true rfl⟩) (Nat.le_of_ble_eq_true rfl) (Nat.le_of_ble_eq_true rfl) (fun r1 ad1 f' H locs hw B => ?_)
  obtain ⟨rfl, rfl, rfl⟩ := hw
  refine lv_iconst (v := 0) hx hb dX4_opposite_5 (by decide) ?_
  by_cases s2 : v_X4_isNone a1 = 0
  · rw [s2]
    refine k_i (k := 0) (n := 0) hA B (b_V (q := 24) (rest := []) hb0 X (c_X4_stops l g N ad y cr dr th kn rf pl pz mc (by omega) b0 hb0 0 0 H.size) mw_X4_stops md_X4_stops rfl lk_X4_99 ⟨Nat.le_of_ble_eq_true rfl, Nat.le_of_ble_eq_true rfl⟩ hA hK hT B (by omega) mg_24 rfl rfl hl.1 rfl (Nat.le_of_ble_eq_true rfl) dX4_opposite_6 ⟨Nat.le_of_ble_eq_true rfl, Nat.le_of_ble_eq_true rfl⟩) (Nat.le_of_ble_eq_true rfl) (Nat.le_of_ble_eq_true rfl) (fun r ad' f' H locs hw B => ?_)
    rw [st_00] at hw
    dsimp only at hw
    obtain ⟨rfl, rfl, rfl⟩ := hw
    have B : WB g (aw N ad sz) s.heap N ad (mg g ad y cr dr 0 kn rf pl pz mc) H locs := B
    refine lv_if_eq (tgt := 17) hx hb dX4_opposite_9 (by decide) (fun _ => ?_) (fun z => absurd z (by decide))
    refine lv_aload_n hx hb dX4_opposite_17 rfl (lv_at hl 0 rfl) ?_
    refine b_get (q := 24) (k := 1) hb0 X hK B rfl in_X4 (by omega) mg_24 (by decide) lk_X4_11 rfl rfl dX4_opposite_18 ?_
    refine lv_iload_n hx hb dX4_opposite_21 rfl (lv_at hl 1 rfl) ?_
    refine b_aald (q := 25) (t0 := 2) (v := ad (28 + a1.toNatClampNeg)) rfl X hK B (by omega) mg_25 rfl rfl (no_in s2) rfl dX4_opposite_22 ?_
    have g3 : a1.toNatClampNeg < 4 := (no_lt s2)
    refine k_r (k := 2) (n := 6) hA B (u_S (rest := []) X (c_X4_opposed l g N ad (mg g ad y cr dr 0 kn rf pl pz mc) (28 + a1.toNatClampNeg) (ad (28 + a1.toNatClampNeg)) (cr a1.toNatClampNeg) (pl_cr hN g3) rfl (mg_cr g3) H.size) mw_X4_opposed md_X4_opposed rfl lk_X4_121 ⟨Nat.le_of_ble_eq_true rfl, Nat.le_of_ble_eq_true rfl⟩ hA hK hT B hl.1 rfl (Nat.le_of_ble_eq_true rfl) dX4_opposite_23 ⟨Nat.le_of_ble_eq_true rfl, Nat.le_of_ble_eq_true rfl⟩) (Nat.le_of_ble_eq_true rfl) (Nat.le_of_ble_eq_true rfl) (fun r4 ad4 f' H locs hw B => ?_)
    generalize o5 : (v_X4_opposed (cr a1.toNatClampNeg)) = v9 at hw B
    cases v9 with
    | none =>
      obtain ⟨rfl, rfl, rfl⟩ := pw_n hw
      refine k_r (k := 2) (n := 6) hA B (u_S (rest := []) X (c_W_toldN l g N ad (mg g ad y cr dr 0 kn rf pl pz mc) H.size) mw_X4_told md_X4_told rfl lk_X4_145 ⟨Nat.le_of_ble_eq_true rfl, Nat.le_of_ble_eq_true rfl⟩ hA hK hT B hl.1 rfl (Nat.le_of_ble_eq_true rfl) dX4_opposite_26 ⟨Nat.le_of_ble_eq_true rfl, Nat.le_of_ble_eq_true rfl⟩) (Nat.le_of_ble_eq_true rfl) (Nat.le_of_ble_eq_true rfl) (fun r ad' f' H locs hw B => ?_)
      obtain ⟨rfl, rfl, rfl⟩ := hw
      have ev := (show v_X4_opposite cr a1 = 0 from by unfold v_X4_opposite; rw [if_pos s2, om_none o5])
      exact rt_r (r := some (g.2.2 (100 + 10))) rfl X hr (Or.inl ⟨_, rfl⟩) (ad, mg g ad y cr dr 0 kn rf pl pz mc) B (PO_of B) ⟨rfl, ⟨_, rfl⟩, by rw [ev]⟩ (Nat.le_of_ble_eq_true rfl) (Nat.le_of_ble_eq_true rfl) dX4_opposite_29
    | some t5 =>
      obtain ⟨z5, rfl, rfl, rfl⟩ := pw_s hw
      have B : WB g (aw N ad sz) s.heap (N + 1) (va_up ad N z5) (mg g (va_up ad N z5) (va_up y N (c_row g t5)) cr dr 0 kn rf pl pz mc) H locs := WM_push (by omega) B
      refine k_r (k := 8) (n := 172) hA B (u_S (rest := []) X (c_W_told l g (N + 1) (va_up ad N z5) (mg g (va_up ad N z5) (va_up y N (c_row g t5)) cr dr 0 kn rf pl pz mc) N z5 t5 (Nat.lt_succ_self _) up_eq ((mg_hi (by omega)).trans up_eq) H.size) mw_X4_told md_X4_told rfl lk_X4_145 ⟨Nat.le_of_ble_eq_true rfl, Nat.le_of_ble_eq_true rfl⟩ hA hK hT B hl.1 rfl (Nat.le_of_ble_eq_true rfl) dX4_opposite_26 ⟨Nat.le_of_ble_eq_true rfl, Nat.le_of_ble_eq_true rfl⟩) (Nat.le_of_ble_eq_true rfl) (Nat.le_of_ble_eq_true rfl) (fun r ad' f' H locs hw B => ?_)
      obtain ⟨a6, a6x, h6, hF6, rfl, rfl, rfl⟩ := hw
      have B : WB g (aw N ad sz) s.heap (N + 1 + 1 + 1) (va_up (va_up (va_up ad N z5) (N + 1) a6) (N + 1 + 1) a6x) (mg g (va_up (va_up (va_up ad N z5) (N + 1) a6) (N + 1 + 1) a6x) (va_up (va_up (va_up y N (c_row g t5)) (N + 1) (c_st a6x)) (N + 1 + 1) (c_ba g (tlen t5) h6)) cr dr 0 kn rf pl pz mc) H locs := WM_push2 (by omega) B
      have B : WB g (aw N ad sz) s.heap N ad (mg g ad y cr dr 0 kn rf pl pz mc) H locs := WM_drop B (by omega) (by omega) (fun _ hk => (((up_lt (Nat.lt_succ_of_lt (Nat.lt_succ_of_lt hk))).trans (up_lt (Nat.lt_succ_of_lt hk))).trans (up_lt hk))) (fun _ hk => (((up_lt (Nat.lt_succ_of_lt (Nat.lt_succ_of_lt hk))).trans (up_lt (Nat.lt_succ_of_lt hk))).trans (up_lt hk)))
      have ev := (show v_X4_opposite cr a1 = 0 from by unfold v_X4_opposite; rw [if_pos s2, om_some o5])
      exact rt_r (r := some (a6)) rfl X hr (Or.inl ⟨_, rfl⟩) (ad, mg g ad y cr dr 0 kn rf pl pz mc) B (PO_of B) ⟨rfl, ⟨_, rfl⟩, by rw [ev]⟩ (Nat.le_of_ble_eq_true rfl) (Nat.le_of_ble_eq_true rfl) dX4_opposite_29
  · have s2x : (v_X4_isNone a1) = 1 := (b01_X4_isNone).resolve_left s2
    rw [s2x]
    refine k_i (k := 0) (n := 0) hA B (b_V (q := 24) (rest := []) hb0 X (c_X4_stops l g N ad y cr dr th kn rf pl pz mc (by omega) b0 hb0 1 0 H.size) mw_X4_stops md_X4_stops rfl lk_X4_99 ⟨Nat.le_of_ble_eq_true rfl, Nat.le_of_ble_eq_true rfl⟩ hA hK hT B (by omega) mg_24 rfl rfl hl.1 rfl (Nat.le_of_ble_eq_true rfl) dX4_opposite_6 ⟨Nat.le_of_ble_eq_true rfl, Nat.le_of_ble_eq_true rfl⟩) (Nat.le_of_ble_eq_true rfl) (Nat.le_of_ble_eq_true rfl) (fun r ad' f' H locs hw B => ?_)
    rw [st_10] at hw
    dsimp only at hw
    obtain ⟨rfl, rfl, rfl⟩ := hw
    have B : WB g (aw N ad sz) s.heap N ad (mg g ad y cr dr 1 kn rf pl pz mc) H locs := B
    refine lv_if_eq (tgt := 17) hx hb dX4_opposite_9 (by decide) (fun z => absurd z (by decide)) (fun _ => ?_)
    refine b_ldc (i := 10) (by decide) rfl rfl X hT dX4_opposite_12 ?_
    refine lv_goto (tgt := 29) hx hb dX4_opposite_14 (by decide) ?_
    have ev := (show v_X4_opposite cr a1 = 1 from by unfold v_X4_opposite; rw [if_neg s2])
    exact rt_r (r := some (g.2.2 (100 + 10))) rfl X hr (Or.inl ⟨_, rfl⟩) (ad, mg g ad y cr dr 1 kn rf pl pz mc) B (PO_of B) ⟨rfl, ⟨_, rfl⟩, by rw [ev]⟩ (Nat.le_of_ble_eq_true rfl) (Nat.le_of_ble_eq_true rfl) dX4_opposite_29
def v_X4_dateText (a1 : Int32) : Int32 := if v_X4_isNone a1 = 0 then 0 else 1
set_option maxHeartbeats 4000000 in
set_option maxRecDepth 100000 in
theorem c_X4_dateText (l : Launch) (g : GG) (N : Nat) (ad : Nat → Nat) (y : Nat → va_E) (cr dr : Nat → TR) (th kn rf : Int32) (pl : Nat → TR) (pz : Nat) (mc : Int32) (hN : 36 + pz ≤ N) (b0 : Nat) (hb0 : ad 24 = b0) (a1 : Int32) (hdr : ∀ i, i < 4 → okd (dr i)) : KR l yX4_dateText cX4_dateText 2 (.object "java/lang/String") (rm 7 4 34) g [.ref b0, .int a1] N ad (mg g ad y cr dr th kn rf pl pz mc) N (fun r ad' f' => ad = ad' ∧ (∃ a : Nat, some a = r) ∧ mg g ad y cr dr (v_X4_dateText a1) kn rf pl pz mc = f') := by
  intro sz
  refine mt_start (by decide) (Nat.le_of_ble_eq_true rfl) ?_
  intro p e s m args below meth c hsz X hr hnam hA hK hT H locs B ls hl
  obtain ⟨hx, hb, hml, hown, hts, hlocks⟩ := id X
  have hl : lv_has ls 2 [(0, .ref b0), (1, .int a1)] := hl
  refine lv_aload_n hx hb dX4_dateText_0 rfl (lv_at hl 0 rfl) ?_
  refine lv_iload_n hx hb dX4_dateText_1 rfl (lv_at hl 1 rfl) ?_
  refine k_i (k := 0) (n := 0) hA B (u_S (rest := [.ref b0]) X (c_X4_isNone l g N ad (mg g ad y cr dr th kn rf pl pz mc) a1 H.size) mw_X4_isNone md_X4_isNone rfl lk_X4_95 ⟨Nat.le_of_ble_eq_true rfl, Nat.le_of_ble_eq_true rfl⟩ hA hK hT B hl.1 rfl (Nat.le_of_ble_eq_true rfl) dX4_dateText_2 ⟨Nat.le_of_ble_eq_true rfl, Nat.le_of_ble_eq_true rfl⟩) (Nat.le_of_ble_eq_true rfl) (Nat.le_of_ble_eq_true rfl) (fun r1 ad1 f' H locs hw B => ?_)
  obtain ⟨rfl, rfl, rfl⟩ := hw
  refine lv_iconst (v := 0) hx hb dX4_dateText_5 (by decide) ?_
  by_cases s2 : v_X4_isNone a1 = 0
  · rw [s2]
    refine k_i (k := 0) (n := 0) hA B (b_V (q := 24) (rest := []) hb0 X (c_X4_stops l g N ad y cr dr th kn rf pl pz mc (by omega) b0 hb0 0 0 H.size) mw_X4_stops md_X4_stops rfl lk_X4_99 ⟨Nat.le_of_ble_eq_true rfl, Nat.le_of_ble_eq_true rfl⟩ hA hK hT B (by omega) mg_24 rfl rfl hl.1 rfl (Nat.le_of_ble_eq_true rfl) dX4_dateText_6 ⟨Nat.le_of_ble_eq_true rfl, Nat.le_of_ble_eq_true rfl⟩) (Nat.le_of_ble_eq_true rfl) (Nat.le_of_ble_eq_true rfl) (fun r ad' f' H locs hw B => ?_)
    rw [st_00] at hw
    dsimp only at hw
    obtain ⟨rfl, rfl, rfl⟩ := hw
    have B : WB g (aw N ad sz) s.heap N ad (mg g ad y cr dr 0 kn rf pl pz mc) H locs := B
    refine lv_if_eq (tgt := 17) hx hb dX4_dateText_9 (by decide) (fun _ => ?_) (fun z => absurd z (by decide))
    refine lv_aload_n hx hb dX4_dateText_17 rfl (lv_at hl 0 rfl) ?_
    refine b_get (q := 24) (k := 3) hb0 X hK B rfl in_X4 (by omega) mg_24 (by decide) lk_X4_23 rfl rfl dX4_dateText_18 ?_
    refine lv_iload_n hx hb dX4_dateText_21 rfl (lv_at hl 1 rfl) ?_
    refine b_aald (q := 26) (t0 := 2) (v := ad (32 + a1.toNatClampNeg)) rfl X hK B (by omega) mg_26 rfl rfl (no_in s2) rfl dX4_dateText_22 ?_
    have g3 : a1.toNatClampNeg < 4 := (no_lt s2)
    refine k_r (k := 4) (n := 34) hA B (u_S (rest := []) X (c_W_date l g N ad (mg g ad y cr dr 0 kn rf pl pz mc) (32 + a1.toNatClampNeg) (ad (32 + a1.toNatClampNeg)) (dr a1.toNatClampNeg) (pl_dr hN g3) rfl (mg_dr g3) (hdr _ g3) H.size) mw_X4_dateTold md_X4_dateTold rfl lk_X4_232 ⟨Nat.le_of_ble_eq_true rfl, Nat.le_of_ble_eq_true rfl⟩ hA hK hT B hl.1 rfl (Nat.le_of_ble_eq_true rfl) dX4_dateText_23 ⟨Nat.le_of_ble_eq_true rfl, Nat.le_of_ble_eq_true rfl⟩) (Nat.le_of_ble_eq_true rfl) (Nat.le_of_ble_eq_true rfl) (fun r ad' f' H locs hw B => ?_)
    obtain ⟨a4, a4x, h4, hF4, rfl, rfl, rfl⟩ := hw
    have B : WB g (aw N ad sz) s.heap (N + 1 + 1) (va_up (va_up ad N a4) (N + 1) a4x) (mg g (va_up (va_up ad N a4) (N + 1) a4x) (va_up (va_up y N (c_st a4x)) (N + 1) (c_ba g (dlen (dr a1.toNatClampNeg)) h4)) cr dr 0 kn rf pl pz mc) H locs := WM_push2 (by omega) B
    have B : WB g (aw N ad sz) s.heap N ad (mg g ad y cr dr 0 kn rf pl pz mc) H locs := WM_drop B (by omega) (by omega) (fun _ hk => ((up_lt (Nat.lt_succ_of_lt hk)).trans (up_lt hk))) (fun _ hk => ((up_lt (Nat.lt_succ_of_lt hk)).trans (up_lt hk)))
    have ev := (show v_X4_dateText a1 = 0 from by unfold v_X4_dateText; rw [if_pos s2])
    exact rt_r (r := some (a4)) rfl X hr (Or.inl ⟨_, rfl⟩) (ad, mg g ad y cr dr 0 kn rf pl pz mc) B (PO_of B) ⟨rfl, ⟨_, rfl⟩, by rw [ev]⟩ (Nat.le_of_ble_eq_true rfl) (Nat.le_of_ble_eq_true rfl) dX4_dateText_26
  · have s2x : (v_X4_isNone a1) = 1 := (b01_X4_isNone).resolve_left s2
    rw [s2x]
    refine k_i (k := 0) (n := 0) hA B (b_V (q := 24) (rest := []) hb0 X (c_X4_stops l g N ad y cr dr th kn rf pl pz mc (by omega) b0 hb0 1 0 H.size) mw_X4_stops md_X4_stops rfl lk_X4_99 ⟨Nat.le_of_ble_eq_true rfl, Nat.le_of_ble_eq_true rfl⟩ hA hK hT B (by omega) mg_24 rfl rfl hl.1 rfl (Nat.le_of_ble_eq_true rfl) dX4_dateText_6 ⟨Nat.le_of_ble_eq_true rfl, Nat.le_of_ble_eq_true rfl⟩) (Nat.le_of_ble_eq_true rfl) (Nat.le_of_ble_eq_true rfl) (fun r ad' f' H locs hw B => ?_)
    rw [st_10] at hw
    dsimp only at hw
    obtain ⟨rfl, rfl, rfl⟩ := hw
    have B : WB g (aw N ad sz) s.heap N ad (mg g ad y cr dr 1 kn rf pl pz mc) H locs := B
    refine lv_if_eq (tgt := 17) hx hb dX4_dateText_9 (by decide) (fun z => absurd z (by decide)) (fun _ => ?_)
    refine b_ldc (i := 10) (by decide) rfl rfl X hT dX4_dateText_12 ?_
    refine lv_goto (tgt := 26) hx hb dX4_dateText_14 (by decide) ?_
    have ev := (show v_X4_dateText a1 = 1 from by unfold v_X4_dateText; rw [if_neg s2])
    exact rt_r (r := some (g.2.2 (100 + 10))) rfl X hr (Or.inl ⟨_, rfl⟩) (ad, mg g ad y cr dr 1 kn rf pl pz mc) B (PO_of B) ⟨rfl, ⟨_, rfl⟩, by rw [ev]⟩ (Nat.le_of_ble_eq_true rfl) (Nat.le_of_ble_eq_true rfl) dX4_dateText_26
def v_X4_moved (cr : Nat → TR) (dr : Nat → TR) (a1 : Int32) (a2 : Int32) (a3 : Int32) : Int32 := if (v_X4_isNone a1) = 0 then (if (v_X4_isNone a2) = 0 then (if a3 = 0 then (om (v_X4_onBy (dr a1.toNatClampNeg) (cr a2.toNatClampNeg) 1) 0 (fun t7 => 0)) else (om (v_X4_onBy (dr a1.toNatClampNeg) (cr a2.toNatClampNeg) (-1)) 0 (fun t10 => 0))) else 1) else 1
set_option maxHeartbeats 4000000 in
set_option maxRecDepth 100000 in
theorem c_X4_moved (l : Launch) (g : GG) (N : Nat) (ad : Nat → Nat) (y : Nat → va_E) (cr dr : Nat → TR) (th kn rf : Int32) (pl : Nat → TR) (pz : Nat) (mc : Int32) (hN : 36 + pz ≤ N) (b0 : Nat) (hb0 : ad 24 = b0) (a1 : Int32) (a2 : Int32) (a3 : Int32) (hdr : ∀ i, i < 4 → okd (dr i)) : KR l yX4_moved cX4_moved 4 (.object "java/lang/String") (rm 8 6 40) g [.ref b0, .int a1, .int a2, .int a3] N ad (mg g ad y cr dr th kn rf pl pz mc) N (fun r ad' f' => ad = ad' ∧ (∃ a : Nat, some a = r) ∧ mg g ad y cr dr (v_X4_moved cr dr a1 a2 a3) kn rf pl pz mc = f') := by
  intro sz
  refine mt_start (by decide) (Nat.le_of_ble_eq_true rfl) ?_
  intro p e s m args below meth c hsz X hr hnam hA hK hT H locs B ls hl
  obtain ⟨hx, hb, hml, hown, hts, hlocks⟩ := id X
  have hl : lv_has ls 4 [(0, .ref b0), (1, .int a1), (2, .int a2), (3, .int a3)] := hl
  refine lv_aload_n hx hb dX4_moved_0 rfl (lv_at hl 0 rfl) ?_
  refine lv_iload_n hx hb dX4_moved_1 rfl (lv_at hl 1 rfl) ?_
  refine k_i (k := 0) (n := 0) hA B (u_S (rest := [.ref b0]) X (c_X4_isNone l g N ad (mg g ad y cr dr th kn rf pl pz mc) a1 H.size) mw_X4_isNone md_X4_isNone rfl lk_X4_95 ⟨Nat.le_of_ble_eq_true rfl, Nat.le_of_ble_eq_true rfl⟩ hA hK hT B hl.1 rfl (Nat.le_of_ble_eq_true rfl) dX4_moved_2 ⟨Nat.le_of_ble_eq_true rfl, Nat.le_of_ble_eq_true rfl⟩) (Nat.le_of_ble_eq_true rfl) (Nat.le_of_ble_eq_true rfl) (fun r1 ad1 f' H locs hw B => ?_)
  obtain ⟨rfl, rfl, rfl⟩ := hw
  refine lv_if_ne (tgt := 15) hx hb dX4_moved_5 (by decide) (fun c2 => ?_) (fun c2 => ?_)
  · refine lv_iconst (v := 1) hx hb dX4_moved_15 (by decide) ?_
    refine lv_goto (tgt := 20) hx hb dX4_moved_16 (by decide) ?_
    refine lv_iconst (v := 0) hx hb dX4_moved_20 (by decide) ?_
    refine k_i (k := 0) (n := 0) hA B (b_V (q := 24) (rest := []) hb0 X (c_X4_stops l g N ad y cr dr th kn rf pl pz mc (by omega) b0 hb0 1 0 H.size) mw_X4_stops md_X4_stops rfl lk_X4_99 ⟨Nat.le_of_ble_eq_true rfl, Nat.le_of_ble_eq_true rfl⟩ hA hK hT B (by omega) mg_24 rfl rfl hl.1 rfl (Nat.le_of_ble_eq_true rfl) dX4_moved_21 ⟨Nat.le_of_ble_eq_true rfl, Nat.le_of_ble_eq_true rfl⟩) (Nat.le_of_ble_eq_true rfl) (Nat.le_of_ble_eq_true rfl) (fun r ad' f' H locs hw B => ?_)
    rw [st_10] at hw
    dsimp only at hw
    obtain ⟨rfl, rfl, rfl⟩ := hw
    have B : WB g (aw N ad sz) s.heap N ad (mg g ad y cr dr 1 kn rf pl pz mc) H locs := B
    refine lv_if_eq (tgt := 32) hx hb dX4_moved_24 (by decide) (fun z => absurd z (by decide)) (fun _ => ?_)
    refine b_ldc (i := 10) (by decide) rfl rfl X hT dX4_moved_27 ?_
    refine lv_goto (tgt := 39) hx hb dX4_moved_29 (by decide) ?_
    have ev := (show v_X4_moved cr dr a1 a2 a3 = 1 from by unfold v_X4_moved; rw [if_neg c2])
    exact rt_r (r := some (g.2.2 (100 + 10))) rfl X hr (Or.inl ⟨_, rfl⟩) (ad, mg g ad y cr dr 1 kn rf pl pz mc) B (PO_of B) ⟨rfl, ⟨_, rfl⟩, by rw [ev]⟩ (Nat.le_of_ble_eq_true rfl) (Nat.le_of_ble_eq_true rfl) dX4_moved_39
  · refine lv_iload_n hx hb dX4_moved_8 rfl (lv_at hl 2 rfl) ?_
    refine k_i (k := 0) (n := 0) hA B (u_S (rest := [.ref b0]) X (c_X4_isNone l g N ad (mg g ad y cr dr th kn rf pl pz mc) a2 H.size) mw_X4_isNone md_X4_isNone rfl lk_X4_95 ⟨Nat.le_of_ble_eq_true rfl, Nat.le_of_ble_eq_true rfl⟩ hA hK hT B hl.1 rfl (Nat.le_of_ble_eq_true rfl) dX4_moved_9 ⟨Nat.le_of_ble_eq_true rfl, Nat.le_of_ble_eq_true rfl⟩) (Nat.le_of_ble_eq_true rfl) (Nat.le_of_ble_eq_true rfl) (fun r3 ad3 f' H locs hw B => ?_)
    obtain ⟨rfl, rfl, rfl⟩ := hw
    refine lv_if_eq (tgt := 19) hx hb dX4_moved_12 (by decide) (fun c4 => ?_) (fun c4 => ?_)
    · refine lv_iconst (v := 0) hx hb dX4_moved_19 (by decide) ?_
      refine lv_iconst (v := 0) hx hb dX4_moved_20 (by decide) ?_
      refine k_i (k := 0) (n := 0) hA B (b_V (q := 24) (rest := []) hb0 X (c_X4_stops l g N ad y cr dr th kn rf pl pz mc (by omega) b0 hb0 0 0 H.size) mw_X4_stops md_X4_stops rfl lk_X4_99 ⟨Nat.le_of_ble_eq_true rfl, Nat.le_of_ble_eq_true rfl⟩ hA hK hT B (by omega) mg_24 rfl rfl hl.1 rfl (Nat.le_of_ble_eq_true rfl) dX4_moved_21 ⟨Nat.le_of_ble_eq_true rfl, Nat.le_of_ble_eq_true rfl⟩) (Nat.le_of_ble_eq_true rfl) (Nat.le_of_ble_eq_true rfl) (fun r ad' f' H locs hw B => ?_)
      rw [st_00] at hw
      dsimp only at hw
      obtain ⟨rfl, rfl, rfl⟩ := hw
      have B : WB g (aw N ad sz) s.heap N ad (mg g ad y cr dr 0 kn rf pl pz mc) H locs := B
      refine lv_if_eq (tgt := 32) hx hb dX4_moved_24 (by decide) (fun _ => ?_) (fun z => absurd z (by decide))
      refine lv_aload_n hx hb dX4_moved_32 rfl (lv_at hl 0 rfl) ?_
      refine lv_iload_n hx hb dX4_moved_33 rfl (lv_at hl 1 rfl) ?_
      refine lv_iload_n hx hb dX4_moved_34 rfl (lv_at hl 2 rfl) ?_
      refine lv_iload_n hx hb dX4_moved_35 rfl (lv_at hl 3 rfl) ?_
      by_cases sg5 : a3 = 0
      · cases o6 : (v_X4_onBy (dr a1.toNatClampNeg) (cr a2.toNatClampNeg) 1) with
        | none =>
          refine k_r (k := 2) (n := 6) hA B (b_V (q := 24) (rest := []) hb0 X (c_X4_movedNowN l g N ad y cr dr 0 kn rf pl pz mc (by omega) b0 hb0 a1 a2 a3 c2 c4 hdr (show v_X4_onBy (dr a1.toNatClampNeg) (cr a2.toNatClampNeg) (msg a3) = none by rw [show msg a3 = 1 from (if_pos sg5)]; exact o6) H.size) mw_X4_movedNow md_X4_movedNow rfl lk_X4_235 ⟨Nat.le_of_ble_eq_true rfl, Nat.le_of_ble_eq_true rfl⟩ hA hK hT B (by omega) mg_24 rfl rfl hl.1 rfl (Nat.le_of_ble_eq_true rfl) dX4_moved_36 ⟨Nat.le_of_ble_eq_true rfl, Nat.le_of_ble_eq_true rfl⟩) (Nat.le_of_ble_eq_true rfl) (Nat.le_of_ble_eq_true rfl) (fun r ad' f' H locs hw B => ?_)
          obtain ⟨rfl, rfl, rfl⟩ := hw
          have ev := (show v_X4_moved cr dr a1 a2 a3 = 0 from by unfold v_X4_moved; rw [if_pos c2, if_pos c4, if_pos sg5, om_none o6])
          exact rt_r (r := some (g.2.2 (100 + 10))) rfl X hr (Or.inl ⟨_, rfl⟩) (ad, mg g ad y cr dr 0 kn rf pl pz mc) B (PO_of B) ⟨rfl, ⟨_, rfl⟩, by rw [ev]⟩ (Nat.le_of_ble_eq_true rfl) (Nat.le_of_ble_eq_true rfl) dX4_moved_39
        | some t7 =>
          refine k_r (k := 6) (n := 40) hA B (b_V (q := 24) (rest := []) hb0 X (c_X4_movedNowY l g N ad y cr dr 0 kn rf pl pz mc (by omega) b0 hb0 a1 a2 a3 c2 c4 hdr t7 (show v_X4_onBy (dr a1.toNatClampNeg) (cr a2.toNatClampNeg) (msg a3) = some t7 by rw [show msg a3 = 1 from (if_pos sg5)]; exact o6) H.size) mw_X4_movedNow md_X4_movedNow rfl lk_X4_235 ⟨Nat.le_of_ble_eq_true rfl, Nat.le_of_ble_eq_true rfl⟩ hA hK hT B (by omega) mg_24 rfl rfl hl.1 rfl (Nat.le_of_ble_eq_true rfl) dX4_moved_36 ⟨Nat.le_of_ble_eq_true rfl, Nat.le_of_ble_eq_true rfl⟩) (Nat.le_of_ble_eq_true rfl) (Nat.le_of_ble_eq_true rfl) (fun r ad' f' H locs hw B => ?_)
          dsimp only at hw
          obtain ⟨a8, a8x, h8, hF8, rfl, rfl, rfl⟩ := hw
          have B : WB g (aw N ad sz) s.heap (N + 1 + 1) (va_up (va_up ad N a8) (N + 1) a8x) (mg g (va_up (va_up ad N a8) (N + 1) a8x) (va_up (va_up y N (c_st a8x)) (N + 1) (c_ba g (dlen t7) h8)) cr dr 0 kn rf pl pz mc) H locs := B
          have B : WB g (aw N ad sz) s.heap N ad (mg g ad y cr dr 0 kn rf pl pz mc) H locs := WM_drop B (by omega) (by omega) (fun _ hk => ((up_lt (Nat.lt_succ_of_lt hk)).trans (up_lt hk))) (fun _ hk => ((up_lt (Nat.lt_succ_of_lt hk)).trans (up_lt hk)))
          have ev := (show v_X4_moved cr dr a1 a2 a3 = 0 from by unfold v_X4_moved; rw [if_pos c2, if_pos c4, if_pos sg5, om_some o6])
          exact rt_r (r := some (a8)) rfl X hr (Or.inl ⟨_, rfl⟩) (ad, mg g ad y cr dr 0 kn rf pl pz mc) B (PO_of B) ⟨rfl, ⟨_, rfl⟩, by rw [ev]⟩ (Nat.le_of_ble_eq_true rfl) (Nat.le_of_ble_eq_true rfl) dX4_moved_39
      · cases o9 : (v_X4_onBy (dr a1.toNatClampNeg) (cr a2.toNatClampNeg) (-1)) with
        | none =>
          refine k_r (k := 2) (n := 6) hA B (b_V (q := 24) (rest := []) hb0 X (c_X4_movedNowN l g N ad y cr dr 0 kn rf pl pz mc (by omega) b0 hb0 a1 a2 a3 c2 c4 hdr (show v_X4_onBy (dr a1.toNatClampNeg) (cr a2.toNatClampNeg) (msg a3) = none by rw [show msg a3 = (-1) from (if_neg sg5)]; exact o9) H.size) mw_X4_movedNow md_X4_movedNow rfl lk_X4_235 ⟨Nat.le_of_ble_eq_true rfl, Nat.le_of_ble_eq_true rfl⟩ hA hK hT B (by omega) mg_24 rfl rfl hl.1 rfl (Nat.le_of_ble_eq_true rfl) dX4_moved_36 ⟨Nat.le_of_ble_eq_true rfl, Nat.le_of_ble_eq_true rfl⟩) (Nat.le_of_ble_eq_true rfl) (Nat.le_of_ble_eq_true rfl) (fun r ad' f' H locs hw B => ?_)
          obtain ⟨rfl, rfl, rfl⟩ := hw
          have ev := (show v_X4_moved cr dr a1 a2 a3 = 0 from by unfold v_X4_moved; rw [if_pos c2, if_pos c4, if_neg sg5, om_none o9])
          exact rt_r (r := some (g.2.2 (100 + 10))) rfl X hr (Or.inl ⟨_, rfl⟩) (ad, mg g ad y cr dr 0 kn rf pl pz mc) B (PO_of B) ⟨rfl, ⟨_, rfl⟩, by rw [ev]⟩ (Nat.le_of_ble_eq_true rfl) (Nat.le_of_ble_eq_true rfl) dX4_moved_39
        | some t10 =>
          refine k_r (k := 6) (n := 40) hA B (b_V (q := 24) (rest := []) hb0 X (c_X4_movedNowY l g N ad y cr dr 0 kn rf pl pz mc (by omega) b0 hb0 a1 a2 a3 c2 c4 hdr t10 (show v_X4_onBy (dr a1.toNatClampNeg) (cr a2.toNatClampNeg) (msg a3) = some t10 by rw [show msg a3 = (-1) from (if_neg sg5)]; exact o9) H.size) mw_X4_movedNow md_X4_movedNow rfl lk_X4_235 ⟨Nat.le_of_ble_eq_true rfl, Nat.le_of_ble_eq_true rfl⟩ hA hK hT B (by omega) mg_24 rfl rfl hl.1 rfl (Nat.le_of_ble_eq_true rfl) dX4_moved_36 ⟨Nat.le_of_ble_eq_true rfl, Nat.le_of_ble_eq_true rfl⟩) (Nat.le_of_ble_eq_true rfl) (Nat.le_of_ble_eq_true rfl) (fun r ad' f' H locs hw B => ?_)
          dsimp only at hw
          obtain ⟨a11, a11x, h11, hF11, rfl, rfl, rfl⟩ := hw
          have B : WB g (aw N ad sz) s.heap (N + 1 + 1) (va_up (va_up ad N a11) (N + 1) a11x) (mg g (va_up (va_up ad N a11) (N + 1) a11x) (va_up (va_up y N (c_st a11x)) (N + 1) (c_ba g (dlen t10) h11)) cr dr 0 kn rf pl pz mc) H locs := B
          have B : WB g (aw N ad sz) s.heap N ad (mg g ad y cr dr 0 kn rf pl pz mc) H locs := WM_drop B (by omega) (by omega) (fun _ hk => ((up_lt (Nat.lt_succ_of_lt hk)).trans (up_lt hk))) (fun _ hk => ((up_lt (Nat.lt_succ_of_lt hk)).trans (up_lt hk)))
          have ev := (show v_X4_moved cr dr a1 a2 a3 = 0 from by unfold v_X4_moved; rw [if_pos c2, if_pos c4, if_neg sg5, om_some o9])
          exact rt_r (r := some (a11)) rfl X hr (Or.inl ⟨_, rfl⟩) (ad, mg g ad y cr dr 0 kn rf pl pz mc) B (PO_of B) ⟨rfl, ⟨_, rfl⟩, by rw [ev]⟩ (Nat.le_of_ble_eq_true rfl) (Nat.le_of_ble_eq_true rfl) dX4_moved_39
    · refine lv_iconst (v := 1) hx hb dX4_moved_15 (by decide) ?_
      refine lv_goto (tgt := 20) hx hb dX4_moved_16 (by decide) ?_
      refine lv_iconst (v := 0) hx hb dX4_moved_20 (by decide) ?_
      refine k_i (k := 0) (n := 0) hA B (b_V (q := 24) (rest := []) hb0 X (c_X4_stops l g N ad y cr dr th kn rf pl pz mc (by omega) b0 hb0 1 0 H.size) mw_X4_stops md_X4_stops rfl lk_X4_99 ⟨Nat.le_of_ble_eq_true rfl, Nat.le_of_ble_eq_true rfl⟩ hA hK hT B (by omega) mg_24 rfl rfl hl.1 rfl (Nat.le_of_ble_eq_true rfl) dX4_moved_21 ⟨Nat.le_of_ble_eq_true rfl, Nat.le_of_ble_eq_true rfl⟩) (Nat.le_of_ble_eq_true rfl) (Nat.le_of_ble_eq_true rfl) (fun r ad' f' H locs hw B => ?_)
      rw [st_10] at hw
      dsimp only at hw
      obtain ⟨rfl, rfl, rfl⟩ := hw
      have B : WB g (aw N ad sz) s.heap N ad (mg g ad y cr dr 1 kn rf pl pz mc) H locs := B
      refine lv_if_eq (tgt := 32) hx hb dX4_moved_24 (by decide) (fun z => absurd z (by decide)) (fun _ => ?_)
      refine b_ldc (i := 10) (by decide) rfl rfl X hT dX4_moved_27 ?_
      refine lv_goto (tgt := 39) hx hb dX4_moved_29 (by decide) ?_
      have ev := (show v_X4_moved cr dr a1 a2 a3 = 1 from by unfold v_X4_moved; rw [if_pos c2, if_neg c4])
      exact rt_r (r := some (g.2.2 (100 + 10))) rfl X hr (Or.inl ⟨_, rfl⟩) (ad, mg g ad y cr dr 1 kn rf pl pz mc) B (PO_of B) ⟨rfl, ⟨_, rfl⟩, by rw [ev]⟩ (Nat.le_of_ble_eq_true rfl) (Nat.le_of_ble_eq_true rfl) dX4_moved_39
def v_X4_apart_ (dr : Nat → TR) (a1 : Int32) (a2 : Int32) : Int32 := if (v_X4_isNone a1) = 0 then (if (v_X4_isNone a2) = 0 then (om (v_X4_apart (dr a1.toNatClampNeg) (dr a2.toNatClampNeg)) 0 (fun t8 => 0)) else 1) else 1
set_option maxHeartbeats 4000000 in
set_option maxRecDepth 100000 in
theorem c_X4_apart_ (l : Launch) (g : GG) (N : Nat) (ad : Nat → Nat) (y : Nat → va_E) (cr dr : Nat → TR) (th kn rf : Int32) (pl : Nat → TR) (pz : Nat) (mc : Int32) (hN : 36 + pz ≤ N) (b0 : Nat) (hb0 : ad 24 = b0) (a1 : Int32) (a2 : Int32) (hdr : ∀ i, i < 4 → okd (dr i)) : KR l yX4_apart_ cX4_apart_ 3 (.object "java/lang/String") (rm 7 8 172) g [.ref b0, .int a1, .int a2] N ad (mg g ad y cr dr th kn rf pl pz mc) N (fun r ad' f' => ad = ad' ∧ (∃ a : Nat, some a = r) ∧ mg g ad y cr dr (v_X4_apart_ dr a1 a2) kn rf pl pz mc = f') := by
  intro sz
  refine mt_start (by decide) (Nat.le_of_ble_eq_true rfl) ?_
  intro p e s m args below meth c hsz X hr hnam hA hK hT H locs B ls hl
  obtain ⟨hx, hb, hml, hown, hts, hlocks⟩ := id X
  have hl : lv_has ls 3 [(0, .ref b0), (1, .int a1), (2, .int a2)] := hl
  refine lv_aload_n hx hb dX4_apart__0 rfl (lv_at hl 0 rfl) ?_
  refine lv_iload_n hx hb dX4_apart__1 rfl (lv_at hl 1 rfl) ?_
  refine k_i (k := 0) (n := 0) hA B (u_S (rest := [.ref b0]) X (c_X4_isNone l g N ad (mg g ad y cr dr th kn rf pl pz mc) a1 H.size) mw_X4_isNone md_X4_isNone rfl lk_X4_95 ⟨Nat.le_of_ble_eq_true rfl, Nat.le_of_ble_eq_true rfl⟩ hA hK hT B hl.1 rfl (Nat.le_of_ble_eq_true rfl) dX4_apart__2 ⟨Nat.le_of_ble_eq_true rfl, Nat.le_of_ble_eq_true rfl⟩) (Nat.le_of_ble_eq_true rfl) (Nat.le_of_ble_eq_true rfl) (fun r1 ad1 f' H locs hw B => ?_)
  obtain ⟨rfl, rfl, rfl⟩ := hw
  refine lv_if_ne (tgt := 15) hx hb dX4_apart__5 (by decide) (fun c2 => ?_) (fun c2 => ?_)
  · refine lv_iconst (v := 1) hx hb dX4_apart__15 (by decide) ?_
    refine lv_goto (tgt := 20) hx hb dX4_apart__16 (by decide) ?_
    refine lv_iconst (v := 0) hx hb dX4_apart__20 (by decide) ?_
    refine k_i (k := 0) (n := 0) hA B (b_V (q := 24) (rest := []) hb0 X (c_X4_stops l g N ad y cr dr th kn rf pl pz mc (by omega) b0 hb0 1 0 H.size) mw_X4_stops md_X4_stops rfl lk_X4_99 ⟨Nat.le_of_ble_eq_true rfl, Nat.le_of_ble_eq_true rfl⟩ hA hK hT B (by omega) mg_24 rfl rfl hl.1 rfl (Nat.le_of_ble_eq_true rfl) dX4_apart__21 ⟨Nat.le_of_ble_eq_true rfl, Nat.le_of_ble_eq_true rfl⟩) (Nat.le_of_ble_eq_true rfl) (Nat.le_of_ble_eq_true rfl) (fun r ad' f' H locs hw B => ?_)
    rw [st_10] at hw
    dsimp only at hw
    obtain ⟨rfl, rfl, rfl⟩ := hw
    have B : WB g (aw N ad sz) s.heap N ad (mg g ad y cr dr 1 kn rf pl pz mc) H locs := B
    refine lv_if_eq (tgt := 32) hx hb dX4_apart__24 (by decide) (fun z => absurd z (by decide)) (fun _ => ?_)
    refine b_ldc (i := 10) (by decide) rfl rfl X hT dX4_apart__27 ?_
    refine lv_goto (tgt := 50) hx hb dX4_apart__29 (by decide) ?_
    have ev := (show v_X4_apart_ dr a1 a2 = 1 from by unfold v_X4_apart_; rw [if_neg c2])
    exact rt_r (r := some (g.2.2 (100 + 10))) rfl X hr (Or.inl ⟨_, rfl⟩) (ad, mg g ad y cr dr 1 kn rf pl pz mc) B (PO_of B) ⟨rfl, ⟨_, rfl⟩, by rw [ev]⟩ (Nat.le_of_ble_eq_true rfl) (Nat.le_of_ble_eq_true rfl) dX4_apart__50
  · refine lv_iload_n hx hb dX4_apart__8 rfl (lv_at hl 2 rfl) ?_
    refine k_i (k := 0) (n := 0) hA B (u_S (rest := [.ref b0]) X (c_X4_isNone l g N ad (mg g ad y cr dr th kn rf pl pz mc) a2 H.size) mw_X4_isNone md_X4_isNone rfl lk_X4_95 ⟨Nat.le_of_ble_eq_true rfl, Nat.le_of_ble_eq_true rfl⟩ hA hK hT B hl.1 rfl (Nat.le_of_ble_eq_true rfl) dX4_apart__9 ⟨Nat.le_of_ble_eq_true rfl, Nat.le_of_ble_eq_true rfl⟩) (Nat.le_of_ble_eq_true rfl) (Nat.le_of_ble_eq_true rfl) (fun r3 ad3 f' H locs hw B => ?_)
    obtain ⟨rfl, rfl, rfl⟩ := hw
    refine lv_if_eq (tgt := 19) hx hb dX4_apart__12 (by decide) (fun c4 => ?_) (fun c4 => ?_)
    · refine lv_iconst (v := 0) hx hb dX4_apart__19 (by decide) ?_
      refine lv_iconst (v := 0) hx hb dX4_apart__20 (by decide) ?_
      refine k_i (k := 0) (n := 0) hA B (b_V (q := 24) (rest := []) hb0 X (c_X4_stops l g N ad y cr dr th kn rf pl pz mc (by omega) b0 hb0 0 0 H.size) mw_X4_stops md_X4_stops rfl lk_X4_99 ⟨Nat.le_of_ble_eq_true rfl, Nat.le_of_ble_eq_true rfl⟩ hA hK hT B (by omega) mg_24 rfl rfl hl.1 rfl (Nat.le_of_ble_eq_true rfl) dX4_apart__21 ⟨Nat.le_of_ble_eq_true rfl, Nat.le_of_ble_eq_true rfl⟩) (Nat.le_of_ble_eq_true rfl) (Nat.le_of_ble_eq_true rfl) (fun r ad' f' H locs hw B => ?_)
      rw [st_00] at hw
      dsimp only at hw
      obtain ⟨rfl, rfl, rfl⟩ := hw
      have B : WB g (aw N ad sz) s.heap N ad (mg g ad y cr dr 0 kn rf pl pz mc) H locs := B
      refine lv_if_eq (tgt := 32) hx hb dX4_apart__24 (by decide) (fun _ => ?_) (fun z => absurd z (by decide))
      refine lv_aload_n hx hb dX4_apart__32 rfl (lv_at hl 0 rfl) ?_
      refine b_get (q := 24) (k := 3) hb0 X hK B rfl in_X4 (by omega) mg_24 (by decide) lk_X4_23 rfl rfl dX4_apart__33 ?_
      refine lv_iload_n hx hb dX4_apart__36 rfl (lv_at hl 1 rfl) ?_
      refine b_aald (q := 26) (t0 := 2) (v := ad (32 + a1.toNatClampNeg)) rfl X hK B (by omega) mg_26 rfl rfl (no_in c2) rfl dX4_apart__37 ?_
      have g5 : a1.toNatClampNeg < 4 := (no_lt c2)
      refine lv_aload_n hx hb dX4_apart__38 rfl (lv_at hl 0 rfl) ?_
      refine b_get (q := 24) (k := 3) hb0 X hK B rfl in_X4 (by omega) mg_24 (by decide) lk_X4_23 rfl rfl dX4_apart__39 ?_
      refine lv_iload_n hx hb dX4_apart__42 rfl (lv_at hl 2 rfl) ?_
      refine b_aald (q := 26) (t0 := 2) (v := ad (32 + a2.toNatClampNeg)) rfl X hK B (by omega) mg_26 rfl rfl (no_in c4) rfl dX4_apart__43 ?_
      have g6 : a2.toNatClampNeg < 4 := (no_lt c4)
      refine k_r (k := 2) (n := 6) hA B (u_S (rest := []) X (c_X4_apart l g N ad (mg g ad y cr dr 0 kn rf pl pz mc) (32 + a1.toNatClampNeg) (ad (32 + a1.toNatClampNeg)) (dr a1.toNatClampNeg) (pl_dr hN g5) rfl (mg_dr g5) (32 + a2.toNatClampNeg) (ad (32 + a2.toNatClampNeg)) (dr a2.toNatClampNeg) (pl_dr hN g6) rfl (mg_dr g6) (hdr _ g5) (hdr _ g6) H.size) mw_X4_apart md_X4_apart rfl lk_X4_219 ⟨Nat.le_of_ble_eq_true rfl, Nat.le_of_ble_eq_true rfl⟩ hA hK hT B hl.1 rfl (Nat.le_of_ble_eq_true rfl) dX4_apart__44 ⟨Nat.le_of_ble_eq_true rfl, Nat.le_of_ble_eq_true rfl⟩) (Nat.le_of_ble_eq_true rfl) (Nat.le_of_ble_eq_true rfl) (fun r7 ad7 f' H locs hw B => ?_)
      generalize o8 : (v_X4_apart (dr a1.toNatClampNeg) (dr a2.toNatClampNeg)) = v9 at hw B
      cases v9 with
      | none =>
        obtain ⟨rfl, rfl, rfl⟩ := pw_n hw
        refine k_r (k := 2) (n := 6) hA B (u_S (rest := []) X (c_W_toldN l g N ad (mg g ad y cr dr 0 kn rf pl pz mc) H.size) mw_X4_told md_X4_told rfl lk_X4_145 ⟨Nat.le_of_ble_eq_true rfl, Nat.le_of_ble_eq_true rfl⟩ hA hK hT B hl.1 rfl (Nat.le_of_ble_eq_true rfl) dX4_apart__47 ⟨Nat.le_of_ble_eq_true rfl, Nat.le_of_ble_eq_true rfl⟩) (Nat.le_of_ble_eq_true rfl) (Nat.le_of_ble_eq_true rfl) (fun r ad' f' H locs hw B => ?_)
        obtain ⟨rfl, rfl, rfl⟩ := hw
        have ev := (show v_X4_apart_ dr a1 a2 = 0 from by unfold v_X4_apart_; rw [if_pos c2, if_pos c4, om_none o8])
        exact rt_r (r := some (g.2.2 (100 + 10))) rfl X hr (Or.inl ⟨_, rfl⟩) (ad, mg g ad y cr dr 0 kn rf pl pz mc) B (PO_of B) ⟨rfl, ⟨_, rfl⟩, by rw [ev]⟩ (Nat.le_of_ble_eq_true rfl) (Nat.le_of_ble_eq_true rfl) dX4_apart__50
      | some t8 =>
        obtain ⟨z8, rfl, rfl, rfl⟩ := pw_s hw
        have B : WB g (aw N ad sz) s.heap (N + 1) (va_up ad N z8) (mg g (va_up ad N z8) (va_up y N (c_row g t8)) cr dr 0 kn rf pl pz mc) H locs := WM_push (by omega) B
        refine k_r (k := 8) (n := 172) hA B (u_S (rest := []) X (c_W_told l g (N + 1) (va_up ad N z8) (mg g (va_up ad N z8) (va_up y N (c_row g t8)) cr dr 0 kn rf pl pz mc) N z8 t8 (Nat.lt_succ_self _) up_eq ((mg_hi (by omega)).trans up_eq) H.size) mw_X4_told md_X4_told rfl lk_X4_145 ⟨Nat.le_of_ble_eq_true rfl, Nat.le_of_ble_eq_true rfl⟩ hA hK hT B hl.1 rfl (Nat.le_of_ble_eq_true rfl) dX4_apart__47 ⟨Nat.le_of_ble_eq_true rfl, Nat.le_of_ble_eq_true rfl⟩) (Nat.le_of_ble_eq_true rfl) (Nat.le_of_ble_eq_true rfl) (fun r ad' f' H locs hw B => ?_)
        obtain ⟨a9, a9x, h9, hF9, rfl, rfl, rfl⟩ := hw
        have B : WB g (aw N ad sz) s.heap (N + 1 + 1 + 1) (va_up (va_up (va_up ad N z8) (N + 1) a9) (N + 1 + 1) a9x) (mg g (va_up (va_up (va_up ad N z8) (N + 1) a9) (N + 1 + 1) a9x) (va_up (va_up (va_up y N (c_row g t8)) (N + 1) (c_st a9x)) (N + 1 + 1) (c_ba g (tlen t8) h9)) cr dr 0 kn rf pl pz mc) H locs := WM_push2 (by omega) B
        have B : WB g (aw N ad sz) s.heap N ad (mg g ad y cr dr 0 kn rf pl pz mc) H locs := WM_drop B (by omega) (by omega) (fun _ hk => (((up_lt (Nat.lt_succ_of_lt (Nat.lt_succ_of_lt hk))).trans (up_lt (Nat.lt_succ_of_lt hk))).trans (up_lt hk))) (fun _ hk => (((up_lt (Nat.lt_succ_of_lt (Nat.lt_succ_of_lt hk))).trans (up_lt (Nat.lt_succ_of_lt hk))).trans (up_lt hk)))
        have ev := (show v_X4_apart_ dr a1 a2 = 0 from by unfold v_X4_apart_; rw [if_pos c2, if_pos c4, om_some o8])
        exact rt_r (r := some (a9)) rfl X hr (Or.inl ⟨_, rfl⟩) (ad, mg g ad y cr dr 0 kn rf pl pz mc) B (PO_of B) ⟨rfl, ⟨_, rfl⟩, by rw [ev]⟩ (Nat.le_of_ble_eq_true rfl) (Nat.le_of_ble_eq_true rfl) dX4_apart__50
    · refine lv_iconst (v := 1) hx hb dX4_apart__15 (by decide) ?_
      refine lv_goto (tgt := 20) hx hb dX4_apart__16 (by decide) ?_
      refine lv_iconst (v := 0) hx hb dX4_apart__20 (by decide) ?_
      refine k_i (k := 0) (n := 0) hA B (b_V (q := 24) (rest := []) hb0 X (c_X4_stops l g N ad y cr dr th kn rf pl pz mc (by omega) b0 hb0 1 0 H.size) mw_X4_stops md_X4_stops rfl lk_X4_99 ⟨Nat.le_of_ble_eq_true rfl, Nat.le_of_ble_eq_true rfl⟩ hA hK hT B (by omega) mg_24 rfl rfl hl.1 rfl (Nat.le_of_ble_eq_true rfl) dX4_apart__21 ⟨Nat.le_of_ble_eq_true rfl, Nat.le_of_ble_eq_true rfl⟩) (Nat.le_of_ble_eq_true rfl) (Nat.le_of_ble_eq_true rfl) (fun r ad' f' H locs hw B => ?_)
      rw [st_10] at hw
      dsimp only at hw
      obtain ⟨rfl, rfl, rfl⟩ := hw
      have B : WB g (aw N ad sz) s.heap N ad (mg g ad y cr dr 1 kn rf pl pz mc) H locs := B
      refine lv_if_eq (tgt := 32) hx hb dX4_apart__24 (by decide) (fun z => absurd z (by decide)) (fun _ => ?_)
      refine b_ldc (i := 10) (by decide) rfl rfl X hT dX4_apart__27 ?_
      refine lv_goto (tgt := 50) hx hb dX4_apart__29 (by decide) ?_
      have ev := (show v_X4_apart_ dr a1 a2 = 1 from by unfold v_X4_apart_; rw [if_pos c2, if_neg c4])
      exact rt_r (r := some (g.2.2 (100 + 10))) rfl X hr (Or.inl ⟨_, rfl⟩) (ad, mg g ad y cr dr 1 kn rf pl pz mc) B (PO_of B) ⟨rfl, ⟨_, rfl⟩, by rw [ev]⟩ (Nat.le_of_ble_eq_true rfl) (Nat.le_of_ble_eq_true rfl) dX4_apart__50
def v_X4_total_ (a1 : Int32) : Int32 := if v_X4_isNone a1 = 0 then 0 else 1
set_option maxHeartbeats 4000000 in
set_option maxRecDepth 100000 in
theorem c_X4_total_ (l : Launch) (g : GG) (N : Nat) (ad : Nat → Nat) (y : Nat → va_E) (cr dr : Nat → TR) (th kn rf : Int32) (pl : Nat → TR) (pz : Nat) (mc : Int32) (hN : 36 + pz ≤ N) (b0 : Nat) (hb0 : ad 24 = b0) (a1 : Int32) : KR l yX4_total_ cX4_total_ 2 (.object "java/lang/String") (rm 6 4 36) g [.ref b0, .int a1] N ad (mg g ad y cr dr th kn rf pl pz mc) N (fun r ad' f' => ad = ad' ∧ (∃ a : Nat, some a = r) ∧ mg g ad y cr dr (v_X4_total_ a1) kn rf pl pz mc = f') := by
  intro sz
  refine mt_start (by decide) (Nat.le_of_ble_eq_true rfl) ?_
  intro p e s m args below meth c hsz X hr hnam hA hK hT H locs B ls hl
  obtain ⟨hx, hb, hml, hown, hts, hlocks⟩ := id X
  have hl : lv_has ls 2 [(0, .ref b0), (1, .int a1)] := hl
  refine lv_aload_n hx hb dX4_total__0 rfl (lv_at hl 0 rfl) ?_
  refine lv_iload_n hx hb dX4_total__1 rfl (lv_at hl 1 rfl) ?_
  refine k_i (k := 0) (n := 0) hA B (u_S (rest := [.ref b0]) X (c_X4_isNone l g N ad (mg g ad y cr dr th kn rf pl pz mc) a1 H.size) mw_X4_isNone md_X4_isNone rfl lk_X4_95 ⟨Nat.le_of_ble_eq_true rfl, Nat.le_of_ble_eq_true rfl⟩ hA hK hT B hl.1 rfl (Nat.le_of_ble_eq_true rfl) dX4_total__2 ⟨Nat.le_of_ble_eq_true rfl, Nat.le_of_ble_eq_true rfl⟩) (Nat.le_of_ble_eq_true rfl) (Nat.le_of_ble_eq_true rfl) (fun r1 ad1 f' H locs hw B => ?_)
  obtain ⟨rfl, rfl, rfl⟩ := hw
  refine lv_iconst (v := 0) hx hb dX4_total__5 (by decide) ?_
  by_cases s2 : v_X4_isNone a1 = 0
  · rw [s2]
    refine k_i (k := 0) (n := 0) hA B (b_V (q := 24) (rest := []) hb0 X (c_X4_stops l g N ad y cr dr th kn rf pl pz mc (by omega) b0 hb0 0 0 H.size) mw_X4_stops md_X4_stops rfl lk_X4_99 ⟨Nat.le_of_ble_eq_true rfl, Nat.le_of_ble_eq_true rfl⟩ hA hK hT B (by omega) mg_24 rfl rfl hl.1 rfl (Nat.le_of_ble_eq_true rfl) dX4_total__6 ⟨Nat.le_of_ble_eq_true rfl, Nat.le_of_ble_eq_true rfl⟩) (Nat.le_of_ble_eq_true rfl) (Nat.le_of_ble_eq_true rfl) (fun r ad' f' H locs hw B => ?_)
    rw [st_00] at hw
    dsimp only at hw
    obtain ⟨rfl, rfl, rfl⟩ := hw
    have B : WB g (aw N ad sz) s.heap N ad (mg g ad y cr dr 0 kn rf pl pz mc) H locs := B
    refine lv_if_eq (tgt := 17) hx hb dX4_total__9 (by decide) (fun _ => ?_) (fun z => absurd z (by decide))
    refine g_new (ci := 1) (fs := [.null, .int 0, .int 0, .int 0]) (k1 := 1) (k2 := 4) X hA hK B rfl in_J4 tyJ4_ok lk_X4_63 (tb_in (lw_at 113 (by decide +kernel)) rfl) ii_J4 (by decide +kernel) (Nat.le_of_ble_eq_true rfl) (Nat.le_of_ble_eq_true rfl) (Nat.le_of_ble_eq_true rfl) (Nat.le_of_ble_eq_true rfl) dX4_total__17 (fun z3 H B => ?_)
    have B : WB g (aw N ad sz) s.heap (N + 1) (va_up ad N z3) (mg g (va_up ad N z3) (va_up y N (.inr (1, [.null, .int 0, .int 0, .int 0]))) cr dr 0 kn rf pl pz mc) H locs := WM_push (by omega) B
    refine lv_dup hx hb dX4_total__20 rfl ?_
    refine k_v (k := 2) (n := 20) hA B (b_I (rest := [.ref z3]) X (c_S_new l g (N + 1) (va_up ad N z3) (mg g (va_up ad N z3) (va_up y N (.inr (1, [.null, .int 0, .int 0, .int 0]))) cr dr 0 kn rf pl pz mc) N z3 (by omega) up_eq ((mg_hi (by omega)).trans up_eq) H.size) mw_J4_init_da8c8 rfl md_J4_init_da8c8 rfl lk_X4_65 ⟨Nat.le_of_ble_eq_true rfl, Nat.le_of_ble_eq_true rfl⟩ hA hK hT B hl.1 rfl (Nat.le_of_ble_eq_true rfl) dX4_total__21 ⟨Nat.le_of_ble_eq_true rfl, Nat.le_of_ble_eq_true rfl⟩) (Nat.le_of_ble_eq_true rfl) (Nat.le_of_ble_eq_true rfl) (fun ad' f' H locs hw B => ?_)
    obtain ⟨v4, rfl, rfl⟩ := hw
    have B := WM_up2 (by omega) (by omega) B (fun j hj => up_lt (by omega))
    rw [bx_uu] at B
    have B : WB g (aw N ad sz) s.heap (N + 1 + 1) (va_up (va_up ad N z3) (N + 1) v4) (mg g (va_up (va_up ad N z3) (N + 1) v4) (va_up (va_up y N (c_sb v4 0 0)) (N + 1) (c_ba g 16 (fun _ => 0))) cr dr 0 kn rf pl pz mc) H locs := B
    refine b_ldc (i := 10) (by decide) rfl rfl X hT dX4_total__24 ?_
    have hkk5 : st_len.getD 10 0 = 0 := rfl
    obtain ⟨e5a, e5b, e5c⟩ := g_no (q := (0 + st_len.getD 10 0)) (m := 16) (by omega)
    refine k_r (k := 2) (n := 20) hA B (b_V (q := N) (rest := []) ((up_lt (by omega)).trans up_eq) X (c_S_appK l g (N + 1 + 1) (va_up (va_up ad N z3) (N + 1) v4) (mg g (va_up (va_up ad N z3) (N + 1) v4) (va_up (va_up y N (c_sb v4 0 0)) (N + 1) (c_ba g 16 (fun _ => 0))) cr dr 0 kn rf pl pz mc) N (N + 1) z3 v4 0 16 0 (fun _ => 0) (by omega) (by omega) (by omega) ((up_lt (by omega)).trans up_eq) up_eq ((mg_hi (by omega)).trans ((up_lt (by omega)).trans up_eq)) ((mg_hi (by omega)).trans up_eq) sb_fit0 (by omega) (by omega) 10 (by decide) (by omega) H.size) mw_J4_append_15ec4 md_J4_append_15ec4 rfl lk_X4_72 ⟨Nat.le_of_ble_eq_true rfl, Nat.le_of_ble_eq_true rfl⟩ hA hK hT B (by omega) ((mg_hi (by omega)).trans ((up_lt (by omega)).trans up_eq)) rfl rfl hl.1 rfl (Nat.le_of_ble_eq_true rfl) dX4_total__26 (by dsimp only [rm]; omega)) (by dsimp only [rm]; omega) (by dsimp only [rm]; omega) (fun r ad' f' H locs hw B => ?_)
    obtain ⟨v5, h5, hF5, rfl, rfl, rfl⟩ := hw
    have B := WM_up2 (by omega) (by omega) B (fun j hj => va_up_ne _ _ (by omega))
    rw [bx_uu, sw_4 (by omega), e5a] at B
    have B : WB g (aw N ad sz) s.heap (N + 1 + 1) (va_up (va_up ad N z3) (N + 1) v5) (mg g (va_up (va_up ad N z3) (N + 1) v5) (va_up (va_up y N (c_sb v5 0 (0 + st_len.getD 10 0))) (N + 1) (c_ba g 16 h5)) cr dr 0 kn rf pl pz mc) H locs := B
    refine lv_aload_n hx hb dX4_total__29 rfl (lv_at hl 0 rfl) ?_
    refine b_get (q := 24) (k := 1) ((up_lt (by omega)).trans ((up_lt (by omega)).trans hb0)) X hK B rfl in_X4 (by omega) mg_24 (by decide) lk_X4_11 rfl rfl dX4_total__30 ?_
    refine lv_iload_n hx hb dX4_total__33 rfl (lv_at hl 1 rfl) ?_
    refine b_aald (q := 25) (t0 := 2) (v := (va_up (va_up ad N z3) (N + 1) v5) (28 + a1.toNatClampNeg)) rfl X hK B (by omega) mg_25 rfl rfl (no_in s2) rfl dX4_total__34 ?_
    have g6 : a1.toNatClampNeg < 4 := (no_lt s2)
    rw [show (va_up (va_up ad N z3) (N + 1) v5) (28 + a1.toNatClampNeg) = ad (28 + a1.toNatClampNeg) from ((up_lt (by omega)).trans (up_lt (by omega)))]
    refine k_l (k := 2) (n := 20) hA B (u_S (rest := [.ref z3]) X (c_X4_total l g (N + 1 + 1) (va_up (va_up ad N z3) (N + 1) v5) (mg g (va_up (va_up ad N z3) (N + 1) v5) (va_up (va_up y N (c_sb v5 0 (0 + st_len.getD 10 0))) (N + 1) (c_ba g 16 h5)) cr dr 0 kn rf pl pz mc) (28 + a1.toNatClampNeg) (ad (28 + a1.toNatClampNeg)) (cr a1.toNatClampNeg) (Nat.lt_succ_of_lt (Nat.lt_succ_of_lt (pl_cr hN g6))) ((up_lt (Nat.lt_succ_of_lt (pl_cr hN g6))).trans ((up_lt (pl_cr hN g6)).trans rfl)) (mg_cr g6) H.size) mw_X4_total md_X4_total rfl lk_X4_43 ⟨Nat.le_of_ble_eq_true rfl, Nat.le_of_ble_eq_true rfl⟩ hA hK hT B hl.1 rfl (Nat.le_of_ble_eq_true rfl) dX4_total__35 ⟨Nat.le_of_ble_eq_true rfl, Nat.le_of_ble_eq_true rfl⟩) (Nat.le_of_ble_eq_true rfl) (Nat.le_of_ble_eq_true rfl) (fun r7 ad7 f' H locs hw B => ?_)
    obtain ⟨rfl, rfl, rfl⟩ := hw
    have hz8 := tot_sz (cr a1.toNatClampNeg)
    obtain ⟨e8a, e8b, e8c⟩ := g_no (q := ((0 + st_len.getD 10 0) + ssl (v_X4_total (cr a1.toNatClampNeg)))) (m := 16) (by omega)
    refine k_r (k := 2) (n := 20) hA B (b_V (q := N) (rest := []) ((up_lt (by omega)).trans up_eq) X (c_S_appJ l g (N + 1 + 1) (va_up (va_up ad N z3) (N + 1) v5) (mg g (va_up (va_up ad N z3) (N + 1) v5) (va_up (va_up y N (c_sb v5 0 (0 + st_len.getD 10 0))) (N + 1) (c_ba g 16 h5)) cr dr 0 kn rf pl pz mc) N (N + 1) z3 v5 (0 + st_len.getD 10 0) 16 0 h5 (by omega) (by omega) (by omega) ((up_lt (by omega)).trans up_eq) up_eq ((mg_hi (by omega)).trans ((up_lt (by omega)).trans up_eq)) ((mg_hi (by omega)).trans up_eq) hF5 (by omega) (by omega) (v_X4_total (cr a1.toNatClampNeg)) (by omega) H.size) mw_J4_append_f7089 md_J4_append_f7089 rfl lk_X4_153 ⟨Nat.le_of_ble_eq_true rfl, Nat.le_of_ble_eq_true rfl⟩ hA hK hT B (by omega) ((mg_hi (by omega)).trans ((up_lt (by omega)).trans up_eq)) rfl rfl hl.1 rfl (Nat.le_of_ble_eq_true rfl) dX4_total__38 (by dsimp only [rm]; omega)) (by dsimp only [rm]; omega) (by dsimp only [rm]; omega) (fun r ad' f' H locs hw B => ?_)
    obtain ⟨v8, h8, hF8, rfl, rfl, rfl⟩ := hw
    have B := WM_up2 (by omega) (by omega) B (fun j hj => va_up_ne _ _ (by omega))
    rw [bx_uu, sw_4 (by omega), e8a] at B
    have B : WB g (aw N ad sz) s.heap (N + 1 + 1) (va_up (va_up ad N z3) (N + 1) v8) (mg g (va_up (va_up ad N z3) (N + 1) v8) (va_up (va_up y N (c_sb v8 0 ((0 + st_len.getD 10 0) + ssl (v_X4_total (cr a1.toNatClampNeg))))) (N + 1) (c_ba g 16 h8)) cr dr 0 kn rf pl pz mc) H locs := B
    refine k_r (k := 4) (n := 36) hA B (b_V (q := N) (rest := []) ((up_lt (by omega)).trans up_eq) X (c_S_toS l g (N + 1 + 1) (va_up (va_up ad N z3) (N + 1) v8) (mg g (va_up (va_up ad N z3) (N + 1) v8) (va_up (va_up y N (c_sb v8 0 ((0 + st_len.getD 10 0) + ssl (v_X4_total (cr a1.toNatClampNeg))))) (N + 1) (c_ba g 16 h8)) cr dr 0 kn rf pl pz mc) N (N + 1) z3 v8 ((0 + st_len.getD 10 0) + ssl (v_X4_total (cr a1.toNatClampNeg))) 16 0 h8 (by omega) (by omega) (by omega) ((up_lt (by omega)).trans up_eq) up_eq ((mg_hi (by omega)).trans ((up_lt (by omega)).trans up_eq)) ((mg_hi (by omega)).trans up_eq) hF8 (by omega) (by omega) H.size) mw_J4_toString_0e30d md_J4_toString_0e30d rfl lk_X4_79 ⟨Nat.le_of_ble_eq_true rfl, Nat.le_of_ble_eq_true rfl⟩ hA hK hT B (by omega) ((mg_hi (by omega)).trans ((up_lt (by omega)).trans up_eq)) rfl rfl hl.1 rfl (Nat.le_of_ble_eq_true rfl) dX4_total__41 (by dsimp only [rm]; omega)) (by dsimp only [rm]; omega) (by dsimp only [rm]; omega) (fun r ad' f' H locs hw B => ?_)
    obtain ⟨a9, a9x, h9, hF9, rfl, rfl, rfl⟩ := hw
    have B : WB g (aw N ad sz) s.heap (N + 1 + 1 + 1 + 1) (va_up (va_up (va_up (va_up ad N z3) (N + 1) v8) (N + 1 + 1) a9) (N + 1 + 1 + 1) a9x) (mg g (va_up (va_up (va_up (va_up ad N z3) (N + 1) v8) (N + 1 + 1) a9) (N + 1 + 1 + 1) a9x) (va_up (va_up (va_up (va_up y N (c_sb v8 0 ((0 + st_len.getD 10 0) + ssl (v_X4_total (cr a1.toNatClampNeg))))) (N + 1) (c_ba g 16 h8)) (N + 1 + 1) (c_st a9x)) (N + 1 + 1 + 1) (c_ba g ((0 + st_len.getD 10 0) + ssl (v_X4_total (cr a1.toNatClampNeg))) h9)) cr dr 0 kn rf pl pz mc) H locs := WM_push2 (by omega) B
    have B : WB g (aw N ad sz) s.heap N ad (mg g ad y cr dr 0 kn rf pl pz mc) H locs := WM_drop B (by omega) (by omega) (fun _ hk => ((((up_lt (Nat.lt_succ_of_lt (Nat.lt_succ_of_lt (Nat.lt_succ_of_lt hk)))).trans (up_lt (Nat.lt_succ_of_lt (Nat.lt_succ_of_lt hk)))).trans (up_lt (Nat.lt_succ_of_lt hk))).trans (up_lt hk))) (fun _ hk => ((((up_lt (Nat.lt_succ_of_lt (Nat.lt_succ_of_lt (Nat.lt_succ_of_lt hk)))).trans (up_lt (Nat.lt_succ_of_lt (Nat.lt_succ_of_lt hk)))).trans (up_lt (Nat.lt_succ_of_lt hk))).trans (up_lt hk)))
    have ev := (show v_X4_total_ a1 = 0 from by unfold v_X4_total_; rw [if_pos s2])
    exact rt_r (r := some (a9)) rfl X hr (Or.inl ⟨_, rfl⟩) (ad, mg g ad y cr dr 0 kn rf pl pz mc) B (PO_of B) ⟨rfl, ⟨_, rfl⟩, by rw [ev]⟩ (Nat.le_of_ble_eq_true rfl) (Nat.le_of_ble_eq_true rfl) dX4_total__44
  · have s2x : (v_X4_isNone a1) = 1 := (b01_X4_isNone).resolve_left s2
    rw [s2x]
    refine k_i (k := 0) (n := 0) hA B (b_V (q := 24) (rest := []) hb0 X (c_X4_stops l g N ad y cr dr th kn rf pl pz mc (by omega) b0 hb0 1 0 H.size) mw_X4_stops md_X4_stops rfl lk_X4_99 ⟨Nat.le_of_ble_eq_true rfl, Nat.le_of_ble_eq_true rfl⟩ hA hK hT B (by omega) mg_24 rfl rfl hl.1 rfl (Nat.le_of_ble_eq_true rfl) dX4_total__6 ⟨Nat.le_of_ble_eq_true rfl, Nat.le_of_ble_eq_true rfl⟩) (Nat.le_of_ble_eq_true rfl) (Nat.le_of_ble_eq_true rfl) (fun r ad' f' H locs hw B => ?_)
    rw [st_10] at hw
    dsimp only at hw
    obtain ⟨rfl, rfl, rfl⟩ := hw
    have B : WB g (aw N ad sz) s.heap N ad (mg g ad y cr dr 1 kn rf pl pz mc) H locs := B
    refine lv_if_eq (tgt := 17) hx hb dX4_total__9 (by decide) (fun z => absurd z (by decide)) (fun _ => ?_)
    refine b_ldc (i := 10) (by decide) rfl rfl X hT dX4_total__12 ?_
    refine lv_goto (tgt := 44) hx hb dX4_total__14 (by decide) ?_
    have ev := (show v_X4_total_ a1 = 1 from by unfold v_X4_total_; rw [if_neg s2])
    exact rt_r (r := some (g.2.2 (100 + 10))) rfl X hr (Or.inl ⟨_, rfl⟩) (ad, mg g ad y cr dr 1 kn rf pl pz mc) B (PO_of B) ⟨rfl, ⟨_, rfl⟩, by rw [ev]⟩ (Nat.le_of_ble_eq_true rfl) (Nat.le_of_ble_eq_true rfl) dX4_total__44
