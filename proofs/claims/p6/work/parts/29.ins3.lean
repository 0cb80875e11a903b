def v_X4_change (cr : Nat → TR) (a1 : Int32) (a2 : Int32) (a3 : Int32) : Int32 × (Nat → TR) × Int32 := if (v_X4_isIn a2.toInt64 0 2) = 0 then (if v_X4_isNone a1 = 0 then (0, cr, 2) else (0, cr, 1)) else (if v_X4_isNone a1 = 0 then ((v_X4_get cr a1 (rwu ((cr a1.toNatClampNeg).1, (cr a1.toNatClampNeg).2.1, (cr a1.toNatClampNeg).2.2) a2.toNatClampNeg a3)).1, (v_X4_get cr a1 (rwu ((cr a1.toNatClampNeg).1, (cr a1.toNatClampNeg).2.1, (cr a1.toNatClampNeg).2.2) a2.toNatClampNeg a3)).2, 0) else (0, cr, 1))
set_option maxHeartbeats 4000000 in
set_option maxRecDepth 100000 in
theorem c_X4_change (l : Launch) (g : GG) (N : Nat) (ad : Nat → Nat) (y : Nat → va_E) (cr dr : Nat → TR) (th kn rf : Int32) (pl : Nat → TR) (pz : Nat) (mc : Int32) (hN : 36 + pz ≤ N) (b0 : Nat) (hb0 : ad 24 = b0) (a1 : Int32) (a2 : Int32) (a3 : Int32) : KI l yX4_change cX4_change 5 (some .int) (rm 2 2 6) g [.ref b0, .int a1, .int a2, .int a3] N ad (mg g ad y cr dr th kn rf pl pz mc) N (fun r ad' f' => (∀ k, k < N → k < 28 ∨ 36 ≤ k → ad' k = ad k) ∧ (v_X4_change cr a1 a2 a3).1 = r ∧ mg g ad' y (v_X4_change cr a1 a2 a3).2.1 dr (v_X4_change cr a1 a2 a3).2.2 kn rf pl pz mc = f') := by
  intro sz
  refine mt_start (by decide) (Nat.le_of_ble_eq_true rfl) ?_
  intro p e s m args below meth c hsz X hr hnam hA hK hT H locs B ls hl
  obtain ⟨hx, hb, hml, hown, hts, hlocks⟩ := id X
  have hl : lv_has ls 5 [(0, .ref b0), (1, .int a1), (2, .int a2), (3, .int a3)] := hl
  refine lv_aload_n hx hb dX4_change_0 rfl (lv_at hl 0 rfl) ?_
  refine lv_iload_n hx hb dX4_change_1 rfl (lv_at hl 1 rfl) ?_
  refine k_i (k := 0) (n := 0) hA B (u_S (rest := [.ref b0]) X (c_X4_isNone l g N ad (mg g ad y cr dr th kn rf pl pz mc) a1 H.size) mw_X4_isNone md_X4_isNone rfl lk_X4_95 ⟨Nat.le_of_ble_eq_true rfl, Nat.le_of_ble_eq_true rfl⟩ hA hK hT B hl.1 rfl (Nat.le_of_ble_eq_true rfl) dX4_change_2 ⟨Nat.le_of_ble_eq_true rfl, Nat.le_of_ble_eq_true rfl⟩) (Nat.le_of_ble_eq_true rfl) (Nat.le_of_ble_eq_true rfl) (fun r1 ad1 f' H locs hw B => ?_)
  obtain ⟨rfl, rfl, rfl⟩ := hw
  refine lv_iload_n hx hb dX4_change_5 rfl (lv_at hl 2 rfl) ?_
  refine lv_i2l (v := a2.toInt64) hx hb dX4_change_6 rfl ?_
  refine lv_lconst (v := 0) hx hb dX4_change_7 (by decide) ?_
  refine lv_ldc2 hx hb hown (hts _ (List.mem_cons_of_mem _ lk_X4_113)) dX4_change_8 ?_
  refine k_i (k := 0) (n := 0) hA B (u_S (rest := [.int (v_X4_isNone a1), .ref b0]) X (c_X4_isIn l g N ad (mg g ad y cr dr th kn rf pl pz mc) a2.toInt64 0 2 H.size) mw_X4_isIn md_X4_isIn rfl lk_X4_37 ⟨Nat.le_of_ble_eq_true rfl, Nat.le_of_ble_eq_true rfl⟩ hA hK hT B hl.1 rfl (Nat.le_of_ble_eq_true rfl) dX4_change_11 ⟨Nat.le_of_ble_eq_true rfl, Nat.le_of_ble_eq_true rfl⟩) (Nat.le_of_ble_eq_true rfl) (Nat.le_of_ble_eq_true rfl) (fun r2 ad2 f' H locs hw B => ?_)
  obtain ⟨rfl, rfl, rfl⟩ := hw
  refine lv_if_ne (tgt := 21) hx hb dX4_change_14 (by decide) (fun c3 => ?_) (fun c3 => ?_)
  · refine lv_iconst (v := 0) hx hb dX4_change_21 (by decide) ?_
    by_cases s4 : v_X4_isNone a1 = 0
    · rw [s4]
      refine k_i (k := 0) (n := 0) hA B (b_V (q := 24) (rest := []) hb0 X (c_X4_stops l g N ad y cr dr th kn rf pl pz mc (by omega) b0 hb0 0 0 H.size) mw_X4_stops md_X4_stops rfl lk_X4_99 ⟨Nat.le_of_ble_eq_true rfl, Nat.le_of_ble_eq_true rfl⟩ hA hK hT B (by omega) mg_24 rfl rfl hl.1 rfl (Nat.le_of_ble_eq_true rfl) dX4_change_22 ⟨Nat.le_of_ble_eq_true rfl, Nat.le_of_ble_eq_true rfl⟩) (Nat.le_of_ble_eq_true rfl) (Nat.le_of_ble_eq_true rfl) (fun r ad' f' H locs hw B => ?_)
      rw [st_00] at hw
      dsimp only at hw
      obtain ⟨rfl, rfl, rfl⟩ := hw
      have B : WB g (aw N ad sz) s.heap N ad (mg g ad y cr dr 0 kn rf pl pz mc) H locs := B
      refine lv_if_eq (tgt := 30) hx hb dX4_change_25 (by decide) (fun _ => ?_) (fun z => absurd z (by decide))
      refine lv_iconst (v := 3) hx hb dX4_change_30 (by decide) ?_
      refine h_new3 (cz := 1) (sz := 3) X hA hK B (Nat.le_of_ble_eq_true rfl) (Nat.le_of_ble_eq_true rfl) (Nat.le_of_ble_eq_true rfl) (Nat.le_of_ble_eq_true rfl) dX4_change_31 (fun z5 H B => ?_)
      have B : WB g (aw N ad sz) s.heap (N + 1) (va_up ad N z5) (mg g (va_up ad N z5) (va_up y N (c_row g (0, 0, 0))) cr dr 0 kn rf pl pz mc) H locs := WM_push (by omega) B
      refine lv_dup hx hb dX4_change_33 rfl ?_
      refine lv_iconst (v := 0) hx hb dX4_change_34 (by decide) ?_
      refine lv_aload_n hx hb dX4_change_35 rfl (lv_at hl 0 rfl) ?_
      refine b_get (q := 24) (k := 1) ((up_lt (by omega)).trans hb0) X hK B rfl in_X4 (by omega) mg_24 (by decide) lk_X4_11 rfl rfl dX4_change_36 ?_
      refine lv_iload_n hx hb dX4_change_39 rfl (lv_at hl 1 rfl) ?_
      refine b_aald (q := 25) (t0 := 2) (v := (va_up ad N z5) (28 + a1.toNatClampNeg)) rfl X hK B (by omega) mg_25 rfl rfl (no_in s4) rfl dX4_change_40 ?_
      have g6 : a1.toNatClampNeg < 4 := (no_lt s4)
      rw [show (va_up ad N z5) (28 + a1.toNatClampNeg) = ad (28 + a1.toNatClampNeg) from (up_lt (by omega))]
      refine lv_iconst (v := 0) hx hb dX4_change_41 (by decide) ?_
      refine h_ld0 X hK B (Nat.lt_succ_of_lt (pl_cr hN g6)) ((up_lt (pl_cr hN g6)).trans rfl) (mg_cr g6) dX4_change_42 ?_
      refine h_st (t := (0, 0, 0)) (t' := ((cr a1.toNatClampNeg).1, 0, 0)) X hK B (Nat.lt_succ_self _) up_eq ((mg_hi (by omega)).trans up_eq) (by unfold vp_in; decide) (rw3_s0 _ _) dX4_change_43 (fun H locs B => ?_)
      rw [mg_yup (by omega), bx_uu] at B
      refine lv_dup hx hb dX4_change_44 rfl ?_
      refine lv_iconst (v := 1) hx hb dX4_change_45 (by decide) ?_
      refine lv_aload_n hx hb dX4_change_46 rfl (lv_at hl 0 rfl) ?_
      refine b_get (q := 24) (k := 1) ((up_lt (by omega)).trans hb0) X hK B rfl in_X4 (by omega) mg_24 (by decide) lk_X4_11 rfl rfl dX4_change_47 ?_
      refine lv_iload_n hx hb dX4_change_50 rfl (lv_at hl 1 rfl) ?_
      refine b_aald (q := 25) (t0 := 2) (v := (va_up ad N z5) (28 + a1.toNatClampNeg)) rfl X hK B (by omega) mg_25 rfl rfl (no_in s4) rfl dX4_change_51 ?_
      have g7 : a1.toNatClampNeg < 4 := (no_lt s4)
      rw [show (va_up ad N z5) (28 + a1.toNatClampNeg) = ad (28 + a1.toNatClampNeg) from (up_lt (by omega))]
      refine lv_iconst (v := 1) hx hb dX4_change_52 (by decide) ?_
      refine h_ld1 X hK B (Nat.lt_succ_of_lt (pl_cr hN g7)) ((up_lt (pl_cr hN g7)).trans rfl) (mg_cr g7) dX4_change_53 ?_
      refine h_st (t := ((cr a1.toNatClampNeg).1, 0, 0)) (t' := ((cr a1.toNatClampNeg).1, (cr a1.toNatClampNeg).2.1, 0)) X hK B (Nat.lt_succ_self _) up_eq ((mg_hi (by omega)).trans up_eq) (by unfold vp_in; decide) (rw3_s1 _ _) dX4_change_54 (fun H locs B => ?_)
      rw [mg_yup (by omega), bx_uu] at B
      refine lv_dup hx hb dX4_change_55 rfl ?_
      refine lv_iconst (v := 2) hx hb dX4_change_56 (by decide) ?_
      refine lv_aload_n hx hb dX4_change_57 rfl (lv_at hl 0 rfl) ?_
      refine b_get (q := 24) (k := 1) ((up_lt (by omega)).trans hb0) X hK B rfl in_X4 (by omega) mg_24 (by decide) lk_X4_11 rfl rfl dX4_change_58 ?_
      refine lv_iload_n hx hb dX4_change_61 rfl (lv_at hl 1 rfl) ?_
      refine b_aald (q := 25) (t0 := 2) (v := (va_up ad N z5) (28 + a1.toNatClampNeg)) rfl X hK B (by omega) mg_25 rfl rfl (no_in s4) rfl dX4_change_62 ?_
      have g8 : a1.toNatClampNeg < 4 := (no_lt s4)
      rw [show (va_up ad N z5) (28 + a1.toNatClampNeg) = ad (28 + a1.toNatClampNeg) from (up_lt (by omega))]
      refine lv_iconst (v := 2) hx hb dX4_change_63 (by decide) ?_
      refine h_ld2 X hK B (Nat.lt_succ_of_lt (pl_cr hN g8)) ((up_lt (pl_cr hN g8)).trans rfl) (mg_cr g8) dX4_change_64 ?_
      refine h_st (t := ((cr a1.toNatClampNeg).1, (cr a1.toNatClampNeg).2.1, 0)) (t' := ((cr a1.toNatClampNeg).1, (cr a1.toNatClampNeg).2.1, (cr a1.toNatClampNeg).2.2)) X hK B (Nat.lt_succ_self _) up_eq ((mg_hi (by omega)).trans up_eq) (by unfold vp_in; decide) (rw3_s2 _ _) dX4_change_65 (fun H locs B => ?_)
      rw [mg_yup (by omega), bx_uu] at B
      refine lv_astore (lv' := [(4, .ref z5), (0, .ref b0), (1, .int a1), (2, .int a2), (3, .int a3)]) hx hb dX4_change_66 hl (by decide) rfl (fun ls hl => ?_)
      refine lv_aload hx hb dX4_change_68 (lv_at hl 0 rfl) ?_
      refine lv_iload_n hx hb dX4_change_70 rfl (lv_at hl 3 rfl) ?_
      refine lv_iload_n hx hb dX4_change_71 rfl (lv_at hl 4 rfl) ?_
      refine h_st (t := ((cr a1.toNatClampNeg).1, (cr a1.toNatClampNeg).2.1, (cr a1.toNatClampNeg).2.2)) (t' := (rwu ((cr a1.toNatClampNeg).1, (cr a1.toNatClampNeg).2.1, (cr a1.toNatClampNeg).2.2) a2.toNatClampNeg a3)) X hK B (Nat.lt_succ_self _) up_eq ((mg_hi (by omega)).trans up_eq) (isin_ix (n := 3) c3 rfl).1 (rwu_ok (isin_ix (n := 3) c3 rfl).2) dX4_change_72 (fun H locs B => ?_)
      rw [mg_yup (by omega), bx_uu] at B
      refine lv_aload_n hx hb dX4_change_73 rfl (lv_at hl 1 rfl) ?_
      refine lv_iload_n hx hb dX4_change_74 rfl (lv_at hl 2 rfl) ?_
      refine lv_aload hx hb dX4_change_75 (lv_at hl 0 rfl) ?_
      refine k_i (k := 2) (n := 6) hA B (b_V (q := 24) (rest := []) ((up_lt (by omega)).trans hb0) X (c_X4_get l g (N + 1) (va_up ad N z5) (va_up y N (c_row g (rwu ((cr a1.toNatClampNeg).1, (cr a1.toNatClampNeg).2.1, (cr a1.toNatClampNeg).2.2) a2.toNatClampNeg a3))) cr dr 0 kn rf pl pz mc (by omega) b0 ((up_lt (by omega)).trans hb0) a1 N z5 (rwu ((cr a1.toNatClampNeg).1, (cr a1.toNatClampNeg).2.1, (cr a1.toNatClampNeg).2.2) a2.toNatClampNeg a3) (Nat.lt_succ_self _) up_eq ((mg_hi (by omega)).trans up_eq) s4 H.size) mw_X4_get md_X4_get rfl lk_X4_103 ⟨Nat.le_of_ble_eq_true rfl, Nat.le_of_ble_eq_true rfl⟩ hA hK hT B (by omega) mg_24 rfl rfl hl.1 rfl (Nat.le_of_ble_eq_true rfl) dX4_change_77 ⟨Nat.le_of_ble_eq_true rfl, Nat.le_of_ble_eq_true rfl⟩) (Nat.le_of_ble_eq_true rfl) (Nat.le_of_ble_eq_true rfl) (fun r9 ad9 f' H locs hw B => ?_)
      dsimp only at hw
      obtain ⟨mv10, rfl, rfl⟩ := hw
      have B : WB g (aw N ad sz) s.heap N ad9 (mg g ad9 y (v_X4_get cr a1 (rwu ((cr a1.toNatClampNeg).1, (cr a1.toNatClampNeg).2.1, (cr a1.toNatClampNeg).2.2) a2.toNatClampNeg a3)).2 dr 0 kn rf pl pz mc) H locs := WM_drop B (by omega) (by omega) (fun _ _ => rfl) (fun _ hk => (up_lt hk))
      have kk11 : ∀ k, k < N → k < 28 ∨ 36 ≤ k → ad9 k = ad k := fun k hk hkq => (mv10 k (by omega) hkq).trans (((fun _ hk => (up_lt hk)) k hk).trans rfl)
      have nb12 : ad9 24 = b0 := (mv10 24 (by omega) (Or.inl (by decide))).trans ((up_lt (by omega)).trans hb0)
      have ev := (show v_X4_change cr a1 a2 a3 = ((v_X4_get cr a1 (rwu ((cr a1.toNatClampNeg).1, (cr a1.toNatClampNeg).2.1, (cr a1.toNatClampNeg).2.2) a2.toNatClampNeg a3)).1, (v_X4_get cr a1 (rwu ((cr a1.toNatClampNeg).1, (cr a1.toNatClampNeg).2.1, (cr a1.toNatClampNeg).2.2) a2.toNatClampNeg a3)).2, 0) from by unfold v_X4_change; rw [if_neg c3, if_pos s4])
      exact rt_i X hr (ad9, mg g ad9 y (v_X4_get cr a1 (rwu ((cr a1.toNatClampNeg).1, (cr a1.toNatClampNeg).2.1, (cr a1.toNatClampNeg).2.2) a2.toNatClampNeg a3)).2 dr 0 kn rf pl pz mc) B (PO_of B) ⟨kk11, by rw [ev], by rw [ev]⟩ rfl (Nat.le_of_ble_eq_true rfl) (Nat.le_of_ble_eq_true rfl) dX4_change_80
    · have s4x : (v_X4_isNone a1) = 1 := (b01_X4_isNone).resolve_left s4
      rw [s4x]
      refine k_i (k := 0) (n := 0) hA B (b_V (q := 24) (rest := []) hb0 X (c_X4_stops l g N ad y cr dr th kn rf pl pz mc (by omega) b0 hb0 1 0 H.size) mw_X4_stops md_X4_stops rfl lk_X4_99 ⟨Nat.le_of_ble_eq_true rfl, Nat.le_of_ble_eq_true rfl⟩ hA hK hT B (by omega) mg_24 rfl rfl hl.1 rfl (Nat.le_of_ble_eq_true rfl) dX4_change_22 ⟨Nat.le_of_ble_eq_true rfl, Nat.le_of_ble_eq_true rfl⟩) (Nat.le_of_ble_eq_true rfl) (Nat.le_of_ble_eq_true rfl) (fun r ad' f' H locs hw B => ?_)
      rw [st_10] at hw
      dsimp only at hw
      obtain ⟨rfl, rfl, rfl⟩ := hw
      have B : WB g (aw N ad sz) s.heap N ad (mg g ad y cr dr 1 kn rf pl pz mc) H locs := B
      refine lv_if_eq (tgt := 30) hx hb dX4_change_25 (by decide) (fun z => absurd z (by decide)) (fun _ => ?_)
      refine lv_iconst (v := 0) hx hb dX4_change_28 (by decide) ?_
      have ev := (show v_X4_change cr a1 a2 a3 = (0, cr, 1) from by unfold v_X4_change; rw [if_neg c3, if_neg s4])
      exact rt_i X hr (ad, mg g ad y cr dr 1 kn rf pl pz mc) B (PO_of B) ⟨(fun _ _ _ => rfl), by rw [ev], by rw [ev]⟩ rfl (Nat.le_of_ble_eq_true rfl) (Nat.le_of_ble_eq_true rfl) dX4_change_29
  · refine lv_iconst (v := 1) hx hb dX4_change_17 (by decide) ?_
    refine lv_goto (tgt := 22) hx hb dX4_change_18 (by decide) ?_
    by_cases s13 : v_X4_isNone a1 = 0
    · rw [s13]
      refine k_i (k := 0) (n := 0) hA B (b_V (q := 24) (rest := []) hb0 X (c_X4_stops l g N ad y cr dr th kn rf pl pz mc (by omega) b0 hb0 0 1 H.size) mw_X4_stops md_X4_stops rfl lk_X4_99 ⟨Nat.le_of_ble_eq_true rfl, Nat.le_of_ble_eq_true rfl⟩ hA hK hT B (by omega) mg_24 rfl rfl hl.1 rfl (Nat.le_of_ble_eq_true rfl) dX4_change_22 ⟨Nat.le_of_ble_eq_true rfl, Nat.le_of_ble_eq_true rfl⟩) (Nat.le_of_ble_eq_true rfl) (Nat.le_of_ble_eq_true rfl) (fun r ad' f' H locs hw B => ?_)
      rw [st_01] at hw
      dsimp only at hw
      obtain ⟨rfl, rfl, rfl⟩ := hw
      have B : WB g (aw N ad sz) s.heap N ad (mg g ad y cr dr 2 kn rf pl pz mc) H locs := B
      refine lv_if_eq (tgt := 30) hx hb dX4_change_25 (by decide) (fun z => absurd z (by decide)) (fun _ => ?_)
      refine lv_iconst (v := 0) hx hb dX4_change_28 (by decide) ?_
      have ev := (show v_X4_change cr a1 a2 a3 = (0, cr, 2) from by unfold v_X4_change; rw [if_pos c3, if_pos s13])
      exact rt_i X hr (ad, mg g ad y cr dr 2 kn rf pl pz mc) B (PO_of B) ⟨(fun _ _ _ => rfl), by rw [ev], by rw [ev]⟩ rfl (Nat.le_of_ble_eq_true rfl) (Nat.le_of_ble_eq_true rfl) dX4_change_29
    · have s13x : (v_X4_isNone a1) = 1 := (b01_X4_isNone).resolve_left s13
      rw [s13x]
      refine k_i (k := 0) (n := 0) hA B (b_V (q := 24) (rest := []) hb0 X (c_X4_stops l g N ad y cr dr th kn rf pl pz mc (by omega) b0 hb0 1 1 H.size) mw_X4_stops md_X4_stops rfl lk_X4_99 ⟨Nat.le_of_ble_eq_true rfl, Nat.le_of_ble_eq_true rfl⟩ hA hK hT B (by omega) mg_24 rfl rfl hl.1 rfl (Nat.le_of_ble_eq_true rfl) dX4_change_22 ⟨Nat.le_of_ble_eq_true rfl, Nat.le_of_ble_eq_true rfl⟩) (Nat.le_of_ble_eq_true rfl) (Nat.le_of_ble_eq_true rfl) (fun r ad' f' H locs hw B => ?_)
      rw [st_11] at hw
      dsimp only at hw
      obtain ⟨rfl, rfl, rfl⟩ := hw
      have B : WB g (aw N ad sz) s.heap N ad (mg g ad y cr dr 1 kn rf pl pz mc) H locs := B
      refine lv_if_eq (tgt := 30) hx hb dX4_change_25 (by decide) (fun z => absurd z (by decide)) (fun _ => ?_)
      refine lv_iconst (v := 0) hx hb dX4_change_28 (by decide) ?_
      have ev := (show v_X4_change cr a1 a2 a3 = (0, cr, 1) from by unfold v_X4_change; rw [if_pos c3, if_neg s13])
      exact rt_i X hr (ad, mg g ad y cr dr 1 kn rf pl pz mc) B (PO_of B) ⟨(fun _ _ _ => rfl), by rw [ev], by rw [ev]⟩ rfl (Nat.le_of_ble_eq_true rfl) (Nat.le_of_ble_eq_true rfl) dX4_change_29
def v_X4_copy (cr : Nat → TR) (a1 : Int32) (a2 : Int32) : Int32 × (Nat → TR) × Int32 := if (v_X4_isNone a1) = 0 then (if (v_X4_isNone a2) = 0 then ((v_X4_get cr a1 (cr a2.toNatClampNeg)).1, (v_X4_get cr a1 (cr a2.toNatClampNeg)).2, 0) else (0, cr, 1)) else (0, cr, 1)
set_option maxHeartbeats 4000000 in
set_option maxRecDepth 100000 in
theorem c_X4_copy (l : Launch) (g : GG) (N : Nat) (ad : Nat → Nat) (y : Nat → va_E) (cr dr : Nat → TR) (th kn rf : Int32) (pl : Nat → TR) (pz : Nat) (mc : Int32) (hN : 36 + pz ≤ N) (b0 : Nat) (hb0 : ad 24 = b0) (a1 : Int32) (a2 : Int32) : KI l yX4_copy cX4_copy 3 (some .int) (rm 2 1 3) g [.ref b0, .int a1, .int a2] N ad (mg g ad y cr dr th kn rf pl pz mc) N (fun r ad' f' => (∀ k, k < N → k < 28 ∨ 36 ≤ k → ad' k = ad k) ∧ (v_X4_copy cr a1 a2).1 = r ∧ mg g ad' y (v_X4_copy cr a1 a2).2.1 dr (v_X4_copy cr a1 a2).2.2 kn rf pl pz mc = f') := by
  intro sz
  refine mt_start (by decide) (Nat.le_of_ble_eq_true rfl) ?_
  intro p e s m args below meth c hsz X hr hnam hA hK hT H locs B ls hl
  obtain ⟨hx, hb, hml, hown, hts, hlocks⟩ := id X
  have hl : lv_has ls 3 [(0, .ref b0), (1, .int a1), (2, .int a2)] := hl
  refine lv_aload_n hx hb dX4_copy_0 rfl (lv_at hl 0 rfl) ?_
  refine lv_iload_n hx hb dX4_copy_1 rfl (lv_at hl 1 rfl) ?_
  refine k_i (k := 0) (n := 0) hA B (u_S (rest := [.ref b0]) X (c_X4_isNone l g N ad (mg g ad y cr dr th kn rf pl pz mc) a1 H.size) mw_X4_isNone md_X4_isNone rfl lk_X4_95 ⟨Nat.le_of_ble_eq_true rfl, Nat.le_of_ble_eq_true rfl⟩ hA hK hT B hl.1 rfl (Nat.le_of_ble_eq_true rfl) dX4_copy_2 ⟨Nat.le_of_ble_eq_true rfl, Nat.le_of_ble_eq_true rfl⟩) (Nat.le_of_ble_eq_true rfl) (Nat.le_of_ble_eq_true rfl) (fun r1 ad1 f' H locs hw B => ?_)
  obtain ⟨rfl, rfl, rfl⟩ := hw
  refine lv_if_ne (tgt := 15) hx hb dX4_copy_5 (by decide) (fun c2 => ?_) (fun c2 => ?_)
  · refine lv_iconst (v := 1) hx hb dX4_copy_15 (by decide) ?_
    refine lv_goto (tgt := 20) hx hb dX4_copy_16 (by decide) ?_
    refine lv_iconst (v := 0) hx hb dX4_copy_20 (by decide) ?_
    refine k_i (k := 0) (n := 0) hA B (b_V (q := 24) (rest := []) hb0 X (c_X4_stops l g N ad y cr dr th kn rf pl pz mc (by omega) b0 hb0 1 0 H.size) mw_X4_stops md_X4_stops rfl lk_X4_99 ⟨Nat.le_of_ble_eq_true rfl, Nat.le_of_ble_eq_true rfl⟩ hA hK hT B (by omega) mg_24 rfl rfl hl.1 rfl (Nat.le_of_ble_eq_true rfl) dX4_copy_21 ⟨Nat.le_of_ble_eq_true rfl, Nat.le_of_ble_eq_true rfl⟩) (Nat.le_of_ble_eq_true rfl) (Nat.le_of_ble_eq_true rfl) (fun r ad' f' H locs hw B => ?_)
    rw [st_10] at hw
    dsimp only at hw
    obtain ⟨rfl, rfl, rfl⟩ := hw
    have B : WB g (aw N ad sz) s.heap N ad (mg g ad y cr dr 1 kn rf pl pz mc) H locs := B
    refine lv_if_eq (tgt := 31) hx hb dX4_copy_24 (by decide) (fun z => absurd z (by decide)) (fun _ => ?_)
    refine lv_iconst (v := 0) hx hb dX4_copy_27 (by decide) ?_
    refine lv_goto (tgt := 42) hx hb dX4_copy_28 (by decide) ?_
    have ev := (show v_X4_copy cr a1 a2 = (0, cr, 1) from by unfold v_X4_copy; rw [if_neg c2])
    exact rt_i X hr (ad, mg g ad y cr dr 1 kn rf pl pz mc) B (PO_of B) ⟨(fun _ _ _ => rfl), by rw [ev], by rw [ev]⟩ rfl (Nat.le_of_ble_eq_true rfl) (Nat.le_of_ble_eq_true rfl) dX4_copy_42
  · refine lv_iload_n hx hb dX4_copy_8 rfl (lv_at hl 2 rfl) ?_
    refine k_i (k := 0) (n := 0) hA B (u_S (rest := [.ref b0]) X (c_X4_isNone l g N ad (mg g ad y cr dr th kn rf pl pz mc) a2 H.size) mw_X4_isNone md_X4_isNone rfl lk_X4_95 ⟨Nat.le_of_ble_eq_true rfl, Nat.le_of_ble_eq_true rfl⟩ hA hK hT B hl.1 rfl (Nat.le_of_ble_eq_true rfl) dX4_copy_9 ⟨Nat.le_of_ble_eq_true rfl, Nat.le_of_ble_eq_true rfl⟩) (Nat.le_of_ble_eq_true rfl) (Nat.le_of_ble_eq_true rfl) (fun r3 ad3 f' H locs hw B => ?_)
    obtain ⟨rfl, rfl, rfl⟩ := hw
    refine lv_if_eq (tgt := 19) hx hb dX4_copy_12 (by decide) (fun c4 => ?_) (fun c4 => ?_)
    · refine lv_iconst (v := 0) hx hb dX4_copy_19 (by decide) ?_
      refine lv_iconst (v := 0) hx hb dX4_copy_20 (by decide) ?_
      refine k_i (k := 0) (n := 0) hA B (b_V (q := 24) (rest := []) hb0 X (c_X4_stops l g N ad y cr dr th kn rf pl pz mc (by omega) b0 hb0 0 0 H.size) mw_X4_stops md_X4_stops rfl lk_X4_99 ⟨Nat.le_of_ble_eq_true rfl, Nat.le_of_ble_eq_true rfl⟩ hA hK hT B (by omega) mg_24 rfl rfl hl.1 rfl (Nat.le_of_ble_eq_true rfl) dX4_copy_21 ⟨Nat.le_of_ble_eq_true rfl, Nat.le_of_ble_eq_true rfl⟩) (Nat.le_of_ble_eq_true rfl) (Nat.le_of_ble_eq_true rfl) (fun r ad' f' H locs hw B => ?_)
      rw [st_00] at hw
      dsimp only at hw
      obtain ⟨rfl, rfl, rfl⟩ := hw
      have B : WB g (aw N ad sz) s.heap N ad (mg g ad y cr dr 0 kn rf pl pz mc) H locs := B
      refine lv_if_eq (tgt := 31) hx hb dX4_copy_24 (by decide) (fun _ => ?_) (fun z => absurd z (by decide))
      refine lv_aload_n hx hb dX4_copy_31 rfl (lv_at hl 0 rfl) ?_
      refine lv_iload_n hx hb dX4_copy_32 rfl (lv_at hl 1 rfl) ?_
      refine lv_aload_n hx hb dX4_copy_33 rfl (lv_at hl 0 rfl) ?_
      refine b_get (q := 24) (k := 1) hb0 X hK B rfl in_X4 (by omega) mg_24 (by decide) lk_X4_11 rfl rfl dX4_copy_34 ?_
      refine lv_iload_n hx hb dX4_copy_37 rfl (lv_at hl 2 rfl) ?_
      refine b_aald (q := 25) (t0 := 2) (v := ad (28 + a2.toNatClampNeg)) rfl X hK B (by omega) mg_25 rfl rfl (no_in c4) rfl dX4_copy_38 ?_
      have g5 : a2.toNatClampNeg < 4 := (no_lt c4)
      refine k_i (k := 1) (n := 3) hA B (b_V (q := 24) (rest := []) hb0 X (c_X4_get l g N ad y cr dr 0 kn rf pl pz mc (by omega) b0 hb0 a1 (28 + a2.toNatClampNeg) (ad (28 + a2.toNatClampNeg)) (cr a2.toNatClampNeg) (pl_cr hN g5) rfl (mg_cr g5) c2 H.size) mw_X4_get md_X4_get rfl lk_X4_103 ⟨Nat.le_of_ble_eq_true rfl, Nat.le_of_ble_eq_true rfl⟩ hA hK hT B (by omega) mg_24 rfl rfl hl.1 rfl (Nat.le_of_ble_eq_true rfl) dX4_copy_39 ⟨Nat.le_of_ble_eq_true rfl, Nat.le_of_ble_eq_true rfl⟩) (Nat.le_of_ble_eq_true rfl) (Nat.le_of_ble_eq_true rfl) (fun r6 ad6 f' H locs hw B => ?_)
      dsimp only at hw
      obtain ⟨mv7, rfl, rfl⟩ := hw
      have kk8 : ∀ k, k < N → k < 28 ∨ 36 ≤ k → ad6 k = ad k := fun k hk hkq => (mv7 k (by omega) hkq).trans (rfl.trans rfl)
      have nb9 : ad6 24 = b0 := (mv7 24 (by omega) (Or.inl (by decide))).trans hb0
      have ev := (show v_X4_copy cr a1 a2 = ((v_X4_get cr a1 (cr a2.toNatClampNeg)).1, (v_X4_get cr a1 (cr a2.toNatClampNeg)).2, 0) from by unfold v_X4_copy; rw [if_pos c2, if_pos c4])
      exact rt_i X hr (ad6, mg g ad6 y (v_X4_get cr a1 (cr a2.toNatClampNeg)).2 dr 0 kn rf pl pz mc) B (PO_of B) ⟨kk8, by rw [ev], by rw [ev]⟩ rfl (Nat.le_of_ble_eq_true rfl) (Nat.le_of_ble_eq_true rfl) dX4_copy_42
    · refine lv_iconst (v := 1) hx hb dX4_copy_15 (by decide) ?_
      refine lv_goto (tgt := 20) hx hb dX4_copy_16 (by decide) ?_
      refine lv_iconst (v := 0) hx hb dX4_copy_20 (by decide) ?_
      refine k_i (k := 0) (n := 0) hA B (b_V (q := 24) (rest := []) hb0 X (c_X4_stops l g N ad y cr dr th kn rf pl pz mc (by omega) b0 hb0 1 0 H.size) mw_X4_stops md_X4_stops rfl lk_X4_99 ⟨Nat.le_of_ble_eq_true rfl, Nat.le_of_ble_eq_true rfl⟩ hA hK hT B (by omega) mg_24 rfl rfl hl.1 rfl (Nat.le_of_ble_eq_true rfl) dX4_copy_21 ⟨Nat.le_of_ble_eq_true rfl, Nat.le_of_ble_eq_true rfl⟩) (Nat.le_of_ble_eq_true rfl) (Nat.le_of_ble_eq_true rfl) (fun r ad' f' H locs hw B => ?_)
      rw [st_10] at hw
      dsimp only at hw
      obtain ⟨rfl, rfl, rfl⟩ := hw
      have B : WB g (aw N ad sz) s.heap N ad (mg g ad y cr dr 1 kn rf pl pz mc) H locs := B
      refine lv_if_eq (tgt := 31) hx hb dX4_copy_24 (by decide) (fun z => absurd z (by decide)) (fun _ => ?_)
      refine lv_iconst (v := 0) hx hb dX4_copy_27 (by decide) ?_
      refine lv_goto (tgt := 42) hx hb dX4_copy_28 (by decide) ?_
      have ev := (show v_X4_copy cr a1 a2 = (0, cr, 1) from by unfold v_X4_copy; rw [if_pos c2, if_neg c4])
      exact rt_i X hr (ad, mg g ad y cr dr 1 kn rf pl pz mc) B (PO_of B) ⟨(fun _ _ _ => rfl), by rw [ev], by rw [ev]⟩ rfl (Nat.le_of_ble_eq_true rfl) (Nat.le_of_ble_eq_true rfl) dX4_copy_42
def v_X4_moreOf (cr : Nat → TR) (rf : Int32) (a1 : Int32) (a2 : Int32) (a3 : Int32) (a4 : Int32) (a5 : Int32) : Int32 × (Nat → TR) × Int32 × Int32 := if v_X4_isNone a1 = 0 then (if a4 = 0 then (if a2 = 0 then (if a2 = 1 then (if a2 = 2 then (om (v_X4_span (((cr a1.toNatClampNeg).1.toInt64) + (a5.toInt64 * a3.toInt64)) (((cr a1.toNatClampNeg).2.1.toInt64) + (a5.toInt64 * a3.toInt64)) (((cr a1.toNatClampNeg).2.2.toInt64) + (a5.toInt64 * a3.toInt64))) ((v_X4_getN rf).1, cr, 0, (v_X4_getN rf).2) (fun t68 => ((v_X4_get cr a1 t68).1, (v_X4_get cr a1 t68).2, 0, rf))) else (om (v_X4_span (((cr a1.toNatClampNeg).1.toInt64) + (a5.toInt64 * a3.toInt64)) (((cr a1.toNatClampNeg).2.1.toInt64) + (a5.toInt64 * a3.toInt64)) (((cr a1.toNatClampNeg).2.2.toInt64) + 0)) ((v_X4_getN rf).1, cr, 0, (v_X4_getN rf).2) (fun t61 => ((v_X4_get cr a1 t61).1, (v_X4_get cr a1 t61).2, 0, rf)))) else (if a2 = 2 then (om (v_X4_span (((cr a1.toNatClampNeg).1.toInt64) + (a5.toInt64 * a3.toInt64)) (((cr a1.toNatClampNeg).2.1.toInt64) + 0) (((cr a1.toNatClampNeg).2.2.toInt64) + (a5.toInt64 * a3.toInt64))) ((v_X4_getN rf).1, cr, 0, (v_X4_getN rf).2) (fun t52 => ((v_X4_get cr a1 t52).1, (v_X4_get cr a1 t52).2, 0, rf))) else (om (v_X4_span (((cr a1.toNatClampNeg).1.toInt64) + (a5.toInt64 * a3.toInt64)) (((cr a1.toNatClampNeg).2.1.toInt64) + 0) (((cr a1.toNatClampNeg).2.2.toInt64) + 0)) ((v_X4_getN rf).1, cr, 0, (v_X4_getN rf).2) (fun t45 => ((v_X4_get cr a1 t45).1, (v_X4_get cr a1 t45).2, 0, rf))))) else (if a2 = 1 then (if a2 = 2 then (om (v_X4_span (((cr a1.toNatClampNeg).1.toInt64) + 0) (((cr a1.toNatClampNeg).2.1.toInt64) + (a5.toInt64 * a3.toInt64)) (((cr a1.toNatClampNeg).2.2.toInt64) + (a5.toInt64 * a3.toInt64))) ((v_X4_getN rf).1, cr, 0, (v_X4_getN rf).2) (fun t34 => ((v_X4_get cr a1 t34).1, (v_X4_get cr a1 t34).2, 0, rf))) else (om (v_X4_span (((cr a1.toNatClampNeg).1.toInt64) + 0) (((cr a1.toNatClampNeg).2.1.toInt64) + (a5.toInt64 * a3.toInt64)) (((cr a1.toNatClampNeg).2.2.toInt64) + 0)) ((v_X4_getN rf).1, cr, 0, (v_X4_getN rf).2) (fun t27 => ((v_X4_get cr a1 t27).1, (v_X4_get cr a1 t27).2, 0, rf)))) else (if a2 = 2 then (om (v_X4_span (((cr a1.toNatClampNeg).1.toInt64) + 0) (((cr a1.toNatClampNeg).2.1.toInt64) + 0) (((cr a1.toNatClampNeg).2.2.toInt64) + (a5.toInt64 * a3.toInt64))) ((v_X4_getN rf).1, cr, 0, (v_X4_getN rf).2) (fun t18 => ((v_X4_get cr a1 t18).1, (v_X4_get cr a1 t18).2, 0, rf))) else (om (v_X4_span (((cr a1.toNatClampNeg).1.toInt64) + 0) (((cr a1.toNatClampNeg).2.1.toInt64) + 0) (((cr a1.toNatClampNeg).2.2.toInt64) + 0)) ((v_X4_getN rf).1, cr, 0, (v_X4_getN rf).2) (fun t11 => ((v_X4_get cr a1 t11).1, (v_X4_get cr a1 t11).2, 0, rf)))))) else (if a2 = 0 then (if a2 = 1 then (if a2 = 2 then (om (v_X4_span (((cr a1.toNatClampNeg).1.toInt64) + (a5.toInt64 * (4000000000 * a3.toInt64))) (((cr a1.toNatClampNeg).2.1.toInt64) + (a5.toInt64 * (4000000000 * a3.toInt64))) (((cr a1.toNatClampNeg).2.2.toInt64) + (a5.toInt64 * (4000000000 * a3.toInt64)))) ((v_X4_getN rf).1, cr, 0, (v_X4_getN rf).2) (fun t138 => ((v_X4_get cr a1 t138).1, (v_X4_get cr a1 t138).2, 0, rf))) else (om (v_X4_span (((cr a1.toNatClampNeg).1.toInt64) + (a5.toInt64 * (4000000000 * a3.toInt64))) (((cr a1.toNatClampNeg).2.1.toInt64) + (a5.toInt64 * (4000000000 * a3.toInt64))) (((cr a1.toNatClampNeg).2.2.toInt64) + 0)) ((v_X4_getN rf).1, cr, 0, (v_X4_getN rf).2) (fun t131 => ((v_X4_get cr a1 t131).1, (v_X4_get cr a1 t131).2, 0, rf)))) else (if a2 = 2 then (om (v_X4_span (((cr a1.toNatClampNeg).1.toInt64) + (a5.toInt64 * (4000000000 * a3.toInt64))) (((cr a1.toNatClampNeg).2.1.toInt64) + 0) (((cr a1.toNatClampNeg).2.2.toInt64) + (a5.toInt64 * (4000000000 * a3.toInt64)))) ((v_X4_getN rf).1, cr, 0, (v_X4_getN rf).2) (fun t122 => ((v_X4_get cr a1 t122).1, (v_X4_get cr a1 t122).2, 0, rf))) else (om (v_X4_span (((cr a1.toNatClampNeg).1.toInt64) + (a5.toInt64 * (4000000000 * a3.toInt64))) (((cr a1.toNatClampNeg).2.1.toInt64) + 0) (((cr a1.toNatClampNeg).2.2.toInt64) + 0)) ((v_X4_getN rf).1, cr, 0, (v_X4_getN rf).2) (fun t115 => ((v_X4_get cr a1 t115).1, (v_X4_get cr a1 t115).2, 0, rf))))) else (if a2 = 1 then (if a2 = 2 then (om (v_X4_span (((cr a1.toNatClampNeg).1.toInt64) + 0) (((cr a1.toNatClampNeg).2.1.toInt64) + (a5.toInt64 * (4000000000 * a3.toInt64))) (((cr a1.toNatClampNeg).2.2.toInt64) + (a5.toInt64 * (4000000000 * a3.toInt64)))) ((v_X4_getN rf).1, cr, 0, (v_X4_getN rf).2) (fun t104 => ((v_X4_get cr a1 t104).1, (v_X4_get cr a1 t104).2, 0, rf))) else (om (v_X4_span (((cr a1.toNatClampNeg).1.toInt64) + 0) (((cr a1.toNatClampNeg).2.1.toInt64) + (a5.toInt64 * (4000000000 * a3.toInt64))) (((cr a1.toNatClampNeg).2.2.toInt64) + 0)) ((v_X4_getN rf).1, cr, 0, (v_X4_getN rf).2) (fun t97 => ((v_X4_get cr a1 t97).1, (v_X4_get cr a1 t97).2, 0, rf)))) else (if a2 = 2 then (om (v_X4_span (((cr a1.toNatClampNeg).1.toInt64) + 0) (((cr a1.toNatClampNeg).2.1.toInt64) + 0) (((cr a1.toNatClampNeg).2.2.toInt64) + (a5.toInt64 * (4000000000 * a3.toInt64)))) ((v_X4_getN rf).1, cr, 0, (v_X4_getN rf).2) (fun t88 => ((v_X4_get cr a1 t88).1, (v_X4_get cr a1 t88).2, 0, rf))) else (om (v_X4_span (((cr a1.toNatClampNeg).1.toInt64) + 0) (((cr a1.toNatClampNeg).2.1.toInt64) + 0) (((cr a1.toNatClampNeg).2.2.toInt64) + 0)) ((v_X4_getN rf).1, cr, 0, (v_X4_getN rf).2) (fun t81 => ((v_X4_get cr a1 t81).1, (v_X4_get cr a1 t81).2, 0, rf))))))) else (0, cr, 1, rf)
set_option maxHeartbeats 4000000 in
set_option maxRecDepth 100000 in
theorem c_X4_moreOf (l : Launch) (g : GG) (N : Nat) (ad : Nat → Nat) (y : Nat → va_E) (cr dr : Nat → TR) (th kn rf : Int32) (pl : Nat → TR) (pz : Nat) (mc : Int32) (hN : 36 + pz ≤ N) (b0 : Nat) (hb0 : ad 24 = b0) (a1 : Int32) (a2 : Int32) (a3 : Int32) (a4 : Int32) (a5 : Int32) : KI l yX4_moreOf cX4_moreOf 8 (some .int) (rm 2 2 6) g [.ref b0, .int a1, .int a2, .int a3, .int a4, .int a5] N ad (mg g ad y cr dr th kn rf pl pz mc) N (fun r ad' f' => (∀ k, k < N → k < 28 ∨ 36 ≤ k → ad' k = ad k) ∧ (v_X4_moreOf cr rf a1 a2 a3 a4 a5).1 = r ∧ mg g ad' y (v_X4_moreOf cr rf a1 a2 a3 a4 a5).2.1 dr (v_X4_moreOf cr rf a1 a2 a3 a4 a5).2.2.1 kn (v_X4_moreOf cr rf a1 a2 a3 a4 a5).2.2.2 pl pz mc = f') := by
  intro sz
  refine mt_start (by decide) (Nat.le_of_ble_eq_true rfl) ?_
  intro p e s m args below meth c hsz X hr hnam hA hK hT H locs B ls hl
  obtain ⟨hx, hb, hml, hown, hts, hlocks⟩ := id X
  have hl : lv_has ls 8 [(0, .ref b0), (1, .int a1), (2, .int a2), (3, .int a3), (4, .int a4), (5, .int a5)] := hl
  refine lv_aload_n hx hb dX4_moreOf_0 rfl (lv_at hl 0 rfl) ?_
  refine lv_iload_n hx hb dX4_moreOf_1 rfl (lv_at hl 1 rfl) ?_
  refine k_i (k := 0) (n := 0) hA B (u_S (rest := [.ref b0]) X (c_X4_isNone l g N ad (mg g ad y cr dr th kn rf pl pz mc) a1 H.size) mw_X4_isNone md_X4_isNone rfl lk_X4_95 ⟨Nat.le_of_ble_eq_true rfl, Nat.le_of_ble_eq_true rfl⟩ hA hK hT B hl.1 rfl (Nat.le_of_ble_eq_true rfl) dX4_moreOf_2 ⟨Nat.le_of_ble_eq_true rfl, Nat.le_of_ble_eq_true rfl⟩) (Nat.le_of_ble_eq_true rfl) (Nat.le_of_ble_eq_true rfl) (fun r1 ad1 f' H locs hw B => ?_)
  obtain ⟨rfl, rfl, rfl⟩ := hw
  refine lv_iconst (v := 0) hx hb dX4_moreOf_5 (by decide) ?_
  by_cases s2 : v_X4_isNone a1 = 0
  · rw [s2]
    refine k_i (k := 0) (n := 0) hA B (b_V (q := 24) (rest := []) hb0 X (c_X4_stops l g N ad y cr dr th kn rf pl pz mc (by omega) b0 hb0 0 0 H.size) mw_X4_stops md_X4_stops rfl lk_X4_99 ⟨Nat.le_of_ble_eq_true rfl, Nat.le_of_ble_eq_true rfl⟩ hA hK hT B (by omega) mg_24 rfl rfl hl.1 rfl (Nat.le_of_ble_eq_true rfl) dX4_moreOf_6 ⟨Nat.le_of_ble_eq_true rfl, Nat.le_of_ble_eq_true rfl⟩) (Nat.le_of_ble_eq_true rfl) (Nat.le_of_ble_eq_true rfl) (fun r ad' f' H locs hw B => ?_)
    rw [st_00] at hw
    dsimp only at hw
    obtain ⟨rfl, rfl, rfl⟩ := hw
    have B : WB g (aw N ad sz) s.heap N ad (mg g ad y cr dr 0 kn rf pl pz mc) H locs := B
    refine lv_if_eq (tgt := 14) hx hb dX4_moreOf_9 (by decide) (fun _ => ?_) (fun z => absurd z (by decide))
    refine lv_iload hx hb dX4_moreOf_14 (lv_at hl 5 rfl) ?_
    refine lv_i2l (v := a5.toInt64) hx hb dX4_moreOf_16 rfl ?_
    refine lv_iload hx hb dX4_moreOf_17 (lv_at hl 4 rfl) ?_
    refine lv_if_eq (tgt := 31) hx hb dX4_moreOf_19 (by decide) (fun c3 => ?_) (fun c3 => ?_)
    · refine lv_iload_n hx hb dX4_moreOf_31 rfl (lv_at hl 3 rfl) ?_
      refine lv_i2l (v := a3.toInt64) hx hb dX4_moreOf_32 rfl ?_
      refine lv_lmul hx hb dX4_moreOf_33 ?_
      refine lv_lstore (lv' := [(6, .long (a5.toInt64 * a3.toInt64)), (0, .ref b0), (1, .int a1), (2, .int a2), (3, .int a3), (4, .int a4), (5, .int a5)]) hx hb dX4_moreOf_34 hl (by decide) rfl (fun ls hl => ?_)
      refine lv_aload_n hx hb dX4_moreOf_36 rfl (lv_at hl 1 rfl) ?_
      refine lv_iload_n hx hb dX4_moreOf_37 rfl (lv_at hl 2 rfl) ?_
      refine lv_aload_n hx hb dX4_moreOf_38 rfl (lv_at hl 1 rfl) ?_
      refine b_get (q := 24) (k := 1) hb0 X hK B rfl in_X4 (by omega) mg_24 (by decide) lk_X4_11 rfl rfl dX4_moreOf_39 ?_
      refine lv_iload_n hx hb dX4_moreOf_42 rfl (lv_at hl 2 rfl) ?_
      refine b_aald (q := 25) (t0 := 2) (v := ad (28 + a1.toNatClampNeg)) rfl X hK B (by omega) mg_25 rfl rfl (no_in s2) rfl dX4_moreOf_43 ?_
      have g4 : a1.toNatClampNeg < 4 := (no_lt s2)
      refine lv_iconst (v := 0) hx hb dX4_moreOf_44 (by decide) ?_
      refine h_ld0 X hK B (pl_cr hN g4) rfl (mg_cr g4) dX4_moreOf_45 ?_
      refine lv_i2l (v := (cr a1.toNatClampNeg).1.toInt64) hx hb dX4_moreOf_46 rfl ?_
      refine lv_iload_n hx hb dX4_moreOf_47 rfl (lv_at hl 3 rfl) ?_
      refine lv_if_ne (tgt := 56) hx hb dX4_moreOf_48 (by decide) (fun c5 => ?_) (fun c5 => ?_)
      · refine lv_lconst (v := 0) hx hb dX4_moreOf_56 (by decide) ?_
        refine lv_ladd hx hb dX4_moreOf_57 ?_
        refine lv_aload_n hx hb dX4_moreOf_58 rfl (lv_at hl 1 rfl) ?_
        refine b_get (q := 24) (k := 1) hb0 X hK B rfl in_X4 (by omega) mg_24 (by decide) lk_X4_11 rfl rfl dX4_moreOf_59 ?_
        refine lv_iload_n hx hb dX4_moreOf_62 rfl (lv_at hl 2 rfl) ?_
        refine b_aald (q := 25) (t0 := 2) (v := ad (28 + a1.toNatClampNeg)) rfl X hK B (by omega) mg_25 rfl rfl (no_in s2) rfl dX4_moreOf_63 ?_
        have g6 : a1.toNatClampNeg < 4 := (no_lt s2)
        refine lv_iconst (v := 1) hx hb dX4_moreOf_64 (by decide) ?_
        refine h_ld1 X hK B (pl_cr hN g6) rfl (mg_cr g6) dX4_moreOf_65 ?_
        refine lv_i2l (v := (cr a1.toNatClampNeg).2.1.toInt64) hx hb dX4_moreOf_66 rfl ?_
        refine lv_iload_n hx hb dX4_moreOf_67 rfl (lv_at hl 3 rfl) ?_
        refine lv_iconst (v := 1) hx hb dX4_moreOf_68 (by decide) ?_
        refine lv_icmp_ne (tgt := 77) hx hb dX4_moreOf_69 (by decide) (fun c7 => ?_) (fun c7 => ?_)
        · refine lv_lconst (v := 0) hx hb dX4_moreOf_77 (by decide) ?_
          refine lv_ladd hx hb dX4_moreOf_78 ?_
          refine lv_aload_n hx hb dX4_moreOf_79 rfl (lv_at hl 1 rfl) ?_
          refine b_get (q := 24) (k := 1) hb0 X hK B rfl in_X4 (by omega) mg_24 (by decide) lk_X4_11 rfl rfl dX4_moreOf_80 ?_
          refine lv_iload_n hx hb dX4_moreOf_83 rfl (lv_at hl 2 rfl) ?_
          refine b_aald (q := 25) (t0 := 2) (v := ad (28 + a1.toNatClampNeg)) rfl X hK B (by omega) mg_25 rfl rfl (no_in s2) rfl dX4_moreOf_84 ?_
          have g8 : a1.toNatClampNeg < 4 := (no_lt s2)
          refine lv_iconst (v := 2) hx hb dX4_moreOf_85 (by decide) ?_
          refine h_ld2 X hK B (pl_cr hN g8) rfl (mg_cr g8) dX4_moreOf_86 ?_
          refine lv_i2l (v := (cr a1.toNatClampNeg).2.2.toInt64) hx hb dX4_moreOf_87 rfl ?_
          refine lv_iload_n hx hb dX4_moreOf_88 rfl (lv_at hl 3 rfl) ?_
          refine lv_iconst (v := 2) hx hb dX4_moreOf_89 (by decide) ?_
          refine lv_icmp_ne (tgt := 98) hx hb dX4_moreOf_90 (by decide) (fun c9 => ?_) (fun c9 => ?_)
          · refine lv_lconst (v := 0) hx hb dX4_moreOf_98 (by decide) ?_
            refine lv_ladd hx hb dX4_moreOf_99 ?_
            refine k_r (k := 1) (n := 3) hA B (u_S (rest := [.int a1, .ref b0]) X (c_X4_span l g N ad (mg g ad y cr dr 0 kn rf pl pz mc) (((cr a1.toNatClampNeg).1.toInt64) + 0) (((cr a1.toNatClampNeg).2.1.toInt64) + 0) (((cr a1.toNatClampNeg).2.2.toInt64) + 0) H.size) mw_X4_span md_X4_span rfl lk_X4_47 ⟨Nat.le_of_ble_eq_true rfl, Nat.le_of_ble_eq_true rfl⟩ hA hK hT B hl.1 rfl (Nat.le_of_ble_eq_true rfl) dX4_moreOf_100 ⟨Nat.le_of_ble_eq_true rfl, Nat.le_of_ble_eq_true rfl⟩) (Nat.le_of_ble_eq_true rfl) (Nat.le_of_ble_eq_true rfl) (fun r10 ad10 f' H locs hw B => ?_)
            generalize o11 : (v_X4_span (((cr a1.toNatClampNeg).1.toInt64) + 0) (((cr a1.toNatClampNeg).2.1.toInt64) + 0) (((cr a1.toNatClampNeg).2.2.toInt64) + 0)) = v9 at hw B
            cases v9 with
            | none =>
              obtain ⟨rfl, rfl, rfl⟩ := pw_n hw
              refine k_i (k := 1) (n := 3) hA B (b_V (q := 24) (rest := []) hb0 X (c_X4_getN l g N ad y cr dr 0 kn rf pl pz mc (by omega) b0 hb0 a1 H.size) mw_X4_get md_X4_get rfl lk_X4_103 ⟨Nat.le_of_ble_eq_true rfl, Nat.le_of_ble_eq_true rfl⟩ hA hK hT B (by omega) mg_24 rfl rfl hl.1 rfl (Nat.le_of_ble_eq_true rfl) dX4_moreOf_103 ⟨Nat.le_of_ble_eq_true rfl, Nat.le_of_ble_eq_true rfl⟩) (Nat.le_of_ble_eq_true rfl) (Nat.le_of_ble_eq_true rfl) (fun r12 ad12 f' H locs hw B => ?_)
              obtain ⟨rfl, rfl, rfl⟩ := hw
              have ev := (show v_X4_moreOf cr rf a1 a2 a3 a4 a5 = ((v_X4_getN rf).1, cr, 0, (v_X4_getN rf).2) from by unfold v_X4_moreOf; rw [if_pos s2, if_pos c3, if_neg c5, if_neg c7, if_neg c9, om_none o11])
              exact rt_i X hr (ad, mg g ad y cr dr 0 kn (v_X4_getN rf).2 pl pz mc) B (PO_of B) ⟨(fun _ _ _ => rfl), by rw [ev], by rw [ev]⟩ rfl (Nat.le_of_ble_eq_true rfl) (Nat.le_of_ble_eq_true rfl) dX4_moreOf_106
            | some t11 =>
              obtain ⟨z11, rfl, rfl, rfl⟩ := pw_s hw
              have B : WB g (aw N ad sz) s.heap (N + 1) (va_up ad N z11) (mg g (va_up ad N z11) (va_up y N (c_row g t11)) cr dr 0 kn rf pl pz mc) H locs := WM_push (by omega) B
              refine k_i (k := 2) (n := 6) hA B (b_V (q := 24) (rest := []) ((up_lt (by omega)).trans hb0) X (c_X4_get l g (N + 1) (va_up ad N z11) (va_up y N (c_row g t11)) cr dr 0 kn rf pl pz mc (by omega) b0 ((up_lt (by omega)).trans hb0) a1 N z11 t11 (Nat.lt_succ_self _) up_eq ((mg_hi (by omega)).trans up_eq) s2 H.size) mw_X4_get md_X4_get rfl lk_X4_103 ⟨Nat.le_of_ble_eq_true rfl, Nat.le_of_ble_eq_true rfl⟩ hA hK hT B (by omega) mg_24 rfl rfl hl.1 rfl (Nat.le_of_ble_eq_true rfl) dX4_moreOf_103 ⟨Nat.le_of_ble_eq_true rfl, Nat.le_of_ble_eq_true rfl⟩) (Nat.le_of_ble_eq_true rfl) (Nat.le_of_ble_eq_true rfl) (fun r13 ad13 f' H locs hw B => ?_)
              dsimp only at hw
              obtain ⟨mv14, rfl, rfl⟩ := hw
              have B : WB g (aw N ad sz) s.heap N ad13 (mg g ad13 y (v_X4_get cr a1 t11).2 dr 0 kn rf pl pz mc) H locs := WM_drop B (by omega) (by omega) (fun _ _ => rfl) (fun _ hk => (up_lt hk))
              have kk15 : ∀ k, k < N → k < 28 ∨ 36 ≤ k → ad13 k = ad k := fun k hk hkq => (mv14 k (by omega) hkq).trans (((fun _ hk => (up_lt hk)) k hk).trans rfl)
              have nb16 : ad13 24 = b0 := (mv14 24 (by omega) (Or.inl (by decide))).trans ((up_lt (by omega)).trans hb0)
              have ev := (show v_X4_moreOf cr rf a1 a2 a3 a4 a5 = ((v_X4_get cr a1 t11).1, (v_X4_get cr a1 t11).2, 0, rf) from by unfold v_X4_moreOf; rw [if_pos s2, if_pos c3, if_neg c5, if_neg c7, if_neg c9, om_some o11])
              exact rt_i X hr (ad13, mg g ad13 y (v_X4_get cr a1 t11).2 dr 0 kn rf pl pz mc) B (PO_of B) ⟨kk15, by rw [ev], by rw [ev]⟩ rfl (Nat.le_of_ble_eq_true rfl) (Nat.le_of_ble_eq_true rfl) dX4_moreOf_106
          · refine lv_lload hx hb dX4_moreOf_93 (lv_at hl 0 rfl) ?_
            refine lv_goto (tgt := 99) hx hb dX4_moreOf_95 (by decide) ?_
            refine lv_ladd hx hb dX4_moreOf_99 ?_
            refine k_r (k := 1) (n := 3) hA B (u_S (rest := [.int a1, .ref b0]) X (c_X4_span l g N ad (mg g ad y cr dr 0 kn rf pl pz mc) (((cr a1.toNatClampNeg).1.toInt64) + 0) (((cr a1.toNatClampNeg).2.1.toInt64) + 0) (((cr a1.toNatClampNeg).2.2.toInt64) + (a5.toInt64 * a3.toInt64)) H.size) mw_X4_span md_X4_span rfl lk_X4_47 ⟨Nat.le_of_ble_eq_true rfl, Nat.le_of_ble_eq_true rfl⟩ hA hK hT B hl.1 rfl (Nat.le_of_ble_eq_true rfl) dX4_moreOf_100 ⟨Nat.le_of_ble_eq_true rfl, Nat.le_of_ble_eq_true rfl⟩) (Nat.le_of_ble_eq_true rfl) (Nat.le_of_ble_eq_true rfl) (fun r17 ad17 f' H locs hw B => ?_)
            generalize o18 : (v_X4_span (((cr a1.toNatClampNeg).1.toInt64) + 0) (((cr a1.toNatClampNeg).2.1.toInt64) + 0) (((cr a1.toNatClampNeg).2.2.toInt64) + (a5.toInt64 * a3.toInt64))) = v9 at hw B
            cases v9 with
            | none =>
              obtain ⟨rfl, rfl, rfl⟩ := pw_n hw
              refine k_i (k := 1) (n := 3) hA B (b_V (q := 24) (rest := []) hb0 X (c_X4_getN l g N ad y cr dr 0 kn rf pl pz mc (by omega) b0 hb0 a1 H.size) mw_X4_get md_X4_get rfl lk_X4_103 ⟨Nat.le_of_ble_eq_true rfl, Nat.le_of_ble_eq_true rfl⟩ hA hK hT B (by omega) mg_24 rfl rfl hl.1 rfl (Nat.le_of_ble_eq_true rfl) dX4_moreOf_103 ⟨Nat.le_of_ble_eq_true rfl, Nat.le_of_ble_eq_true rfl⟩) (Nat.le_of_ble_eq_true rfl) (Nat.le_of_ble_eq_true rfl) (fun r19 ad19 f' H locs hw B => ?_)
              obtain ⟨rfl, rfl, rfl⟩ := hw
              have ev := (show v_X4_moreOf cr rf a1 a2 a3 a4 a5 = ((v_X4_getN rf).1, cr, 0, (v_X4_getN rf).2) from by unfold v_X4_moreOf; rw [if_pos s2, if_pos c3, if_neg c5, if_neg c7, if_pos c9, om_none o18])
              exact rt_i X hr (ad, mg g ad y cr dr 0 kn (v_X4_getN rf).2 pl pz mc) B (PO_of B) ⟨(fun _ _ _ => rfl), by rw [ev], by rw [ev]⟩ rfl (Nat.le_of_ble_eq_true rfl) (Nat.le_of_ble_eq_true rfl) dX4_moreOf_106
            | some t18 =>
              obtain ⟨z18, rfl, rfl, rfl⟩ := pw_s hw
              have B : WB g (aw N ad sz) s.heap (N + 1) (va_up ad N z18) (mg g (va_up ad N z18) (va_up y N (c_row g t18)) cr dr 0 kn rf pl pz mc) H locs := WM_push (by omega) B
              refine k_i (k := 2) (n := 6) hA B (b_V (q := 24) (rest := []) ((up_lt (by omega)).trans hb0) X (c_X4_get l g (N + 1) (va_up ad N z18) (va_up y N (c_row g t18)) cr dr 0 kn rf pl pz mc (by omega) b0 ((up_lt (by omega)).trans hb0) a1 N z18 t18 (Nat.lt_succ_self _) up_eq ((mg_hi (by omega)).trans up_eq) s2 H.size) mw_X4_get md_X4_get rfl lk_X4_103 ⟨Nat.le_of_ble_eq_true rfl, Nat.le_of_ble_eq_true rfl⟩ hA hK hT B (by omega) mg_24 rfl rfl hl.1 rfl (Nat.le_of_ble_eq_true rfl) dX4_moreOf_103 ⟨Nat.le_of_ble_eq_true rfl, Nat.le_of_ble_eq_true rfl⟩) (Nat.le_of_ble_eq_true rfl) (Nat.le_of_ble_eq_true rfl) (fun r20 ad20 f' H locs hw B => ?_)
              dsimp only at hw
              obtain ⟨mv21, rfl, rfl⟩ := hw
              have B : WB g (aw N ad sz) s.heap N ad20 (mg g ad20 y (v_X4_get cr a1 t18).2 dr 0 kn rf pl pz mc) H locs := WM_drop B (by omega) (by omega) (fun _ _ => rfl) (fun _ hk => (up_lt hk))
              have kk22 : ∀ k, k < N → k < 28 ∨ 36 ≤ k → ad20 k = ad k := fun k hk hkq => (mv21 k (by omega) hkq).trans (((fun _ hk => (up_lt hk)) k hk).trans rfl)
              have nb23 : ad20 24 = b0 := (mv21 24 (by omega) (Or.inl (by decide))).trans ((up_lt (by omega)).trans hb0)
              have ev := (show v_X4_moreOf cr rf a1 a2 a3 a4 a5 = ((v_X4_get cr a1 t18).1, (v_X4_get cr a1 t18).2, 0, rf) from by unfold v_X4_moreOf; rw [if_pos s2, if_pos c3, if_neg c5, if_neg c7, if_pos c9, om_some o18])
              exact rt_i X hr (ad20, mg g ad20 y (v_X4_get cr a1 t18).2 dr 0 kn rf pl pz mc) B (PO_of B) ⟨kk22, by rw [ev], by rw [ev]⟩ rfl (Nat.le_of_ble_eq_true rfl) (Nat.le_of_ble_eq_true rfl) dX4_moreOf_106
        · refine lv_lload hx hb dX4_moreOf_72 (lv_at hl 0 rfl) ?_
          refine lv_goto (tgt := 78) hx hb dX4_moreOf_74 (by decide) ?_
          refine lv_ladd hx hb dX4_moreOf_78 ?_
          refine lv_aload_n hx hb dX4_moreOf_79 rfl (lv_at hl 1 rfl) ?_
          refine b_get (q := 24) (k := 1) hb0 X hK B rfl in_X4 (by omega) mg_24 (by decide) lk_X4_11 rfl rfl dX4_moreOf_80 ?_
          refine lv_iload_n hx hb dX4_moreOf_83 rfl (lv_at hl 2 rfl) ?_
          refine b_aald (q := 25) (t0 := 2) (v := ad (28 + a1.toNatClampNeg)) rfl X hK B (by omega) mg_25 rfl rfl (no_in s2) rfl dX4_moreOf_84 ?_
          have g24 : a1.toNatClampNeg < 4 := (no_lt s2)
          refine lv_iconst (v := 2) hx hb dX4_moreOf_85 (by decide) ?_
          refine h_ld2 X hK B (pl_cr hN g24) rfl (mg_cr g24) dX4_moreOf_86 ?_
          refine lv_i2l (v := (cr a1.toNatClampNeg).2.2.toInt64) hx hb dX4_moreOf_87 rfl ?_
          refine lv_iload_n hx hb dX4_moreOf_88 rfl (lv_at hl 3 rfl) ?_
          refine lv_iconst (v := 2) hx hb dX4_moreOf_89 (by decide) ?_
          refine lv_icmp_ne (tgt := 98) hx hb dX4_moreOf_90 (by decide) (fun c25 => ?_) (fun c25 => ?_)
          · refine lv_lconst (v := 0) hx hb dX4_moreOf_98 (by decide) ?_
            refine lv_ladd hx hb dX4_moreOf_99 ?_
            refine k_r (k := 1) (n := 3) hA B (u_S (rest := [.int a1, .ref b0]) X (c_X4_span l g N ad (mg g ad y cr dr 0 kn rf pl pz mc) (((cr a1.toNatClampNeg).1.toInt64) + 0) (((cr a1.toNatClampNeg).2.1.toInt64) + (a5.toInt64 * a3.toInt64)) (((cr a1.toNatClampNeg).2.2.toInt64) + 0) H.size) mw_X4_span md_X4_span rfl lk_X4_47 ⟨Nat.le_of_ble_eq_true rfl, Nat.le_of_ble_eq_true rfl⟩ hA hK hT B hl.1 rfl (Nat.le_of_ble_eq_true rfl) dX4_moreOf_100 ⟨Nat.le_of_ble_eq_true rfl, Nat.le_of_ble_eq_true rfl⟩) (Nat.le_of_ble_eq_true rfl) (Nat.le_of_ble_eq_true rfl) (fun r26 ad26 f' H locs hw B => ?_)
            generalize o27 : (v_X4_span (((cr a1.toNatClampNeg).1.toInt64) + 0) (((cr a1.toNatClampNeg).2.1.toInt64) + (a5.toInt64 * a3.toInt64)) (((cr a1.toNatClampNeg).2.2.toInt64) + 0)) = v9 at hw B
            cases v9 with
            | none =>
              obtain ⟨rfl, rfl, rfl⟩ := pw_n hw
              refine k_i (k := 1) (n := 3) hA B (b_V (q := 24) (rest := []) hb0 X (c_X4_getN l g N ad y cr dr 0 kn rf pl pz mc (by omega) b0 hb0 a1 H.size) mw_X4_get md_X4_get rfl lk_X4_103 ⟨Nat.le_of_ble_eq_true rfl, Nat.le_of_ble_eq_true rfl⟩ hA hK hT B (by omega) mg_24 rfl rfl hl.1 rfl (Nat.le_of_ble_eq_true rfl) dX4_moreOf_103 ⟨Nat.le_of_ble_eq_true rfl, Nat.le_of_ble_eq_true rfl⟩) (Nat.le_of_ble_eq_true rfl) (Nat.le_of_ble_eq_true rfl) (fun r28 ad28 f' H locs hw B => ?_)
              obtain ⟨rfl, rfl, rfl⟩ := hw
              have ev := (show v_X4_moreOf cr rf a1 a2 a3 a4 a5 = ((v_X4_getN rf).1, cr, 0, (v_X4_getN rf).2) from by unfold v_X4_moreOf; rw [if_pos s2, if_pos c3, if_neg c5, if_pos c7, if_neg c25, om_none o27])
              exact rt_i X hr (ad, mg g ad y cr dr 0 kn (v_X4_getN rf).2 pl pz mc) B (PO_of B) ⟨(fun _ _ _ => rfl), by rw [ev], by rw [ev]⟩ rfl (Nat.le_of_ble_eq_true rfl) (Nat.le_of_ble_eq_true rfl) dX4_moreOf_106
            | some t27 =>
              obtain ⟨z27, rfl, rfl, rfl⟩ := pw_s hw
              have B : WB g (aw N ad sz) s.heap (N + 1) (va_up ad N z27) (mg g (va_up ad N z27) (va_up y N (c_row g t27)) cr dr 0 kn rf pl pz mc) H locs := WM_push (by omega) B
              refine k_i (k := 2) (n := 6) hA B (b_V (q := 24) (rest := []) ((up_lt (by omega)).trans hb0) X (c_X4_get l g (N + 1) (va_up ad N z27) (va_up y N (c_row g t27)) cr dr 0 kn rf pl pz mc (by omega) b0 ((up_lt (by omega)).trans hb0) a1 N z27 t27 (Nat.lt_succ_self _) up_eq ((mg_hi (by omega)).trans up_eq) s2 H.size) mw_X4_get md_X4_get rfl lk_X4_103 ⟨Nat.le_of_ble_eq_true rfl, Nat.le_of_ble_eq_true rfl⟩ hA hK hT B (by omega) mg_24 rfl rfl hl.1 rfl (Nat.le_of_ble_eq_true rfl) dX4_moreOf_103 ⟨Nat.le_of_ble_eq_true rfl, Nat.le_of_ble_eq_true rfl⟩) (Nat.le_of_ble_eq_true rfl) (Nat.le_of_ble_eq_true rfl) (fun r29 ad29 f' H locs hw B => ?_)
              dsimp only at hw
              obtain ⟨mv30, rfl, rfl⟩ := hw
              have B : WB g (aw N ad sz) s.heap N ad29 (mg g ad29 y (v_X4_get cr a1 t27).2 dr 0 kn rf pl pz mc) H locs := WM_drop B (by omega) (by omega) (fun _ _ => rfl) (fun _ hk => (up_lt hk))
              have kk31 : ∀ k, k < N → k < 28 ∨ 36 ≤ k → ad29 k = ad k := fun k hk hkq => (mv30 k (by omega) hkq).trans (((fun _ hk => (up_lt hk)) k hk).trans rfl)
              have nb32 : ad29 24 = b0 := (mv30 24 (by omega) (Or.inl (by decide))).trans ((up_lt (by omega)).trans hb0)
              have ev := (show v_X4_moreOf cr rf a1 a2 a3 a4 a5 = ((v_X4_get cr a1 t27).1, (v_X4_get cr a1 t27).2, 0, rf) from by unfold v_X4_moreOf; rw [if_pos s2, if_pos c3, if_neg c5, if_pos c7, if_neg c25, om_some o27])
              exact rt_i X hr (ad29, mg g ad29 y (v_X4_get cr a1 t27).2 dr 0 kn rf pl pz mc) B (PO_of B) ⟨kk31, by rw [ev], by rw [ev]⟩ rfl (Nat.le_of_ble_eq_true rfl) (Nat.le_of_ble_eq_true rfl) dX4_moreOf_106
          · refine lv_lload hx hb dX4_moreOf_93 (lv_at hl 0 rfl) ?_
            refine lv_goto (tgt := 99) hx hb dX4_moreOf_95 (by decide) ?_
            refine lv_ladd hx hb dX4_moreOf_99 ?_
            refine k_r (k := 1) (n := 3) hA B (u_S (rest := [.int a1, .ref b0]) X (c_X4_span l g N ad (mg g ad y cr dr 0 kn rf pl pz mc) (((cr a1.toNatClampNeg).1.toInt64) + 0) (((cr a1.toNatClampNeg).2.1.toInt64) + (a5.toInt64 * a3.toInt64)) (((cr a1.toNatClampNeg).2.2.toInt64) + (a5.toInt64 * a3.toInt64)) H.size) mw_X4_span md_X4_span rfl lk_X4_47 ⟨Nat.le_of_ble_eq_true rfl, Nat.le_of_ble_eq_true rfl⟩ hA hK hT B hl.1 rfl (Nat.le_of_ble_eq_true rfl) dX4_moreOf_100 ⟨Nat.le_of_ble_eq_true rfl, Nat.le_of_ble_eq_true rfl⟩) (Nat.le_of_ble_eq_true rfl) (Nat.le_of_ble_eq_true rfl) (fun r33 ad33 f' H locs hw B => ?_)
            generalize o34 : (v_X4_span (((cr a1.toNatClampNeg).1.toInt64) + 0) (((cr a1.toNatClampNeg).2.1.toInt64) + (a5.toInt64 * a3.toInt64)) (((cr a1.toNatClampNeg).2.2.toInt64) + (a5.toInt64 * a3.toInt64))) = v9 at hw B
            cases v9 with
            | none =>
              obtain ⟨rfl, rfl, rfl⟩ := pw_n hw
              refine k_i (k := 1) (n := 3) hA B (b_V (q := 24) (rest := []) hb0 X (c_X4_getN l g N ad y cr dr 0 kn rf pl pz mc (by omega) b0 hb0 a1 H.size) mw_X4_get md_X4_get rfl lk_X4_103 ⟨Nat.le_of_ble_eq_true rfl, Nat.le_of_ble_eq_true rfl⟩ hA hK hT B (by omega) mg_24 rfl rfl hl.1 rfl (Nat.le_of_ble_eq_true rfl) dX4_moreOf_103 ⟨Nat.le_of_ble_eq_true rfl, Nat.le_of_ble_eq_true rfl⟩) (Nat.le_of_ble_eq_true rfl) (Nat.le_of_ble_eq_true rfl) (fun r35 ad35 f' H locs hw B => ?_)
              obtain ⟨rfl, rfl, rfl⟩ := hw
              have ev := (show v_X4_moreOf cr rf a1 a2 a3 a4 a5 = ((v_X4_getN rf).1, cr, 0, (v_X4_getN rf).2) from by unfold v_X4_moreOf; rw [if_pos s2, if_pos c3, if_neg c5, if_pos c7, if_pos c25, om_none o34])
              exact rt_i X hr (ad, mg g ad y cr dr 0 kn (v_X4_getN rf).2 pl pz mc) B (PO_of B) ⟨(fun _ _ _ => rfl), by rw [ev], by rw [ev]⟩ rfl (Nat.le_of_ble_eq_true rfl) (Nat.le_of_ble_eq_true rfl) dX4_moreOf_106
            | some t34 =>
              obtain ⟨z34, rfl, rfl, rfl⟩ := pw_s hw
              have B : WB g (aw N ad sz) s.heap (N + 1) (va_up ad N z34) (mg g (va_up ad N z34) (va_up y N (c_row g t34)) cr dr 0 kn rf pl pz mc) H locs := WM_push (by omega) B
              refine k_i (k := 2) (n := 6) hA B (b_V (q := 24) (rest := []) ((up_lt (by omega)).trans hb0) X (c_X4_get l g (N + 1) (va_up ad N z34) (va_up y N (c_row g t34)) cr dr 0 kn rf pl pz mc (by omega) b0 ((up_lt (by omega)).trans hb0) a1 N z34 t34 (Nat.lt_succ_self _) up_eq ((mg_hi (by omega)).trans up_eq) s2 H.size) mw_X4_get md_X4_get rfl lk_X4_103 ⟨Nat.le_of_ble_eq_true rfl, Nat.le_of_ble_eq_true rfl⟩ hA hK hT B (by omega) mg_24 rfl rfl hl.1 rfl (Nat.le_of_ble_eq_true rfl) dX4_moreOf_103 ⟨Nat.le_of_ble_eq_true rfl, Nat.le_of_ble_eq_true rfl⟩) (Nat.le_of_ble_eq_true rfl) (Nat.le_of_ble_eq_true rfl) (fun r36 ad36 f' H locs hw B => ?_)
              dsimp only at hw
              obtain ⟨mv37, rfl, rfl⟩ := hw
              have B : WB g (aw N ad sz) s.heap N ad36 (mg g ad36 y (v_X4_get cr a1 t34).2 dr 0 kn rf pl pz mc) H locs := WM_drop B (by omega) (by omega) (fun _ _ => rfl) (fun _ hk => (up_lt hk))
              have kk38 : ∀ k, k < N → k < 28 ∨ 36 ≤ k → ad36 k = ad k := fun k hk hkq => (mv37 k (by omega) hkq).trans (((fun _ hk => (up_lt hk)) k hk).trans rfl)
              have nb39 : ad36 24 = b0 := (mv37 24 (by omega) (Or.inl (by decide))).trans ((up_lt (by omega)).trans hb0)
              have ev := (show v_X4_moreOf cr rf a1 a2 a3 a4 a5 = ((v_X4_get cr a1 t34).1, (v_X4_get cr a1 t34).2, 0, rf) from by unfold v_X4_moreOf; rw [if_pos s2, if_pos c3, if_neg c5, if_pos c7, if_pos c25, om_some o34])
              exact rt_i X hr (ad36, mg g ad36 y (v_X4_get cr a1 t34).2 dr 0 kn rf pl pz mc) B (PO_of B) ⟨kk38, by rw [ev], by rw [ev]⟩ rfl (Nat.le_of_ble_eq_true rfl) (Nat.le_of_ble_eq_true rfl) dX4_moreOf_106
      · refine lv_lload hx hb dX4_moreOf_51 (lv_at hl 0 rfl) ?_
        refine lv_goto (tgt := 57) hx hb dX4_moreOf_53 (by decide) ?_
        refine lv_ladd hx hb dX4_moreOf_57 ?_
        refine lv_aload_n hx hb dX4_moreOf_58 rfl (lv_at hl 1 rfl) ?_
        refine b_get (q := 24) (k := 1) hb0 X hK B rfl in_X4 (by omega) mg_24 (by decide) lk_X4_11 rfl rfl dX4_moreOf_59 ?_
        refine lv_iload_n hx hb dX4_moreOf_62 rfl (lv_at hl 2 rfl) ?_
        refine b_aald (q := 25) (t0 := 2) (v := ad (28 + a1.toNatClampNeg)) rfl X hK B (by omega) mg_25 rfl rfl (no_in s2) rfl dX4_moreOf_63 ?_
        have g40 : a1.toNatClampNeg < 4 := (no_lt s2)
        refine lv_iconst (v := 1) hx hb dX4_moreOf_64 (by decide) ?_
        refine h_ld1 X hK B (pl_cr hN g40) rfl (mg_cr g40) dX4_moreOf_65 ?_
        refine lv_i2l (v := (cr a1.toNatClampNeg).2.1.toInt64) hx hb dX4_moreOf_66 rfl ?_
        refine lv_iload_n hx hb dX4_moreOf_67 rfl (lv_at hl 3 rfl) ?_
        refine lv_iconst (v := 1) hx hb dX4_moreOf_68 (by decide) ?_
        refine lv_icmp_ne (tgt := 77) hx hb dX4_moreOf_69 (by decide) (fun c41 => ?_) (fun c41 => ?_)
        · refine lv_lconst (v := 0) hx hb dX4_moreOf_77 (by decide) ?_
          refine lv_ladd hx hb dX4_moreOf_78 ?_
          refine lv_aload_n hx hb dX4_moreOf_79 rfl (lv_at hl 1 rfl) ?_
          refine b_get (q := 24) (k := 1) hb0 X hK B rfl in_X4 (by omega) mg_24 (by decide) lk_X4_11 rfl rfl dX4_moreOf_80 ?_
          refine lv_iload_n hx hb dX4_moreOf_83 rfl (lv_at hl 2 rfl) ?_
          refine b_aald (q := 25) (t0 := 2) (v := ad (28 + a1.toNatClampNeg)) rfl X hK B (by omega) mg_25 rfl rfl (no_in s2) rfl dX4_moreOf_84 ?_
          have g42 : a1.toNatClampNeg < 4 := (no_lt s2)
          refine lv_iconst (v := 2) hx hb dX4_moreOf_85 (by decide) ?_
          refine h_ld2 X hK B (pl_cr hN g42) rfl (mg_cr g42) dX4_moreOf_86 ?_
          refine lv_i2l (v := (cr a1.toNatClampNeg).2.2.toInt64) hx hb dX4_moreOf_87 rfl ?_
          refine lv_iload_n hx hb dX4_moreOf_88 rfl (lv_at hl 3 rfl) ?_
          refine lv_iconst (v := 2) hx hb dX4_moreOf_89 (by decide) ?_
          refine lv_icmp_ne (tgt := 98) hx hb dX4_moreOf_90 (by decide) (fun c43 => ?_) (fun c43 => ?_)
          · refine lv_lconst (v := 0) hx hb dX4_moreOf_98 (by decide) ?_
            refine lv_ladd hx hb dX4_moreOf_99 ?_
            refine k_r (k := 1) (n := 3) hA B (u_S (rest := [.int a1, .ref b0]) X (c_X4_span l g N ad (mg g ad y cr dr 0 kn rf pl pz mc) (((cr a1.toNatClampNeg).1.toInt64) + (a5.toInt64 * a3.toInt64)) (((cr a1.toNatClampNeg).2.1.toInt64) + 0) (((cr a1.toNatClampNeg).2.2.toInt64) + 0) H.size) mw_X4_span md_X4_span rfl lk_X4_47 ⟨Nat.le_of_ble_eq_true rfl, Nat.le_of_ble_eq_true rfl⟩ hA hK hT B hl.1 rfl (Nat.le_of_ble_eq_true rfl) dX4_moreOf_100 ⟨Nat.le_of_ble_eq_true rfl, Nat.le_of_ble_eq_true rfl⟩) (Nat.le_of_ble_eq_true rfl) (Nat.le_of_ble_eq_true rfl) (fun r44 ad44 f' H locs hw B => ?_)
            generalize o45 : (v_X4_span (((cr a1.toNatClampNeg).1.toInt64) + (a5.toInt64 * a3.toInt64)) (((cr a1.toNatClampNeg).2.1.toInt64) + 0) (((cr a1.toNatClampNeg).2.2.toInt64) + 0)) = v9 at hw B
            cases v9 with
            | none =>
              obtain ⟨rfl, rfl, rfl⟩ := pw_n hw
              refine k_i (k := 1) (n := 3) hA B (b_V (q := 24) (rest := []) hb0 X (c_X4_getN l g N ad y cr dr 0 kn rf pl pz mc (by omega) b0 hb0 a1 H.size) mw_X4_get md_X4_get rfl lk_X4_103 ⟨Nat.le_of_ble_eq_true rfl, Nat.le_of_ble_eq_true rfl⟩ hA hK hT B (by omega) mg_24 rfl rfl hl.1 rfl (Nat.le_of_ble_eq_true rfl) dX4_moreOf_103 ⟨Nat.le_of_ble_eq_true rfl, Nat.le_of_ble_eq_true rfl⟩) (Nat.le_of_ble_eq_true rfl) (Nat.le_of_ble_eq_true rfl) (fun r46 ad46 f' H locs hw B => ?_)
              obtain ⟨rfl, rfl, rfl⟩ := hw
              have ev := (show v_X4_moreOf cr rf a1 a2 a3 a4 a5 = ((v_X4_getN rf).1, cr, 0, (v_X4_getN rf).2) from by unfold v_X4_moreOf; rw [if_pos s2, if_pos c3, if_pos c5, if_neg c41, if_neg c43, om_none o45])
              exact rt_i X hr (ad, mg g ad y cr dr 0 kn (v_X4_getN rf).2 pl pz mc) B (PO_of B) ⟨(fun _ _ _ => rfl), by rw [ev], by rw [ev]⟩ rfl (Nat.le_of_ble_eq_true rfl) (Nat.le_of_ble_eq_true rfl) dX4_moreOf_106
            | some t45 =>
              obtain ⟨z45, rfl, rfl, rfl⟩ := pw_s hw
              have B : WB g (aw N ad sz) s.heap (N + 1) (va_up ad N z45) (mg g (va_up ad N z45) (va_up y N (c_row g t45)) cr dr 0 kn rf pl pz mc) H locs := WM_push (by omega) B
              refine k_i (k := 2) (n := 6) hA B (b_V (q := 24) (rest := []) ((up_lt (by omega)).trans hb0) X (c_X4_get l g (N + 1) (va_up ad N z45) (va_up y N (c_row g t45)) cr dr 0 kn rf pl pz mc (by omega) b0 ((up_lt (by omega)).trans hb0) a1 N z45 t45 (Nat.lt_succ_self _) up_eq ((mg_hi (by omega)).trans up_eq) s2 H.size) mw_X4_get md_X4_get rfl lk_X4_103 ⟨Nat.le_of_ble_eq_true rfl, Nat.le_of_ble_eq_true rfl⟩ hA hK hT B (by omega) mg_24 rfl rfl hl.1 rfl (Nat.le_of_ble_eq_true rfl) dX4_moreOf_103 ⟨Nat.le_of_ble_eq_true rfl, Nat.le_of_ble_eq_true rfl⟩) (Nat.le_of_ble_eq_true rfl) (Nat.le_of_ble_eq_true rfl) (fun r47 ad47 f' H locs hw B => ?_)
              dsimp only at hw
              obtain ⟨mv48, rfl, rfl⟩ := hw
              have B : WB g (aw N ad sz) s.heap N ad47 (mg g ad47 y (v_X4_get cr a1 t45).2 dr 0 kn rf pl pz mc) H locs := WM_drop B (by omega) (by omega) (fun _ _ => rfl) (fun _ hk => (up_lt hk))
              have kk49 : ∀ k, k < N → k < 28 ∨ 36 ≤ k → ad47 k = ad k := fun k hk hkq => (mv48 k (by omega) hkq).trans (((fun _ hk => (up_lt hk)) k hk).trans rfl)
              have nb50 : ad47 24 = b0 := (mv48 24 (by omega) (Or.inl (by decide))).trans ((up_lt (by omega)).trans hb0)
              have ev := (show v_X4_moreOf cr rf a1 a2 a3 a4 a5 = ((v_X4_get cr a1 t45).1, (v_X4_get cr a1 t45).2, 0, rf) from by unfold v_X4_moreOf; rw [if_pos s2, if_pos c3, if_pos c5, if_neg c41, if_neg c43, om_some o45])
              exact rt_i X hr (ad47, mg g ad47 y (v_X4_get cr a1 t45).2 dr 0 kn rf pl pz mc) B (PO_of B) ⟨kk49, by rw [ev], by rw [ev]⟩ rfl (Nat.le_of_ble_eq_true rfl) (Nat.le_of_ble_eq_true rfl) dX4_moreOf_106
          · refine lv_lload hx hb dX4_moreOf_93 (lv_at hl 0 rfl) ?_
            refine lv_goto (tgt := 99) hx hb dX4_moreOf_95 (by decide) ?_
            refine lv_ladd hx hb dX4_moreOf_99 ?_
            refine k_r (k := 1) (n := 3) hA B (u_S (rest := [.int a1, .ref b0]) X (c_X4_span l g N ad (mg g ad y cr dr 0 kn rf pl pz mc) (((cr a1.toNatClampNeg).1.toInt64) + (a5.toInt64 * a3.toInt64)) (((cr a1.toNatClampNeg).2.1.toInt64) + 0) (((cr a1.toNatClampNeg).2.2.toInt64) + (a5.toInt64 * a3.toInt64)) H.size) mw_X4_span md_X4_span rfl lk_X4_47 ⟨Nat.le_of_ble_eq_true rfl, Nat.le_of_ble_eq_true rfl⟩ hA hK hT B hl.1 rfl (Nat.le_of_ble_eq_true rfl) dX4_moreOf_100 ⟨Nat.le_of_ble_eq_true rfl, Nat.le_of_ble_eq_true rfl⟩) (Nat.le_of_ble_eq_true rfl) (Nat.le_of_ble_eq_true rfl) (fun r51 ad51 f' H locs hw B => ?_)
            generalize o52 : (v_X4_span (((cr a1.toNatClampNeg).1.toInt64) + (a5.toInt64 * a3.toInt64)) (((cr a1.toNatClampNeg).2.1.toInt64) + 0) (((cr a1.toNatClampNeg).2.2.toInt64) + (a5.toInt64 * a3.toInt64))) = v9 at hw B
            cases v9 with
            | none =>
              obtain ⟨rfl, rfl, rfl⟩ := pw_n hw
              refine k_i (k := 1) (n := 3) hA B (b_V (q := 24) (rest := []) hb0 X (c_X4_getN l g N ad y cr dr 0 kn rf pl pz mc (by omega) b0 hb0 a1 H.size) mw_X4_get md_X4_get rfl lk_X4_103 ⟨Nat.le_of_ble_eq_true rfl, Nat.le_of_ble_eq_true rfl⟩ hA hK hT B (by omega) mg_24 rfl rfl hl.1 rfl (Nat.le_of_ble_eq_true rfl) dX4_moreOf_103 ⟨Nat.le_of_ble_eq_true rfl, Nat.le_of_ble_eq_true rfl⟩) (Nat.le_of_ble_eq_true rfl) (Nat.le_of_ble_eq_true rfl) (fun r53 ad53 f' H locs hw B => ?_)
              obtain ⟨rfl, rfl, rfl⟩ := hw
              have ev := (show v_X4_moreOf cr rf a1 a2 a3 a4 a5 = ((v_X4_getN rf).1, cr, 0, (v_X4_getN rf).2) from by unfold v_X4_moreOf; rw [if_pos s2, if_pos c3, if_pos c5, if_neg c41, if_pos c43, om_none o52])
              exact rt_i X hr (ad, mg g ad y cr dr 0 kn (v_X4_getN rf).2 pl pz mc) B (PO_of B) ⟨(fun _ _ _ => rfl), by rw [ev], by rw [ev]⟩ rfl (Nat.le_of_ble_eq_true rfl) (Nat.le_of_ble_eq_true rfl) dX4_moreOf_106
            | some t52 =>
              obtain ⟨z52, rfl, rfl, rfl⟩ := pw_s hw
              have B : WB g (aw N ad sz) s.heap (N + 1) (va_up ad N z52) (mg g (va_up ad N z52) (va_up y N (c_row g t52)) cr dr 0 kn rf pl pz mc) H locs := WM_push (by omega) B
              refine k_i (k := 2) (n := 6) hA B (b_V (q := 24) (rest := []) ((up_lt (by omega)).trans hb0) X (c_X4_get l g (N + 1) (va_up ad N z52) (va_up y N (c_row g t52)) cr dr 0 kn rf pl pz mc (by omega) b0 ((up_lt (by omega)).trans hb0) a1 N z52 t52 (Nat.lt_succ_self _) up_eq ((mg_hi (by omega)).trans up_eq) s2 H.size) mw_X4_get md_X4_get rfl lk_X4_103 ⟨Nat.le_of_ble_eq_true rfl, Nat.le_of_ble_eq_true rfl⟩ hA hK hT B (by omega) mg_24 rfl rfl hl.1 rfl (Nat.le_of_ble_eq_true rfl) dX4_moreOf_103 ⟨Nat.le_of_ble_eq_true rfl, Nat.le_of_ble_eq_true rfl⟩) (Nat.le_of_ble_eq_true rfl) (Nat.le_of_ble_eq_true rfl) (fun r54 ad54 f' H locs hw B => ?_)
              dsimp only at hw
              obtain ⟨mv55, rfl, rfl⟩ := hw
              have B : WB g (aw N ad sz) s.heap N ad54 (mg g ad54 y (v_X4_get cr a1 t52).2 dr 0 kn rf pl pz mc) H locs := WM_drop B (by omega) (by omega) (fun _ _ => rfl) (fun _ hk => (up_lt hk))
              have kk56 : ∀ k, k < N → k < 28 ∨ 36 ≤ k → ad54 k = ad k := fun k hk hkq => (mv55 k (by omega) hkq).trans (((fun _ hk => (up_lt hk)) k hk).trans rfl)
              have nb57 : ad54 24 = b0 := (mv55 24 (by omega) (Or.inl (by decide))).trans ((up_lt (by omega)).trans hb0)
              have ev := (show v_X4_moreOf cr rf a1 a2 a3 a4 a5 = ((v_X4_get cr a1 t52).1, (v_X4_get cr a1 t52).2, 0, rf) from by unfold v_X4_moreOf; rw [if_pos s2, if_pos c3, if_pos c5, if_neg c41, if_pos c43, om_some o52])
              exact rt_i X hr (ad54, mg g ad54 y (v_X4_get cr a1 t52).2 dr 0 kn rf pl pz mc) B (PO_of B) ⟨kk56, by rw [ev], by rw [ev]⟩ rfl (Nat.le_of_ble_eq_true rfl) (Nat.le_of_ble_eq_true rfl) dX4_moreOf_106
        · refine lv_lload hx hb dX4_moreOf_72 (lv_at hl 0 rfl) ?_
          refine lv_goto (tgt := 78) hx hb dX4_moreOf_74 (by decide) ?_
          refine lv_ladd hx hb dX4_moreOf_78 ?_
          refine lv_aload_n hx hb dX4_moreOf_79 rfl (lv_at hl 1 rfl) ?_
          refine b_get (q := 24) (k := 1) hb0 X hK B rfl in_X4 (by omega) mg_24 (by decide) lk_X4_11 rfl rfl dX4_moreOf_80 ?_
          refine lv_iload_n hx hb dX4_moreOf_83 rfl (lv_at hl 2 rfl) ?_
          refine b_aald (q := 25) (t0 := 2) (v := ad (28 + a1.toNatClampNeg)) rfl X hK B (by omega) mg_25 rfl rfl (no_in s2) rfl dX4_moreOf_84 ?_
          have g58 : a1.toNatClampNeg < 4 := (no_lt s2)
          refine lv_iconst (v := 2) hx hb dX4_moreOf_85 (by decide) ?_
          refine h_ld2 X hK B (pl_cr hN g58) rfl (mg_cr g58) dX4_moreOf_86 ?_
          refine lv_i2l (v := (cr a1.toNatClampNeg).2.2.toInt64) hx hb dX4_moreOf_87 rfl ?_
          refine lv_iload_n hx hb dX4_moreOf_88 rfl (lv_at hl 3 rfl) ?_
          refine lv_iconst (v := 2) hx hb dX4_moreOf_89 (by decide) ?_
          refine lv_icmp_ne (tgt := 98) hx hb dX4_moreOf_90 (by decide) (fun c59 => ?_) (fun c59 => ?_)
          · refine lv_lconst (v := 0) hx hb dX4_moreOf_98 (by decide) ?_
            refine lv_ladd hx hb dX4_moreOf_99 ?_
            refine k_r (k := 1) (n := 3) hA B (u_S (rest := [.int a1, .ref b0]) X (c_X4_span l g N ad (mg g ad y cr dr 0 kn rf pl pz mc) (((cr a1.toNatClampNeg).1.toInt64) + (a5.toInt64 * a3.toInt64)) (((cr a1.toNatClampNeg).2.1.toInt64) + (a5.toInt64 * a3.toInt64)) (((cr a1.toNatClampNeg).2.2.toInt64) + 0) H.size) mw_X4_span md_X4_span rfl lk_X4_47 ⟨Nat.le_of_ble_eq_true rfl, Nat.le_of_ble_eq_true rfl⟩ hA hK hT B hl.1 rfl (Nat.le_of_ble_eq_true rfl) dX4_moreOf_100 ⟨Nat.le_of_ble_eq_true rfl, Nat.le_of_ble_eq_true rfl⟩) (Nat.le_of_ble_eq_true rfl) (Nat.le_of_ble_eq_true rfl) (fun r60 ad60 f' H locs hw B => ?_)
            generalize o61 : (v_X4_span (((cr a1.toNatClampNeg).1.toInt64) + (a5.toInt64 * a3.toInt64)) (((cr a1.toNatClampNeg).2.1.toInt64) + (a5.toInt64 * a3.toInt64)) (((cr a1.toNatClampNeg).2.2.toInt64) + 0)) = v9 at hw B
            cases v9 with
            | none =>
              obtain ⟨rfl, rfl, rfl⟩ := pw_n hw
              refine k_i (k := 1) (n := 3) hA B (b_V (q := 24) (rest := []) hb0 X (c_X4_getN l g N ad y cr dr 0 kn rf pl pz mc (by omega) b0 hb0 a1 H.size) mw_X4_get md_X4_get rfl lk_X4_103 ⟨Nat.le_of_ble_eq_true rfl, Nat.le_of_ble_eq_true rfl⟩ hA hK hT B (by omega) mg_24 rfl rfl hl.1 rfl (Nat.le_of_ble_eq_true rfl) dX4_moreOf_103 ⟨Nat.le_of_ble_eq_true rfl, Nat.le_of_ble_eq_true rfl⟩) (Nat.le_of_ble_eq_true rfl) (Nat.le_of_ble_eq_true rfl) (fun r62 ad62 f' H locs hw B => ?_)
              obtain ⟨rfl, rfl, rfl⟩ := hw
              have ev := (show v_X4_moreOf cr rf a1 a2 a3 a4 a5 = ((v_X4_getN rf).1, cr, 0, (v_X4_getN rf).2) from by unfold v_X4_moreOf; rw [if_pos s2, if_pos c3, if_pos c5, if_pos c41, if_neg c59, om_none o61])
              exact rt_i X hr (ad, mg g ad y cr dr 0 kn (v_X4_getN rf).2 pl pz mc) B (PO_of B) ⟨(fun _ _ _ => rfl), by rw [ev], by rw [ev]⟩ rfl (Nat.le_of_ble_eq_true rfl) (Nat.le_of_ble_eq_true rfl) dX4_moreOf_106
            | some t61 =>
              obtain ⟨z61, rfl, rfl, rfl⟩ := pw_s hw
              have B : WB g (aw N ad sz) s.heap (N + 1) (va_up ad N z61) (mg g (va_up ad N z61) (va_up y N (c_row g t61)) cr dr 0 kn rf pl pz mc) H locs := WM_push (by omega) B
              refine k_i (k := 2) (n := 6) hA B (b_V (q := 24) (rest := []) ((up_lt (by omega)).trans hb0) X (c_X4_get l g (N + 1) (va_up ad N z61) (va_up y N (c_row g t61)) cr dr 0 kn rf pl pz mc (by omega) b0 ((up_lt (by omega)).trans hb0) a1 N z61 t61 (Nat.lt_succ_self _) up_eq ((mg_hi (by omega)).trans up_eq) s2 H.size) mw_X4_get md_X4_get rfl lk_X4_103 ⟨Nat.le_of_ble_eq_true rfl, Nat.le_of_ble_eq_true rfl⟩ hA hK hT B (by omega) mg_24 rfl rfl hl.1 rfl (Nat.le_of_ble_eq_true rfl) dX4_moreOf_103 ⟨Nat.le_of_ble_eq_true rfl, Nat.le_of_ble_eq_true rfl⟩) (Nat.le_of_ble_eq_true rfl) (Nat.le_of_ble_eq_true rfl) (fun r63 ad63 f' H locs hw B => ?_)
              dsimp only at hw
              obtain ⟨mv64, rfl, rfl⟩ := hw
              have B : WB g (aw N ad sz) s.heap N ad63 (mg g ad63 y (v_X4_get cr a1 t61).2 dr 0 kn rf pl pz mc) H locs := WM_drop B (by omega) (by omega) (fun _ _ => rfl) (fun _ hk => (up_lt hk))
              have kk65 : ∀ k, k < N → k < 28 ∨ 36 ≤ k → ad63 k = ad k := fun k hk hkq => (mv64 k (by omega) hkq).trans (((fun _ hk => (up_lt hk)) k hk).trans rfl)
              have nb66 : ad63 24 = b0 := (mv64 24 (by omega) (Or.inl (by decide))).trans ((up_lt (by omega)).trans hb0)
              have ev := (show v_X4_moreOf cr rf a1 a2 a3 a4 a5 = ((v_X4_get cr a1 t61).1, (v_X4_get cr a1 t61).2, 0, rf) from by unfold v_X4_moreOf; rw [if_pos s2, if_pos c3, if_pos c5, if_pos c41, if_neg c59, om_some o61])
              exact rt_i X hr (ad63, mg g ad63 y (v_X4_get cr a1 t61).2 dr 0 kn rf pl pz mc) B (PO_of B) ⟨kk65, by rw [ev], by rw [ev]⟩ rfl (Nat.le_of_ble_eq_true rfl) (Nat.le_of_ble_eq_true rfl) dX4_moreOf_106
          · refine lv_lload hx hb dX4_moreOf_93 (lv_at hl 0 rfl) ?_
            refine lv_goto (tgt := 99) hx hb dX4_moreOf_95 (by decide) ?_
            refine lv_ladd hx hb dX4_moreOf_99 ?_
            refine k_r (k := 1) (n := 3) hA B (u_S (rest := [.int a1, .ref b0]) X (c_X4_span l g N ad (mg g ad y cr dr 0 kn rf pl pz mc) (((cr a1.toNatClampNeg).1.toInt64) + (a5.toInt64 * a3.toInt64)) (((cr a1.toNatClampNeg).2.1.toInt64) + (a5.toInt64 * a3.toInt64)) (((cr a1.toNatClampNeg).2.2.toInt64) + (a5.toInt64 * a3.toInt64)) H.size) mw_X4_span md_X4_span rfl lk_X4_47 ⟨Nat.le_of_ble_eq_true rfl, Nat.le_of_ble_eq_true rfl⟩ hA hK hT B hl.1 rfl (Nat.le_of_ble_eq_true rfl) dX4_moreOf_100 ⟨Nat.le_of_ble_eq_true rfl, Nat.le_of_ble_eq_true rfl⟩) (Nat.le_of_ble_eq_true rfl) (Nat.le_of_ble_eq_true rfl) (fun r67 ad67 f' H locs hw B => ?_)
            generalize o68 : (v_X4_span (((cr a1.toNatClampNeg).1.toInt64) + (a5.toInt64 * a3.toInt64)) (((cr a1.toNatClampNeg).2.1.toInt64) + (a5.toInt64 * a3.toInt64)) (((cr a1.toNatClampNeg).2.2.toInt64) + (a5.toInt64 * a3.toInt64))) = v9 at hw B
            cases v9 with
            | none =>
              obtain ⟨rfl, rfl, rfl⟩ := pw_n hw
              refine k_i (k := 1) (n := 3) hA B (b_V (q := 24) (rest := []) hb0 X (c_X4_getN l g N ad y cr dr 0 kn rf pl pz mc (by omega) b0 hb0 a1 H.size) mw_X4_get md_X4_get rfl lk_X4_103 ⟨Nat.le_of_ble_eq_true rfl, Nat.le_of_ble_eq_true rfl⟩ hA hK hT B (by omega) mg_24 rfl rfl hl.1 rfl (Nat.le_of_ble_eq_true rfl) dX4_moreOf_103 ⟨Nat.le_of_ble_eq_true rfl, Nat.le_of_ble_eq_true rfl⟩) (Nat.le_of_ble_eq_true rfl) (Nat.le_of_ble_eq_true rfl) (fun r69 ad69 f' H locs hw B => ?_)
              obtain ⟨rfl, rfl, rfl⟩ := hw
              have ev := (show v_X4_moreOf cr rf a1 a2 a3 a4 a5 = ((v_X4_getN rf).1, cr, 0, (v_X4_getN rf).2) from by unfold v_X4_moreOf; rw [if_pos s2, if_pos c3, if_pos c5, if_pos c41, if_pos c59, om_none o68])
              exact rt_i X hr (ad, mg g ad y cr dr 0 kn (v_X4_getN rf).2 pl pz mc) B (PO_of B) ⟨(fun _ _ _ => rfl), by rw [ev], by rw [ev]⟩ rfl (Nat.le_of_ble_eq_true rfl) (Nat.le_of_ble_eq_true rfl) dX4_moreOf_106
            | some t68 =>
              obtain ⟨z68, rfl, rfl, rfl⟩ := pw_s hw
              have B : WB g (aw N ad sz) s.heap (N + 1) (va_up ad N z68) (mg g (va_up ad N z68) (va_up y N (c_row g t68)) cr dr 0 kn rf pl pz mc) H locs := WM_push (by omega) B
              refine k_i (k := 2) (n := 6) hA B (b_V (q := 24) (rest := []) ((up_lt (by omega)).trans hb0) X (c_X4_get l g (N + 1) (va_up ad N z68) (va_up y N (c_row g t68)) cr dr 0 kn rf pl pz mc (by omega) b0 ((up_lt (by omega)).trans hb0) a1 N z68 t68 (Nat.lt_succ_self _) up_eq ((mg_hi (by omega)).trans up_eq) s2 H.size) mw_X4_get md_X4_get rfl lk_X4_103 ⟨Nat.le_of_ble_eq_true rfl, Nat.le_of_ble_eq_true rfl⟩ hA hK hT B (by omega) mg_24 rfl rfl hl.1 rfl (Nat.le_of_ble_eq_true rfl) dX4_moreOf_103 ⟨Nat.le_of_ble_eq_true rfl, Nat.le_of_ble_eq_true rfl⟩) (Nat.le_of_ble_eq_true rfl) (Nat.le_of_ble_eq_true rfl) (fun r70 ad70 f' H locs hw B => ?_)
              dsimp only at hw
              obtain ⟨mv71, rfl, rfl⟩ := hw
              have B : WB g (aw N ad sz) s.heap N ad70 (mg g ad70 y (v_X4_get cr a1 t68).2 dr 0 kn rf pl pz mc) H locs := WM_drop B (by omega) (by omega) (fun _ _ => rfl) (fun _ hk => (up_lt hk))
              have kk72 : ∀ k, k < N → k < 28 ∨ 36 ≤ k → ad70 k = ad k := fun k hk hkq => (mv71 k (by omega) hkq).trans (((fun _ hk => (up_lt hk)) k hk).trans rfl)
              have nb73 : ad70 24 = b0 := (mv71 24 (by omega) (Or.inl (by decide))).trans ((up_lt (by omega)).trans hb0)
              have ev := (show v_X4_moreOf cr rf a1 a2 a3 a4 a5 = ((v_X4_get cr a1 t68).1, (v_X4_get cr a1 t68).2, 0, rf) from by unfold v_X4_moreOf; rw [if_pos s2, if_pos c3, if_pos c5, if_pos c41, if_pos c59, om_some o68])
              exact rt_i X hr (ad70, mg g ad70 y (v_X4_get cr a1 t68).2 dr 0 kn rf pl pz mc) B (PO_of B) ⟨kk72, by rw [ev], by rw [ev]⟩ rfl (Nat.le_of_ble_eq_true rfl) (Nat.le_of_ble_eq_true rfl) dX4_moreOf_106
    · refine lv_ldc2 hx hb hown (hts _ (List.mem_cons_of_mem _ lk_X4_115)) dX4_moreOf_22 ?_
      refine lv_iload_n hx hb dX4_moreOf_25 rfl (lv_at hl 3 rfl) ?_
      refine lv_i2l (v := a3.toInt64) hx hb dX4_moreOf_26 rfl ?_
      refine lv_lmul hx hb dX4_moreOf_27 ?_
      refine lv_goto (tgt := 33) hx hb dX4_moreOf_28 (by decide) ?_
      refine lv_lmul hx hb dX4_moreOf_33 ?_
      refine lv_lstore (lv' := [(6, .long (a5.toInt64 * (4000000000 * a3.toInt64))), (0, .ref b0), (1, .int a1), (2, .int a2), (3, .int a3), (4, .int a4), (5, .int a5)]) hx hb dX4_moreOf_34 hl (by decide) rfl (fun ls hl => ?_)
      refine lv_aload_n hx hb dX4_moreOf_36 rfl (lv_at hl 1 rfl) ?_
      refine lv_iload_n hx hb dX4_moreOf_37 rfl (lv_at hl 2 rfl) ?_
      refine lv_aload_n hx hb dX4_moreOf_38 rfl (lv_at hl 1 rfl) ?_
      refine b_get (q := 24) (k := 1) hb0 X hK B rfl in_X4 (by omega) mg_24 (by decide) lk_X4_11 rfl rfl dX4_moreOf_39 ?_
      refine lv_iload_n hx hb dX4_moreOf_42 rfl (lv_at hl 2 rfl) ?_
      refine b_aald (q := 25) (t0 := 2) (v := ad (28 + a1.toNatClampNeg)) rfl X hK B (by omega) mg_25 rfl rfl (no_in s2) rfl dX4_moreOf_43 ?_
      have g74 : a1.toNatClampNeg < 4 := (no_lt s2)
      refine lv_iconst (v := 0) hx hb dX4_moreOf_44 (by decide) ?_
      refine h_ld0 X hK B (pl_cr hN g74) rfl (mg_cr g74) dX4_moreOf_45 ?_
      refine lv_i2l (v := (cr a1.toNatClampNeg).1.toInt64) hx hb dX4_moreOf_46 rfl ?_
      refine lv_iload_n hx hb dX4_moreOf_47 rfl (lv_at hl 3 rfl) ?_
      refine lv_if_ne (tgt := 56) hx hb dX4_moreOf_48 (by decide) (fun c75 => ?_) (fun c75 => ?_)
      · refine lv_lconst (v := 0) hx hb dX4_moreOf_56 (by decide) ?_
        refine lv_ladd hx hb dX4_moreOf_57 ?_
        refine lv_aload_n hx hb dX4_moreOf_58 rfl (lv_at hl 1 rfl) ?_
        refine b_get (q := 24) (k := 1) hb0 X hK B rfl in_X4 (by omega) mg_24 (by decide) lk_X4_11 rfl rfl dX4_moreOf_59 ?_
        refine lv_iload_n hx hb dX4_moreOf_62 rfl (lv_at hl 2 rfl) ?_
        refine b_aald (q := 25) (t0 := 2) (v := ad (28 + a1.toNatClampNeg)) rfl X hK B (by omega) mg_25 rfl rfl (no_in s2) rfl dX4_moreOf_63 ?_
        have g76 : a1.toNatClampNeg < 4 := (no_lt s2)
        refine lv_iconst (v := 1) hx hb dX4_moreOf_64 (by decide) ?_
        refine h_ld1 X hK B (pl_cr hN g76) rfl (mg_cr g76) dX4_moreOf_65 ?_
        refine lv_i2l (v := (cr a1.toNatClampNeg).2.1.toInt64) hx hb dX4_moreOf_66 rfl ?_
        refine lv_iload_n hx hb dX4_moreOf_67 rfl (lv_at hl 3 rfl) ?_
        refine lv_iconst (v := 1) hx hb dX4_moreOf_68 (by decide) ?_
        refine lv_icmp_ne (tgt := 77) hx hb dX4_moreOf_69 (by decide) (fun c77 => ?_) (fun c77 => ?_)
        · refine lv_lconst (v := 0) hx hb dX4_moreOf_77 (by decide) ?_
          refine lv_ladd hx hb dX4_moreOf_78 ?_
          refine lv_aload_n hx hb dX4_moreOf_79 rfl (lv_at hl 1 rfl) ?_
          refine b_get (q := 24) (k := 1) hb0 X hK B rfl in_X4 (by omega) mg_24 (by decide) lk_X4_11 rfl rfl dX4_moreOf_80 ?_
          refine lv_iload_n hx hb dX4_moreOf_83 rfl (lv_at hl 2 rfl) ?_
          refine b_aald (q := 25) (t0 := 2) (v := ad (28 + a1.toNatClampNeg)) rfl X hK B (by omega) mg_25 rfl rfl (no_in s2) rfl dX4_moreOf_84 ?_
          have g78 : a1.toNatClampNeg < 4 := (no_lt s2)
          refine lv_iconst (v := 2) hx hb dX4_moreOf_85 (by decide) ?_
          refine h_ld2 X hK B (pl_cr hN g78) rfl (mg_cr g78) dX4_moreOf_86 ?_
          refine lv_i2l (v := (cr a1.toNatClampNeg).2.2.toInt64) hx hb dX4_moreOf_87 rfl ?_
          refine lv_iload_n hx hb dX4_moreOf_88 rfl (lv_at hl 3 rfl) ?_
          refine lv_iconst (v := 2) hx hb dX4_moreOf_89 (by decide) ?_
          refine lv_icmp_ne (tgt := 98) hx hb dX4_moreOf_90 (by decide) (fun c79 => ?_) (fun c79 => ?_)
          · refine lv_lconst (v := 0) hx hb dX4_moreOf_98 (by decide) ?_
            refine lv_ladd hx hb dX4_moreOf_99 ?_
            refine k_r (k := 1) (n := 3) hA B (u_S (rest := [.int a1, .ref b0]) X (c_X4_span l g N ad (mg g ad y cr dr 0 kn rf pl pz mc) (((cr a1.toNatClampNeg).1.toInt64) + 0) (((cr a1.toNatClampNeg).2.1.toInt64) + 0) (((cr a1.toNatClampNeg).2.2.toInt64) + 0) H.size) mw_X4_span md_X4_span rfl lk_X4_47 ⟨Nat.le_of_ble_eq_true rfl, Nat.le_of_ble_eq_true rfl⟩ hA hK hT B hl.1 rfl (Nat.le_of_ble_eq_true rfl) dX4_moreOf_100 ⟨Nat.le_of_ble_eq_true rfl, Nat.le_of_ble_eq_true rfl⟩) (Nat.le_of_ble_eq_true rfl) (Nat.le_of_ble_eq_true rfl) (fun r80 ad80 f' H locs hw B => ?_)
            generalize o81 : (v_X4_span (((cr a1.toNatClampNeg).1.toInt64) + 0) (((cr a1.toNatClampNeg).2.1.toInt64) + 0) (((cr a1.toNatClampNeg).2.2.toInt64) + 0)) = v9 at hw B
            cases v9 with
            | none =>
              obtain ⟨rfl, rfl, rfl⟩ := pw_n hw
              refine k_i (k := 1) (n := 3) hA B (b_V (q := 24) (rest := []) hb0 X (c_X4_getN l g N ad y cr dr 0 kn rf pl pz mc (by omega) b0 hb0 a1 H.size) mw_X4_get md_X4_get rfl lk_X4_103 ⟨Nat.le_of_ble_eq_true rfl, Nat.le_of_ble_eq_true rfl⟩ hA hK hT B (by omega) mg_24 rfl rfl hl.1 rfl (Nat.le_of_ble_eq_true rfl) dX4_moreOf_103 ⟨Nat.le_of_ble_eq_true rfl, Nat.le_of_ble_eq_true rfl⟩) (Nat.le_of_ble_eq_true rfl) (Nat.le_of_ble_eq_true rfl) (fun r82 ad82 f' H locs hw B => ?_)
              obtain ⟨rfl, rfl, rfl⟩ := hw
              have ev := (show v_X4_moreOf cr rf a1 a2 a3 a4 a5 = ((v_X4_getN rf).1, cr, 0, (v_X4_getN rf).2) from by unfold v_X4_moreOf; rw [if_pos s2, if_neg c3, if_neg c75, if_neg c77, if_neg c79, om_none o81])
              exact rt_i X hr (ad, mg g ad y cr dr 0 kn (v_X4_getN rf).2 pl pz mc) B (PO_of B) ⟨(fun _ _ _ => rfl), by rw [ev], by rw [ev]⟩ rfl (Nat.le_of_ble_eq_true rfl) (Nat.le_of_ble_eq_true rfl) dX4_moreOf_106
            | some t81 =>
              obtain ⟨z81, rfl, rfl, rfl⟩ := pw_s hw
              have B : WB g (aw N ad sz) s.heap (N + 1) (va_up ad N z81) (mg g (va_up ad N z81) (va_up y N (c_row g t81)) cr dr 0 kn rf pl pz mc) H locs := WM_push (by omega) B
              refine k_i (k := 2) (n := 6) hA B (b_V (q := 24) (rest := []) ((up_lt (by omega)).trans hb0) X (c_X4_get l g (N + 1) (va_up ad N z81) (va_up y N (c_row g t81)) cr dr 0 kn rf pl pz mc (by omega) b0 ((up_lt (by omega)).trans hb0) a1 N z81 t81 (Nat.lt_succ_self _) up_eq ((mg_hi (by omega)).trans up_eq) s2 H.size) mw_X4_get md_X4_get rfl lk_X4_103 ⟨Nat.le_of_ble_eq_true rfl, Nat.le_of_ble_eq_true rfl⟩ hA hK hT B (by omega) mg_24 rfl rfl hl.1 rfl (Nat.le_of_ble_eq_true rfl) dX4_moreOf_103 ⟨Nat.le_of_ble_eq_true rfl, Nat.le_of_ble_eq_true rfl⟩) (Nat.le_of_ble_eq_true rfl) (Nat.le_of_ble_eq_true rfl) (fun r83 ad83 f' H locs hw B => ?_)
              dsimp only at hw
              obtain ⟨mv84, rfl, rfl⟩ := hw
              have B : WB g (aw N ad sz) s.heap N ad83 (mg g ad83 y (v_X4_get cr a1 t81).2 dr 0 kn rf pl pz mc) H locs := WM_drop B (by omega) (by omega) (fun _ _ => rfl) (fun _ hk => (up_lt hk))
              have kk85 : ∀ k, k < N → k < 28 ∨ 36 ≤ k → ad83 k = ad k := fun k hk hkq => (mv84 k (by omega) hkq).trans (((fun _ hk => (up_lt hk)) k hk).trans rfl)
              have nb86 : ad83 24 = b0 := (mv84 24 (by omega) (Or.inl (by decide))).trans ((up_lt (by omega)).trans hb0)
              have ev := (show v_X4_moreOf cr rf a1 a2 a3 a4 a5 = ((v_X4_get cr a1 t81).1, (v_X4_get cr a1 t81).2, 0, rf) from by unfold v_X4_moreOf; rw [if_pos s2, if_neg c3, if_neg c75, if_neg c77, if_neg c79, om_some o81])
              exact rt_i X hr (ad83, mg g ad83 y (v_X4_get cr a1 t81).2 dr 0 kn rf pl pz mc) B (PO_of B) ⟨kk85, by rw [ev], by rw [ev]⟩ rfl (Nat.le_of_ble_eq_true rfl) (Nat.le_of_ble_eq_true rfl) dX4_moreOf_106
          · refine lv_lload hx hb dX4_moreOf_93 (lv_at hl 0 rfl) ?_
            refine lv_goto (tgt := 99) hx hb dX4_moreOf_95 (by decide) ?_
            refine lv_ladd hx hb dX4_moreOf_99 ?_
            refine k_r (k := 1) (n := 3) hA B (u_S (rest := [.int a1, .ref b0]) X (c_X4_span l g N ad (mg g ad y cr dr 0 kn rf pl pz mc) (((cr a1.toNatClampNeg).1.toInt64) + 0) (((cr a1.toNatClampNeg).2.1.toInt64) + 0) (((cr a1.toNatClampNeg).2.2.toInt64) + (a5.toInt64 * (4000000000 * a3.toInt64))) H.size) mw_X4_span md_X4_span rfl lk_X4_47 ⟨Nat.le_of_ble_eq_true rfl, Nat.le_of_ble_eq_true rfl⟩ hA hK hT B hl.1 rfl (Nat.le_of_ble_eq_true rfl) dX4_moreOf_100 ⟨Nat.le_of_ble_eq_true rfl, Nat.le_of_ble_eq_true rfl⟩) (Nat.le_of_ble_eq_true rfl) (Nat.le_of_ble_eq_true rfl) (fun r87 ad87 f' H locs hw B => ?_)
            generalize o88 : (v_X4_span (((cr a1.toNatClampNeg).1.toInt64) + 0) (((cr a1.toNatClampNeg).2.1.toInt64) + 0) (((cr a1.toNatClampNeg).2.2.toInt64) + (a5.toInt64 * (4000000000 * a3.toInt64)))) = v9 at hw B
            cases v9 with
            | none =>
              obtain ⟨rfl, rfl, rfl⟩ := pw_n hw
              refine k_i (k := 1) (n := 3) hA B (b_V (q := 24) (rest := []) hb0 X (c_X4_getN l g N ad y cr dr 0 kn rf pl pz mc (by omega) b0 hb0 a1 H.size) mw_X4_get md_X4_get rfl lk_X4_103 ⟨Nat.le_of_ble_eq_true rfl, Nat.le_of_ble_eq_true rfl⟩ hA hK hT B (by omega) mg_24 rfl rfl hl.1 rfl (Nat.le_of_ble_eq_true rfl) dX4_moreOf_103 ⟨Nat.le_of_ble_eq_true rfl, Nat.le_of_ble_eq_true rfl⟩) (Nat.le_of_ble_eq_true rfl) (Nat.le_of_ble_eq_true rfl) (fun r89 ad89 f' H locs hw B => ?_)
              obtain ⟨rfl, rfl, rfl⟩ := hw
              have ev := (show v_X4_moreOf cr rf a1 a2 a3 a4 a5 = ((v_X4_getN rf).1, cr, 0, (v_X4_getN rf).2) from by unfold v_X4_moreOf; rw [if_pos s2, if_neg c3, if_neg c75, if_neg c77, if_pos c79, om_none o88])
              exact rt_i X hr (ad, mg g ad y cr dr 0 kn (v_X4_getN rf).2 pl pz mc) B (PO_of B) ⟨(fun _ _ _ => rfl), by rw [ev], by rw [ev]⟩ rfl (Nat.le_of_ble_eq_true rfl) (Nat.le_of_ble_eq_true rfl) dX4_moreOf_106
            | some t88 =>
              obtain ⟨z88, rfl, rfl, rfl⟩ := pw_s hw
              have B : WB g (aw N ad sz) s.heap (N + 1) (va_up ad N z88) (mg g (va_up ad N z88) (va_up y N (c_row g t88)) cr dr 0 kn rf pl pz mc) H locs := WM_push (by omega) B
              refine k_i (k := 2) (n := 6) hA B (b_V (q := 24) (rest := []) ((up_lt (by omega)).trans hb0) X (c_X4_get l g (N + 1) (va_up ad N z88) (va_up y N (c_row g t88)) cr dr 0 kn rf pl pz mc (by omega) b0 ((up_lt (by omega)).trans hb0) a1 N z88 t88 (Nat.lt_succ_self _) up_eq ((mg_hi (by omega)).trans up_eq) s2 H.size) mw_X4_get md_X4_get rfl lk_X4_103 ⟨Nat.le_of_ble_eq_true rfl, Nat.le_of_ble_eq_true rfl⟩ hA hK hT B (by omega) mg_24 rfl rfl hl.1 rfl (Nat.le_of_ble_eq_true rfl) dX4_moreOf_103 ⟨Nat.le_of_ble_eq_true rfl, Nat.le_of_ble_eq_true rfl⟩) (Nat.le_of_ble_eq_true rfl) (Nat.le_of_ble_eq_true rfl) (fun r90 ad90 f' H locs hw B => ?_)
              dsimp only at hw
              obtain ⟨mv91, rfl, rfl⟩ := hw
              have B : WB g (aw N ad sz) s.heap N ad90 (mg g ad90 y (v_X4_get cr a1 t88).2 dr 0 kn rf pl pz mc) H locs := WM_drop B (by omega) (by omega) (fun _ _ => rfl) (fun _ hk => (up_lt hk))
              have kk92 : ∀ k, k < N → k < 28 ∨ 36 ≤ k → ad90 k = ad k := fun k hk hkq => (mv91 k (by omega) hkq).trans (((fun _ hk => (up_lt hk)) k hk).trans rfl)
              have nb93 : ad90 24 = b0 := (mv91 24 (by omega) (Or.inl (by decide))).trans ((up_lt (by omega)).trans hb0)
              have ev := (show v_X4_moreOf cr rf a1 a2 a3 a4 a5 = ((v_X4_get cr a1 t88).1, (v_X4_get cr a1 t88).2, 0, rf) from by unfold v_X4_moreOf; rw [if_pos s2, if_neg c3, if_neg c75, if_neg c77, if_pos c79, om_some o88])
              exact rt_i X hr (ad90, mg g ad90 y (v_X4_get cr a1 t88).2 dr 0 kn rf pl pz mc) B (PO_of B) ⟨kk92, by rw [ev], by rw [ev]⟩ rfl (Nat.le_of_ble_eq_true rfl) (Nat.le_of_ble_eq_true rfl) dX4_moreOf_106
        · refine lv_lload hx hb dX4_moreOf_72 (lv_at hl 0 rfl) ?_
          refine lv_goto (tgt := 78) hx hb dX4_moreOf_74 (by decide) ?_
          refine lv_ladd hx hb dX4_moreOf_78 ?_
          refine lv_aload_n hx hb dX4_moreOf_79 rfl (lv_at hl 1 rfl) ?_
          refine b_get (q := 24) (k := 1) hb0 X hK B rfl in_X4 (by omega) mg_24 (by decide) lk_X4_11 rfl rfl dX4_moreOf_80 ?_
          refine lv_iload_n hx hb dX4_moreOf_83 rfl (lv_at hl 2 rfl) ?_
          refine b_aald (q := 25) (t0 := 2) (v := ad (28 + a1.toNatClampNeg)) rfl X hK B (by omega) mg_25 rfl rfl (no_in s2) rfl dX4_moreOf_84 ?_
          have g94 : a1.toNatClampNeg < 4 := (no_lt s2)
          refine lv_iconst (v := 2) hx hb dX4_moreOf_85 (by decide) ?_
          refine h_ld2 X hK B (pl_cr hN g94) rfl (mg_cr g94) dX4_moreOf_86 ?_
          refine lv_i2l (v := (cr a1.toNatClampNeg).2.2.toInt64) hx hb dX4_moreOf_87 rfl ?_
          refine lv_iload_n hx hb dX4_moreOf_88 rfl (lv_at hl 3 rfl) ?_
          refine lv_iconst (v := 2) hx hb dX4_moreOf_89 (by decide) ?_
          refine lv_icmp_ne (tgt := 98) hx hb dX4_moreOf_90 (by decide) (fun c95 => ?_) (fun c95 => ?_)
          · refine lv_lconst (v := 0) hx hb dX4_moreOf_98 (by decide) ?_
            refine lv_ladd hx hb dX4_moreOf_99 ?_
            refine k_r (k := 1) (n := 3) hA B (u_S (rest := [.int a1, .ref b0]) X (c_X4_span l g N ad (mg g ad y cr dr 0 kn rf pl pz mc) (((cr a1.toNatClampNeg).1.toInt64) + 0) (((cr a1.toNatClampNeg).2.1.toInt64) + (a5.toInt64 * (4000000000 * a3.toInt64))) (((cr a1.toNatClampNeg).2.2.toInt64) + 0) H.size) mw_X4_span md_X4_span rfl lk_X4_47 ⟨Nat.le_of_ble_eq_true rfl, Nat.le_of_ble_eq_true rfl⟩ hA hK hT B hl.1 rfl (Nat.le_of_ble_eq_true rfl) dX4_moreOf_100 ⟨Nat.le_of_ble_eq_true rfl, Nat.le_of_ble_eq_true rfl⟩) (Nat.le_of_ble_eq_true rfl) (Nat.le_of_ble_eq_true rfl) (fun r96 ad96 f' H locs hw B => ?_)
            generalize o97 : (v_X4_span (((cr a1.toNatClampNeg).1.toInt64) + 0) (((cr a1.toNatClampNeg).2.1.toInt64) + (a5.toInt64 * (4000000000 * a3.toInt64))) (((cr a1.toNatClampNeg).2.2.toInt64) + 0)) = v9 at hw B
            cases v9 with
            | none =>
              obtain ⟨rfl, rfl, rfl⟩ := pw_n hw
              refine k_i (k := 1) (n := 3) hA B (b_V (q := 24) (rest := []) hb0 X (c_X4_getN l g N ad y cr dr 0 kn rf pl pz mc (by omega) b0 hb0 a1 H.size) mw_X4_get md_X4_get rfl lk_X4_103 ⟨Nat.le_of_ble_eq_true rfl, Nat.le_of_ble_eq_true rfl⟩ hA hK hT B (by omega) mg_24 rfl rfl hl.1 rfl (Nat.le_of_ble_eq_true rfl) dX4_moreOf_103 ⟨Nat.le_of_ble_eq_true rfl, Nat.le_of_ble_eq_true rfl⟩) (Nat.le_of_ble_eq_true rfl) (Nat.le_of_ble_eq_true rfl) (fun r98 ad98 f' H locs hw B => ?_)
              obtain ⟨rfl, rfl, rfl⟩ := hw
              have ev := (show v_X4_moreOf cr rf a1 a2 a3 a4 a5 = ((v_X4_getN rf).1, cr, 0, (v_X4_getN rf).2) from by unfold v_X4_moreOf; rw [if_pos s2, if_neg c3, if_neg c75, if_pos c77, if_neg c95, om_none o97])
              exact rt_i X hr (ad, mg g ad y cr dr 0 kn (v_X4_getN rf).2 pl pz mc) B (PO_of B) ⟨(fun _ _ _ => rfl), by rw [ev], by rw [ev]⟩ rfl (Nat.le_of_ble_eq_true rfl) (Nat.le_of_ble_eq_true rfl) dX4_moreOf_106
            | some t97 =>
              obtain ⟨z97, rfl, rfl, rfl⟩ := pw_s hw
              have B : WB g (aw N ad sz) s.heap (N + 1) (va_up ad N z97) (mg g (va_up ad N z97) (va_up y N (c_row g t97)) cr dr 0 kn rf pl pz mc) H locs := WM_push (by omega) B
              refine k_i (k := 2) (n := 6) hA B (b_V (q := 24) (rest := []) ((up_lt (by omega)).trans hb0) X (c_X4_get l g (N + 1) (va_up ad N z97) (va_up y N (c_row g t97)) cr dr 0 kn rf pl pz mc (by omega) b0 ((up_lt (by omega)).trans hb0) a1 N z97 t97 (Nat.lt_succ_self _) up_eq ((mg_hi (by omega)).trans up_eq) s2 H.size) mw_X4_get md_X4_get rfl lk_X4_103 ⟨Nat.le_of_ble_eq_true rfl, Nat.le_of_ble_eq_true rfl⟩ hA hK hT B (by omega) mg_24 rfl rfl hl.1 rfl (Nat.le_of_ble_eq_true rfl) dX4_moreOf_103 ⟨Nat.le_of_ble_eq_true rfl, Nat.le_of_ble_eq_true rfl⟩) (Nat.le_of_ble_eq_true rfl) (Nat.le_of_ble_eq_true rfl) (fun r99 ad99 f' H locs hw B => ?_)
              dsimp only at hw
              obtain ⟨mv100, rfl, rfl⟩ := hw
              have B : WB g (aw N ad sz) s.heap N ad99 (mg g ad99 y (v_X4_get cr a1 t97).2 dr 0 kn rf pl pz mc) H locs := WM_drop B (by omega) (by omega) (fun _ _ => rfl) (fun _ hk => (up_lt hk))
              have kk101 : ∀ k, k < N → k < 28 ∨ 36 ≤ k → ad99 k = ad k := fun k hk hkq => (mv100 k (by omega) hkq).trans (((fun _ hk => (up_lt hk)) k hk).trans rfl)
              have nb102 : ad99 24 = b0 := (mv100 24 (by omega) (Or.inl (by decide))).trans ((up_lt (by omega)).trans hb0)
              have ev := (show v_X4_moreOf cr rf a1 a2 a3 a4 a5 = ((v_X4_get cr a1 t97).1, (v_X4_get cr a1 t97).2, 0, rf) from by unfold v_X4_moreOf; rw [if_pos s2, if_neg c3, if_neg c75, if_pos c77, if_neg c95, om_some o97])
              exact rt_i X hr (ad99, mg g ad99 y (v_X4_get cr a1 t97).2 dr 0 kn rf pl pz mc) B (PO_of B) ⟨kk101, by rw [ev], by rw [ev]⟩ rfl (Nat.le_of_ble_eq_true rfl) (Nat.le_of_ble_eq_true rfl) dX4_moreOf_106
          · refine lv_lload hx hb dX4_moreOf_93 (lv_at hl 0 rfl) ?_
            refine lv_goto (tgt := 99) hx hb dX4_moreOf_95 (by decide) ?_
            refine lv_ladd hx hb dX4_moreOf_99 ?_
            refine k_r (k := 1) (n := 3) hA B (u_S (rest := [.int a1, .ref b0]) X (c_X4_span l g N ad (mg g ad y cr dr 0 kn rf pl pz mc) (((cr a1.toNatClampNeg).1.toInt64) + 0) (((cr a1.toNatClampNeg).2.1.toInt64) + (a5.toInt64 * (4000000000 * a3.toInt64))) (((cr a1.toNatClampNeg).2.2.toInt64) + (a5.toInt64 * (4000000000 * a3.toInt64))) H.size) mw_X4_span md_X4_span rfl lk_X4_47 ⟨Nat.le_of_ble_eq_true rfl, Nat.le_of_ble_eq_true rfl⟩ hA hK hT B hl.1 rfl (Nat.le_of_ble_eq_true rfl) dX4_moreOf_100 ⟨Nat.le_of_ble_eq_true rfl, Nat.le_of_ble_eq_true rfl⟩) (Nat.le_of_ble_eq_true rfl) (Nat.le_of_ble_eq_true rfl) (fun r103 ad103 f' H locs hw B => ?_)
            generalize o104 : (v_X4_span (((cr a1.toNatClampNeg).1.toInt64) + 0) (((cr a1.toNatClampNeg).2.1.toInt64) + (a5.toInt64 * (4000000000 * a3.toInt64))) (((cr a1.toNatClampNeg).2.2.toInt64) + (a5.toInt64 * (4000000000 * a3.toInt64)))) = v9 at hw B
            cases v9 with
            | none =>
              obtain ⟨rfl, rfl, rfl⟩ := pw_n hw
              refine k_i (k := 1) (n := 3) hA B (b_V (q := 24) (rest := []) hb0 X (c_X4_getN l g N ad y cr dr 0 kn rf pl pz mc (by omega) b0 hb0 a1 H.size) mw_X4_get md_X4_get rfl lk_X4_103 ⟨Nat.le_of_ble_eq_true rfl, Nat.le_of_ble_eq_true rfl⟩ hA hK hT B (by omega) mg_24 rfl rfl hl.1 rfl (Nat.le_of_ble_eq_true rfl) dX4_moreOf_103 ⟨Nat.le_of_ble_eq_true rfl, Nat.le_of_ble_eq_true rfl⟩) (Nat.le_of_ble_eq_true rfl) (Nat.le_of_ble_eq_true rfl) (fun r105 ad105 f' H locs hw B => ?_)
              obtain ⟨rfl, rfl, rfl⟩ := hw
              have ev := (show v_X4_moreOf cr rf a1 a2 a3 a4 a5 = ((v_X4_getN rf).1, cr, 0, (v_X4_getN rf).2) from by unfold v_X4_moreOf; rw [if_pos s2, if_neg c3, if_neg c75, if_pos c77, if_pos c95, om_none o104])
              exact rt_i X hr (ad, mg g ad y cr dr 0 kn (v_X4_getN rf).2 pl pz mc) B (PO_of B) ⟨(fun _ _ _ => rfl), by rw [ev], by rw [ev]⟩ rfl (Nat.le_of_ble_eq_true rfl) (Nat.le_of_ble_eq_true rfl) dX4_moreOf_106
            | some t104 =>
              obtain ⟨z104, rfl, rfl, rfl⟩ := pw_s hw
              have B : WB g (aw N ad sz) s.heap (N + 1) (va_up ad N z104) (mg g (va_up ad N z104) (va_up y N (c_row g t104)) cr dr 0 kn rf pl pz mc) H locs := WM_push (by omega) B
              refine k_i (k := 2) (n := 6) hA B (b_V (q := 24) (rest := []) ((up_lt (by omega)).trans hb0) X (c_X4_get l g (N + 1) (va_up ad N z104) (va_up y N (c_row g t104)) cr dr 0 kn rf pl pz mc (by omega) b0 ((up_lt (by omega)).trans hb0) a1 N z104 t104 (Nat.lt_succ_self _) up_eq ((mg_hi (by omega)).trans up_eq) s2 H.size) mw_X4_get md_X4_get rfl lk_X4_103 ⟨Nat.le_of_ble_eq_true rfl, Nat.le_of_ble_eq_true rfl⟩ hA hK hT B (by omega) mg_24 rfl rfl hl.1 rfl (Nat.le_of_ble_eq_true rfl) dX4_moreOf_103 ⟨Nat.le_of_ble_eq_true rfl, Nat.le_of_ble_eq_true rfl⟩) (Nat.le_of_ble_eq_true rfl) (Nat.le_of_ble_eq_true rfl) (fun r106 ad106 f' H locs hw B => ?_)
              dsimp only at hw
              obtain ⟨mv107, rfl, rfl⟩ := hw
              have B : WB g (aw N ad sz) s.heap N ad106 (mg g ad106 y (v_X4_get cr a1 t104).2 dr 0 kn rf pl pz mc) H locs := WM_drop B (by omega) (by omega) (fun _ _ => rfl) (fun _ hk => (up_lt hk))
              have kk108 : ∀ k, k < N → k < 28 ∨ 36 ≤ k → ad106 k = ad k := fun k hk hkq => (mv107 k (by omega) hkq).trans (((fun _ hk => (up_lt hk)) k hk).trans rfl)
              have nb109 : ad106 24 = b0 := (mv107 24 (by omega) (Or.inl (by decide))).trans ((up_lt (by omega)).trans hb0)
              have ev := (show v_X4_moreOf cr rf a1 a2 a3 a4 a5 = ((v_X4_get cr a1 t104).1, (v_X4_get cr a1 t104).2, 0, rf) from by unfold v_X4_moreOf; rw [if_pos s2, if_neg c3, if_neg c75, if_pos c77, if_pos c95, om_some o104])
              exact rt_i X hr (ad106, mg g ad106 y (v_X4_get cr a1 t104).2 dr 0 kn rf pl pz mc) B (PO_of B) ⟨kk108, by rw [ev], by rw [ev]⟩ rfl (Nat.le_of_ble_eq_true rfl) (Nat.le_of_ble_eq_true rfl) dX4_moreOf_106
      · refine lv_lload hx hb dX4_moreOf_51 (lv_at hl 0 rfl) ?_
        refine lv_goto (tgt := 57) hx hb dX4_moreOf_53 (by decide) ?_
        refine lv_ladd hx hb dX4_moreOf_57 ?_
        refine lv_aload_n hx hb dX4_moreOf_58 rfl (lv_at hl 1 rfl) ?_
        refine b_get (q := 24) (k := 1) hb0 X hK B rfl in_X4 (by omega) mg_24 (by decide) lk_X4_11 rfl rfl dX4_moreOf_59 ?_
        refine lv_iload_n hx hb dX4_moreOf_62 rfl (lv_at hl 2 rfl) ?_
        refine b_aald (q := 25) (t0 := 2) (v := ad (28 + a1.toNatClampNeg)) rfl X hK B (by omega) mg_25 rfl rfl (no_in s2) rfl dX4_moreOf_63 ?_
        have g110 : a1.toNatClampNeg < 4 := (no_lt s2)
        refine lv_iconst (v := 1) hx hb dX4_moreOf_64 (by decide) ?_
        refine h_ld1 X hK B (pl_cr hN g110) rfl (mg_cr g110) dX4_moreOf_65 ?_
        refine lv_i2l (v := (cr a1.toNatClampNeg).2.1.toInt64) hx hb dX4_moreOf_66 rfl ?_
        refine lv_iload_n hx hb dX4_moreOf_67 rfl (lv_at hl 3 rfl) ?_
        refine lv_iconst (v := 1) hx hb dX4_moreOf_68 (by decide) ?_
        refine lv_icmp_ne (tgt := 77) hx hb dX4_moreOf_69 (by decide) (fun c111 => ?_) (fun c111 => ?_)
        · refine lv_lconst (v := 0) hx hb dX4_moreOf_77 (by decide) ?_
          refine lv_ladd hx hb dX4_moreOf_78 ?_
          refine lv_aload_n hx hb dX4_moreOf_79 rfl (lv_at hl 1 rfl) ?_
          refine b_get (q := 24) (k := 1) hb0 X hK B rfl in_X4 (by omega) mg_24 (by decide) lk_X4_11 rfl rfl dX4_moreOf_80 ?_
          refine lv_iload_n hx hb dX4_moreOf_83 rfl (lv_at hl 2 rfl) ?_
          refine b_aald (q := 25) (t0 := 2) (v := ad (28 + a1.toNatClampNeg)) rfl X hK B (by omega) mg_25 rfl rfl (no_in s2) rfl dX4_moreOf_84 ?_
          have g112 : a1.toNatClampNeg < 4 := (no_lt s2)
          refine lv_iconst (v := 2) hx hb dX4_moreOf_85 (by decide) ?_
          refine h_ld2 X hK B (pl_cr hN g112) rfl (mg_cr g112) dX4_moreOf_86 ?_
          refine lv_i2l (v := (cr a1.toNatClampNeg).2.2.toInt64) hx hb dX4_moreOf_87 rfl ?_
          refine lv_iload_n hx hb dX4_moreOf_88 rfl (lv_at hl 3 rfl) ?_
          refine lv_iconst (v := 2) hx hb dX4_moreOf_89 (by decide) ?_
          refine lv_icmp_ne (tgt := 98) hx hb dX4_moreOf_90 (by decide) (fun c113 => ?_) (fun c113 => ?_)
          · refine lv_lconst (v := 0) hx hb dX4_moreOf_98 (by decide) ?_
            refine lv_ladd hx hb dX4_moreOf_99 ?_
            refine k_r (k := 1) (n := 3) hA B (u_S (rest := [.int a1, .ref b0]) X (c_X4_span l g N ad (mg g ad y cr dr 0 kn rf pl pz mc) (((cr a1.toNatClampNeg).1.toInt64) + (a5.toInt64 * (4000000000 * a3.toInt64))) (((cr a1.toNatClampNeg).2.1.toInt64) + 0) (((cr a1.toNatClampNeg).2.2.toInt64) + 0) H.size) mw_X4_span md_X4_span rfl lk_X4_47 ⟨Nat.le_of_ble_eq_true rfl, Nat.le_of_ble_eq_true rfl⟩ hA hK hT B hl.1 rfl (Nat.le_of_ble_eq_true rfl) dX4_moreOf_100 ⟨Nat.le_of_ble_eq_true rfl, Nat.le_of_ble_eq_true rfl⟩) (Nat.le_of_ble_eq_true rfl) (Nat.le_of_ble_eq_true rfl) (fun r114 ad114 f' H locs hw B => ?_)
            generalize o115 : (v_X4_span (((cr a1.toNatClampNeg).1.toInt64) + (a5.toInt64 * (4000000000 * a3.toInt64))) (((cr a1.toNatClampNeg).2.1.toInt64) + 0) (((cr a1.toNatClampNeg).2.2.toInt64) + 0)) = v9 at hw B
            cases v9 with
            | none =>
              obtain ⟨rfl, rfl, rfl⟩ := pw_n hw
              refine k_i (k := 1) (n := 3) hA B (b_V (q := 24) (rest := []) hb0 X (c_X4_getN l g N ad y cr dr 0 kn rf pl pz mc (by omega) b0 hb0 a1 H.size) mw_X4_get md_X4_get rfl lk_X4_103 ⟨Nat.le_of_ble_eq_true rfl, Nat.le_of_ble_eq_true rfl⟩ hA hK hT B (by omega) mg_24 rfl rfl hl.1 rfl (Nat.le_of_ble_eq_true rfl) dX4_moreOf_103 ⟨Nat.le_of_ble_eq_true rfl, Nat.le_of_ble_eq_true rfl⟩) (Nat.le_of_ble_eq_true rfl) (Nat.le_of_ble_eq_true rfl) (fun r116 ad116 f' H locs hw B => ?_)
              obtain ⟨rfl, rfl, rfl⟩ := hw
              have ev := (show v_X4_moreOf cr rf a1 a2 a3 a4 a5 = ((v_X4_getN rf).1, cr, 0, (v_X4_getN rf).2) from by unfold v_X4_moreOf; rw [if_pos s2, if_neg c3, if_pos c75, if_neg c111, if_neg c113, om_none o115])
              exact rt_i X hr (ad, mg g ad y cr dr 0 kn (v_X4_getN rf).2 pl pz mc) B (PO_of B) ⟨(fun _ _ _ => rfl), by rw [ev], by rw [ev]⟩ rfl (Nat.le_of_ble_eq_true rfl) (Nat.le_of_ble_eq_true rfl) dX4_moreOf_106
            | some t115 =>
              obtain ⟨z115, rfl, rfl, rfl⟩ := pw_s hw
              have B : WB g (aw N ad sz) s.heap (N + 1) (va_up ad N z115) (mg g (va_up ad N z115) (va_up y N (c_row g t115)) cr dr 0 kn rf pl pz mc) H locs := WM_push (by omega) B
              refine k_i (k := 2) (n := 6) hA B (b_V (q := 24) (rest := []) ((up_lt (by omega)).trans hb0) X (c_X4_get l g (N + 1) (va_up ad N z115) (va_up y N (c_row g t115)) cr dr 0 kn rf pl pz mc (by omega) b0 ((up_lt (by omega)).trans hb0) a1 N z115 t115 (Nat.lt_succ_self _) up_eq ((mg_hi (by omega)).trans up_eq) s2 H.size) mw_X4_get md_X4_get rfl lk_X4_103 ⟨Nat.le_of_ble_eq_true rfl, Nat.le_of_ble_eq_true rfl⟩ hA hK hT B (by omega) mg_24 rfl rfl hl.1 rfl (Nat.le_of_ble_eq_true rfl) dX4_moreOf_103 ⟨Nat.le_of_ble_eq_true rfl, Nat.le_of_ble_eq_true rfl⟩) (Nat.le_of_ble_eq_true rfl) (Nat.le_of_ble_eq_true rfl) (fun r117 ad117 f' H locs hw B => ?_)
              dsimp only at hw
              obtain ⟨mv118, rfl, rfl⟩ := hw
              have B : WB g (aw N ad sz) s.heap N ad117 (mg g ad117 y (v_X4_get cr a1 t115).2 dr 0 kn rf pl pz mc) H locs := WM_drop B (by omega) (by omega) (fun _ _ => rfl) (fun _ hk => (up_lt hk))
              have kk119 : ∀ k, k < N → k < 28 ∨ 36 ≤ k → ad117 k = ad k := fun k hk hkq => (mv118 k (by omega) hkq).trans (((fun _ hk => (up_lt hk)) k hk).trans rfl)
              have nb120 : ad117 24 = b0 := (mv118 24 (by omega) (Or.inl (by decide))).trans ((up_lt (by omega)).trans hb0)
              have ev := (show v_X4_moreOf cr rf a1 a2 a3 a4 a5 = ((v_X4_get cr a1 t115).1, (v_X4_get cr a1 t115).2, 0, rf) from by unfold v_X4_moreOf; rw [if_pos s2, if_neg c3, if_pos c75, if_neg c111, if_neg c113, om_some o115])
              exact rt_i X hr (ad117, mg g ad117 y (v_X4_get cr a1 t115).2 dr 0 kn rf pl pz mc) B (PO_of B) ⟨kk119, by rw [ev], by rw [ev]⟩ rfl (Nat.le_of_ble_eq_true rfl) (Nat.le_of_ble_eq_true rfl) dX4_moreOf_106
          · refine lv_lload hx hb dX4_moreOf_93 (lv_at hl 0 rfl) ?_
            refine lv_goto (tgt := 99) hx hb dX4_moreOf_95 (by decide) ?_
            refine lv_ladd hx hb dX4_moreOf_99 ?_
            refine k_r (k := 1) (n := 3) hA B (u_S (rest := [.int a1, .ref b0]) X (c_X4_span l g N ad (mg g ad y cr dr 0 kn rf pl pz mc) (((cr a1.toNatClampNeg).1.toInt64) + (a5.toInt64 * (4000000000 * a3.toInt64))) (((cr a1.toNatClampNeg).2.1.toInt64) + 0) (((cr a1.toNatClampNeg).2.2.toInt64) + (a5.toInt64 * (4000000000 * a3.toInt64))) H.size) mw_X4_span md_X4_span rfl lk_X4_47 ⟨Nat.le_of_ble_eq_true rfl, Nat.le_of_ble_eq_true rfl⟩ hA hK hT B hl.1 rfl (Nat.le_of_ble_eq_true rfl) dX4_moreOf_100 ⟨Nat.le_of_ble_eq_true rfl, Nat.le_of_ble_eq_true rfl⟩) (Nat.le_of_ble_eq_true rfl) (Nat.le_of_ble_eq_true rfl) (fun r121 ad121 f' H locs hw B => ?_)
            generalize o122 : (v_X4_span (((cr a1.toNatClampNeg).1.toInt64) + (a5.toInt64 * (4000000000 * a3.toInt64))) (((cr a1.toNatClampNeg).2.1.toInt64) + 0) (((cr a1.toNatClampNeg).2.2.toInt64) + (a5.toInt64 * (4000000000 * a3.toInt64)))) = v9 at hw B
            cases v9 with
            | none =>
              obtain ⟨rfl, rfl, rfl⟩ := pw_n hw
              refine k_i (k := 1) (n := 3) hA B (b_V (q := 24) (rest := []) hb0 X (c_X4_getN l g N ad y cr dr 0 kn rf pl pz mc (by omega) b0 hb0 a1 H.size) mw_X4_get md_X4_get rfl lk_X4_103 ⟨Nat.le_of_ble_eq_true rfl, Nat.le_of_ble_eq_true rfl⟩ hA hK hT B (by omega) mg_24 rfl rfl hl.1 rfl (Nat.le_of_ble_eq_true rfl) dX4_moreOf_103 ⟨Nat.le_of_ble_eq_true rfl, Nat.le_of_ble_eq_true rfl⟩) (Nat.le_of_ble_eq_true rfl) (Nat.le_of_ble_eq_true rfl) (fun r123 ad123 f' H locs hw B => ?_)
              obtain ⟨rfl, rfl, rfl⟩ := hw
              have ev := (show v_X4_moreOf cr rf a1 a2 a3 a4 a5 = ((v_X4_getN rf).1, cr, 0, (v_X4_getN rf).2) from by unfold v_X4_moreOf; rw [if_pos s2, if_neg c3, if_pos c75, if_neg c111, if_pos c113, om_none o122])
              exact rt_i X hr (ad, mg g ad y cr dr 0 kn (v_X4_getN rf).2 pl pz mc) B (PO_of B) ⟨(fun _ _ _ => rfl), by rw [ev], by rw [ev]⟩ rfl (Nat.le_of_ble_eq_true rfl) (Nat.le_of_ble_eq_true rfl) dX4_moreOf_106
            | some t122 =>
              obtain ⟨z122, rfl, rfl, rfl⟩ := pw_s hw
              have B : WB g (aw N ad sz) s.heap (N + 1) (va_up ad N z122) (mg g (va_up ad N z122) (va_up y N (c_row g t122)) cr dr 0 kn rf pl pz mc) H locs := WM_push (by omega) B
              refine k_i (k := 2) (n := 6) hA B (b_V (q := 24) (rest := []) ((up_lt (by omega)).trans hb0) X (c_X4_get l g (N + 1) (va_up ad N z122) (va_up y N (c_row g t122)) cr dr 0 kn rf pl pz mc (by omega) b0 ((up_lt (by omega)).trans hb0) a1 N z122 t122 (Nat.lt_succ_self _) up_eq ((mg_hi (by omega)).trans up_eq) s2 H.size) mw_X4_get md_X4_get rfl lk_X4_103 ⟨Nat.le_of_ble_eq_true rfl, Nat.le_of_ble_eq_true rfl⟩ hA hK hT B (by omega) mg_24 rfl rfl hl.1 rfl (Nat.le_of_ble_eq_true rfl) dX4_moreOf_103 ⟨Nat.le_of_ble_eq_true rfl, Nat.le_of_ble_eq_true rfl⟩) (Nat.le_of_ble_eq_true rfl) (Nat.le_of_ble_eq_true rfl) (fun r124 ad124 f' H locs hw B => ?_)
              dsimp only at hw
              obtain ⟨mv125, rfl, rfl⟩ := hw
              have B : WB g (aw N ad sz) s.heap N ad124 (mg g ad124 y (v_X4_get cr a1 t122).2 dr 0 kn rf pl pz mc) H locs := WM_drop B (by omega) (by omega) (fun _ _ => rfl) (fun _ hk => (up_lt hk))
              have kk126 : ∀ k, k < N → k < 28 ∨ 36 ≤ k → ad124 k = ad k := fun k hk hkq => (mv125 k (by omega) hkq).trans (((fun _ hk => (up_lt hk)) k hk).trans rfl)
              have nb127 : ad124 24 = b0 := (mv125 24 (by omega) (Or.inl (by decide))).trans ((up_lt (by omega)).trans hb0)
              have ev := (show v_X4_moreOf cr rf a1 a2 a3 a4 a5 = ((v_X4_get cr a1 t122).1, (v_X4_get cr a1 t122).2, 0, rf) from by unfold v_X4_moreOf; rw [if_pos s2, if_neg c3, if_pos c75, if_neg c111, if_pos c113, om_some o122])
              exact rt_i X hr (ad124, mg g ad124 y (v_X4_get cr a1 t122).2 dr 0 kn rf pl pz mc) B (PO_of B) ⟨kk126, by rw [ev], by rw [ev]⟩ rfl (Nat.le_of_ble_eq_true rfl) (Nat.le_of_ble_eq_true rfl) dX4_moreOf_106
        · refine lv_lload hx hb dX4_moreOf_72 (lv_at hl 0 rfl) ?_
          refine lv_goto (tgt := 78) hx hb dX4_moreOf_74 (by decide) ?_
          refine lv_ladd hx hb dX4_moreOf_78 ?_
          refine lv_aload_n hx hb dX4_moreOf_79 rfl (lv_at hl 1 rfl) ?_
          refine b_get (q := 24) (k := 1) hb0 X hK B rfl in_X4 (by omega) mg_24 (by decide) lk_X4_11 rfl rfl dX4_moreOf_80 ?_
          refine lv_iload_n hx hb dX4_moreOf_83 rfl (lv_at hl 2 rfl) ?_
          refine b_aald (q := 25) (t0 := 2) (v := ad (28 + a1.toNatClampNeg)) rfl X hK B (by omega) mg_25 rfl rfl (no_in s2) rfl dX4_moreOf_84 ?_
          have g128 : a1.toNatClampNeg < 4 := (no_lt s2)
          refine lv_iconst (v := 2) hx hb dX4_moreOf_85 (by decide) ?_
          refine h_ld2 X hK B (pl_cr hN g128) rfl (mg_cr g128) dX4_moreOf_86 ?_
          refine lv_i2l (v := (cr a1.toNatClampNeg).2.2.toInt64) hx hb dX4_moreOf_87 rfl ?_
          refine lv_iload_n hx hb dX4_moreOf_88 rfl (lv_at hl 3 rfl) ?_
          refine lv_iconst (v := 2) hx hb dX4_moreOf_89 (by decide) ?_
          refine lv_icmp_ne (tgt := 98) hx hb dX4_moreOf_90 (by decide) (fun c129 => ?_) (fun c129 => ?_)
          · refine lv_lconst (v := 0) hx hb dX4_moreOf_98 (by decide) ?_
            refine lv_ladd hx hb dX4_moreOf_99 ?_
            refine k_r (k := 1) (n := 3) hA B (u_S (rest := [.int a1, .ref b0]) X (c_X4_span l g N ad (mg g ad y cr dr 0 kn rf pl pz mc) (((cr a1.toNatClampNeg).1.toInt64) + (a5.toInt64 * (4000000000 * a3.toInt64))) (((cr a1.toNatClampNeg).2.1.toInt64) + (a5.toInt64 * (4000000000 * a3.toInt64))) (((cr a1.toNatClampNeg).2.2.toInt64) + 0) H.size) mw_X4_span md_X4_span rfl lk_X4_47 ⟨Nat.le_of_ble_eq_true rfl, Nat.le_of_ble_eq_true rfl⟩ hA hK hT B hl.1 rfl (Nat.le_of_ble_eq_true rfl) dX4_moreOf_100 ⟨Nat.le_of_ble_eq_true rfl, Nat.le_of_ble_eq_true rfl⟩) (Nat.le_of_ble_eq_true rfl) (Nat.le_of_ble_eq_true rfl) (fun r130 ad130 f' H locs hw B => ?_)
            generalize o131 : (v_X4_span (((cr a1.toNatClampNeg).1.toInt64) + (a5.toInt64 * (4000000000 * a3.toInt64))) (((cr a1.toNatClampNeg).2.1.toInt64) + (a5.toInt64 * (4000000000 * a3.toInt64))) (((cr a1.toNatClampNeg).2.2.toInt64) + 0)) = v9 at hw B
            cases v9 with
            | none =>
              obtain ⟨rfl, rfl, rfl⟩ := pw_n hw
              refine k_i (k := 1) (n := 3) hA B (b_V (q := 24) (rest := []) hb0 X (c_X4_getN l g N ad y cr dr 0 kn rf pl pz mc (by omega) b0 hb0 a1 H.size) mw_X4_get md_X4_get rfl lk_X4_103 ⟨Nat.le_of_ble_eq_true rfl, Nat.le_of_ble_eq_true rfl⟩ hA hK hT B (by omega) mg_24 rfl rfl hl.1 rfl (Nat.le_of_ble_eq_true rfl) dX4_moreOf_103 ⟨Nat.le_of_ble_eq_true rfl, Nat.le_of_ble_eq_true rfl⟩) (Nat.le_of_ble_eq_true rfl) (Nat.le_of_ble_eq_true rfl) (fun r132 ad132 f' H locs hw B => ?_)
              obtain ⟨rfl, rfl, rfl⟩ := hw
              have ev := (show v_X4_moreOf cr rf a1 a2 a3 a4 a5 = ((v_X4_getN rf).1, cr, 0, (v_X4_getN rf).2) from by unfold v_X4_moreOf; rw [if_pos s2, if_neg c3, if_pos c75, if_pos c111, if_neg c129, om_none o131])
              exact rt_i X hr (ad, mg g ad y cr dr 0 kn (v_X4_getN rf).2 pl pz mc) B (PO_of B) ⟨(fun _ _ _ => rfl), by rw [ev], by rw [ev]⟩ rfl (Nat.le_of_ble_eq_true rfl) (Nat.le_of_ble_eq_true rfl) dX4_moreOf_106
            | some t131 =>
              obtain ⟨z131, rfl, rfl, rfl⟩ := pw_s hw
              have B : WB g (aw N ad sz) s.heap (N + 1) (va_up ad N z131) (mg g (va_up ad N z131) (va_up y N (c_row g t131)) cr dr 0 kn rf pl pz mc) H locs := WM_push (by omega) B
              refine k_i (k := 2) (n := 6) hA B (b_V (q := 24) (rest := []) ((up_lt (by omega)).trans hb0) X (c_X4_get l g (N + 1) (va_up ad N z131) (va_up y N (c_row g t131)) cr dr 0 kn rf pl pz mc (by omega) b0 ((up_lt (by omega)).trans hb0) a1 N z131 t131 (Nat.lt_succ_self _) up_eq ((mg_hi (by omega)).trans up_eq) s2 H.size) mw_X4_get md_X4_get rfl lk_X4_103 ⟨Nat.le_of_ble_eq_true rfl, Nat.le_of_ble_eq_true rfl⟩ hA hK hT B (by omega) mg_24 rfl rfl hl.1 rfl (Nat.le_of_ble_eq_true rfl) dX4_moreOf_103 ⟨Nat.le_of_ble_eq_true rfl, Nat.le_of_ble_eq_true rfl⟩) (Nat.le_of_ble_eq_true rfl) (Nat.le_of_ble_eq_true rfl) (fun r133 ad133 f' H locs hw B => ?_)
              dsimp only at hw
              obtain ⟨mv134, rfl, rfl⟩ := hw
              have B : WB g (aw N ad sz) s.heap N ad133 (mg g ad133 y (v_X4_get cr a1 t131).2 dr 0 kn rf pl pz mc) H locs := WM_drop B (by omega) (by omega) (fun _ _ => rfl) (fun _ hk => (up_lt hk))
              have kk135 : ∀ k, k < N → k < 28 ∨ 36 ≤ k → ad133 k = ad k := fun k hk hkq => (mv134 k (by omega) hkq).trans (((fun _ hk => (up_lt hk)) k hk).trans rfl)
              have nb136 : ad133 24 = b0 := (mv134 24 (by omega) (Or.inl (by decide))).trans ((up_lt (by omega)).trans hb0)
              have ev := (show v_X4_moreOf cr rf a1 a2 a3 a4 a5 = ((v_X4_get cr a1 t131).1, (v_X4_get cr a1 t131).2, 0, rf) from by unfold v_X4_moreOf; rw [if_pos s2, if_neg c3, if_pos c75, if_pos c111, if_neg c129, om_some o131])
              exact rt_i X hr (ad133, mg g ad133 y (v_X4_get cr a1 t131).2 dr 0 kn rf pl pz mc) B (PO_of B) ⟨kk135, by rw [ev], by rw [ev]⟩ rfl (Nat.le_of_ble_eq_true rfl) (Nat.le_of_ble_eq_true rfl) dX4_moreOf_106
          · refine lv_lload hx hb dX4_moreOf_93 (lv_at hl 0 rfl) ?_
            refine lv_goto (tgt := 99) hx hb dX4_moreOf_95 (by decide) ?_
            refine lv_ladd hx hb dX4_moreOf_99 ?_
            refine k_r (k := 1) (n := 3) hA B (u_S (rest := [.int a1, .ref b0]) X (c_X4_span l g N ad (mg g ad y cr dr 0 kn rf pl pz mc) (((cr a1.toNatClampNeg).1.toInt64) + (a5.toInt64 * (4000000000 * a3.toInt64))) (((cr a1.toNatClampNeg).2.1.toInt64) + (a5.toInt64 * (4000000000 * a3.toInt64))) (((cr a1.toNatClampNeg).2.2.toInt64) + (a5.toInt64 * (4000000000 * a3.toInt64))) H.size) mw_X4_span md_X4_span rfl lk_X4_47 ⟨Nat.le_of_ble_eq_true rfl, Nat.le_of_ble_eq_true rfl⟩ hA hK hT B hl.1 rfl (Nat.le_of_ble_eq_true rfl) dX4_moreOf_100 ⟨Nat.le_of_ble_eq_true rfl, Nat.le_of_ble_eq_true rfl⟩) (Nat.le_of_ble_eq_true rfl) (Nat.le_of_ble_eq_true rfl) (fun r137 ad137 f' H locs hw B => ?_)
            generalize o138 : (v_X4_span (((cr a1.toNatClampNeg).1.toInt64) + (a5.toInt64 * (4000000000 * a3.toInt64))) (((cr a1.toNatClampNeg).2.1.toInt64) + (a5.toInt64 * (4000000000 * a3.toInt64))) (((cr a1.toNatClampNeg).2.2.toInt64) + (a5.toInt64 * (4000000000 * a3.toInt64)))) = v9 at hw B
            cases v9 with
            | none =>
              obtain ⟨rfl, rfl, rfl⟩ := pw_n hw
              refine k_i (k := 1) (n := 3) hA B (b_V (q := 24) (rest := []) hb0 X (c_X4_getN l g N ad y cr dr 0 kn rf pl pz mc (by omega) b0 hb0 a1 H.size) mw_X4_get md_X4_get rfl lk_X4_103 ⟨Nat.le_of_ble_eq_true rfl, Nat.le_of_ble_eq_true rfl⟩ hA hK hT B (by omega) mg_24 rfl rfl hl.1 rfl (Nat.le_of_ble_eq_true rfl) dX4_moreOf_103 ⟨Nat.le_of_ble_eq_true rfl, Nat.le_of_ble_eq_true rfl⟩) (Nat.le_of_ble_eq_true rfl) (Nat.le_of_ble_eq_true rfl) (fun r139 ad139 f' H locs hw B => ?_)
              obtain ⟨rfl, rfl, rfl⟩ := hw
              have ev := (show v_X4_moreOf cr rf a1 a2 a3 a4 a5 = ((v_X4_getN rf).1, cr, 0, (v_X4_getN rf).2) from by unfold v_X4_moreOf; rw [if_pos s2, if_neg c3, if_pos c75, if_pos c111, if_pos c129, om_none o138])
              exact rt_i X hr (ad, mg g ad y cr dr 0 kn (v_X4_getN rf).2 pl pz mc) B (PO_of B) ⟨(fun _ _ _ => rfl), by rw [ev], by rw [ev]⟩ rfl (Nat.le_of_ble_eq_true rfl) (Nat.le_of_ble_eq_true rfl) dX4_moreOf_106
            | some t138 =>
              obtain ⟨z138, rfl, rfl, rfl⟩ := pw_s hw
              have B : WB g (aw N ad sz) s.heap (N + 1) (va_up ad N z138) (mg g (va_up ad N z138) (va_up y N (c_row g t138)) cr dr 0 kn rf pl pz mc) H locs := WM_push (by omega) B
              refine k_i (k := 2) (n := 6) hA B (b_V (q := 24) (rest := []) ((up_lt (by omega)).trans hb0) X (c_X4_get l g (N + 1) (va_up ad N z138) (va_up y N (c_row g t138)) cr dr 0 kn rf pl pz mc (by omega) b0 ((up_lt (by omega)).trans hb0) a1 N z138 t138 (Nat.lt_succ_self _) up_eq ((mg_hi (by omega)).trans up_eq) s2 H.size) mw_X4_get md_X4_get rfl lk_X4_103 ⟨Nat.le_of_ble_eq_true rfl, Nat.le_of_ble_eq_true rfl⟩ hA hK hT B (by omega) mg_24 rfl rfl hl.1 rfl (Nat.le_of_ble_eq_true rfl) dX4_moreOf_103 ⟨Nat.le_of_ble_eq_true rfl, Nat.le_of_ble_eq_true rfl⟩) (Nat.le_of_ble_eq_true rfl) (Nat.le_of_ble_eq_true rfl) (fun r140 ad140 f' H locs hw B => ?_)
              dsimp only at hw
              obtain ⟨mv141, rfl, rfl⟩ := hw
              have B : WB g (aw N ad sz) s.heap N ad140 (mg g ad140 y (v_X4_get cr a1 t138).2 dr 0 kn rf pl pz mc) H locs := WM_drop B (by omega) (by omega) (fun _ _ => rfl) (fun _ hk => (up_lt hk))
              have kk142 : ∀ k, k < N → k < 28 ∨ 36 ≤ k → ad140 k = ad k := fun k hk hkq => (mv141 k (by omega) hkq).trans (((fun _ hk => (up_lt hk)) k hk).trans rfl)
              have nb143 : ad140 24 = b0 := (mv141 24 (by omega) (Or.inl (by decide))).trans ((up_lt (by omega)).trans hb0)
              have ev := (show v_X4_moreOf cr rf a1 a2 a3 a4 a5 = ((v_X4_get cr a1 t138).1, (v_X4_get cr a1 t138).2, 0, rf) from by unfold v_X4_moreOf; rw [if_pos s2, if_neg c3, if_pos c75, if_pos c111, if_pos c129, om_some o138])
              exact rt_i X hr (ad140, mg g ad140 y (v_X4_get cr a1 t138).2 dr 0 kn rf pl pz mc) B (PO_of B) ⟨kk142, by rw [ev], by rw [ev]⟩ rfl (Nat.le_of_ble_eq_true rfl) (Nat.le_of_ble_eq_true rfl) dX4_moreOf_106
  · have s2x : (v_X4_isNone a1) = 1 := (b01_X4_isNone).resolve_left s2
    rw [s2x]
    refine k_i (k := 0) (n := 0) hA B (b_V (q := 24) (rest := []) hb0 X (c_X4_stops l g N ad y cr dr th kn rf pl pz mc (by omega) b0 hb0 1 0 H.size) mw_X4_stops md_X4_stops rfl lk_X4_99 ⟨Nat.le_of_ble_eq_true rfl, Nat.le_of_ble_eq_true rfl⟩ hA hK hT B (by omega) mg_24 rfl rfl hl.1 rfl (Nat.le_of_ble_eq_true rfl) dX4_moreOf_6 ⟨Nat.le_of_ble_eq_true rfl, Nat.le_of_ble_eq_true rfl⟩) (Nat.le_of_ble_eq_true rfl) (Nat.le_of_ble_eq_true rfl) (fun r ad' f' H locs hw B => ?_)
    rw [st_10] at hw
    dsimp only at hw
    obtain ⟨rfl, rfl, rfl⟩ := hw
    have B : WB g (aw N ad sz) s.heap N ad (mg g ad y cr dr 1 kn rf pl pz mc) H locs := B
    refine lv_if_eq (tgt := 14) hx hb dX4_moreOf_9 (by decide) (fun z => absurd z (by decide)) (fun _ => ?_)
    refine lv_iconst (v := 0) hx hb dX4_moreOf_12 (by decide) ?_
    have ev := (show v_X4_moreOf cr rf a1 a2 a3 a4 a5 = (0, cr, 1, rf) from by unfold v_X4_moreOf; rw [if_neg s2])
    exact rt_i X hr (ad, mg g ad y cr dr 1 kn rf pl pz mc) B (PO_of B) ⟨(fun _ _ _ => rfl), by rw [ev], by rw [ev]⟩ rfl (Nat.le_of_ble_eq_true rfl) (Nat.le_of_ble_eq_true rfl) dX4_moreOf_13
def v_X4_plusYears (cr : Nat → TR) (rf : Int32) (a1 : Int32) (a2 : Int32) (a3 : Int32) : Int32 × (Nat → TR) × Int32 × Int32 := ((v_X4_moreOf cr rf a1 0 a2 a3 1).1, (v_X4_moreOf cr rf a1 0 a2 a3 1).2.1, (v_X4_moreOf cr rf a1 0 a2 a3 1).2.2.1, (v_X4_moreOf cr rf a1 0 a2 a3 1).2.2.2)
set_option maxHeartbeats 4000000 in
set_option maxRecDepth 100000 in
theorem c_X4_plusYears (l : Launch) (g : GG) (N : Nat) (ad : Nat → Nat) (y : Nat → va_E) (cr dr : Nat → TR) (th kn rf : Int32) (pl : Nat → TR) (pz : Nat) (mc : Int32) (hN : 36 + pz ≤ N) (b0 : Nat) (hb0 : ad 24 = b0) (a1 : Int32) (a2 : Int32) (a3 : Int32) : KI l yX4_plusYears cX4_plusYears 4 (some .int) (rm 3 2 6) g [.ref b0, .int a1, .int a2, .int a3] N ad (mg g ad y cr dr th kn rf pl pz mc) N (fun r ad' f' => (∀ k, k < N → k < 28 ∨ 36 ≤ k → ad' k = ad k) ∧ (v_X4_plusYears cr rf a1 a2 a3).1 = r ∧ mg g ad' y (v_X4_plusYears cr rf a1 a2 a3).2.1 dr (v_X4_plusYears cr rf a1 a2 a3).2.2.1 kn (v_X4_plusYears cr rf a1 a2 a3).2.2.2 pl pz mc = f') := by
  intro sz
  refine mt_start (by decide) (Nat.le_of_ble_eq_true rfl) ?_
  intro p e s m args below meth c hsz X hr hnam hA hK hT H locs B ls hl
  obtain ⟨hx, hb, hml, hown, hts, hlocks⟩ := id X
  have hl : lv_has ls 4 [(0, .ref b0), (1, .int a1), (2, .int a2), (3, .int a3)] := hl
  refine lv_aload_n hx hb dX4_plusYears_0 rfl (lv_at hl 0 rfl) ?_
  refine lv_iload_n hx hb dX4_plusYears_1 rfl (lv_at hl 1 rfl) ?_
  refine lv_iconst (v := 0) hx hb dX4_plusYears_2 (by decide) ?_
  refine lv_iload_n hx hb dX4_plusYears_3 rfl (lv_at hl 2 rfl) ?_
  refine lv_iload_n hx hb dX4_plusYears_4 rfl (lv_at hl 3 rfl) ?_
  refine lv_iconst (v := 1) hx hb dX4_plusYears_5 (by decide) ?_
  refine k_i (k := 2) (n := 6) hA B (b_V (q := 24) (rest := []) hb0 X (c_X4_moreOf l g N ad y cr dr th kn rf pl pz mc (by omega) b0 hb0 a1 0 a2 a3 1 H.size) mw_X4_moreOf md_X4_moreOf rfl lk_X4_117 ⟨Nat.le_of_ble_eq_true rfl, Nat.le_of_ble_eq_true rfl⟩ hA hK hT B (by omega) mg_24 rfl rfl hl.1 rfl (Nat.le_of_ble_eq_true rfl) dX4_plusYears_6 ⟨Nat.le_of_ble_eq_true rfl, Nat.le_of_ble_eq_true rfl⟩) (Nat.le_of_ble_eq_true rfl) (Nat.le_of_ble_eq_true rfl) (fun r1 ad1 f' H locs hw B => ?_)
  dsimp only at hw
  obtain ⟨mv2, rfl, rfl⟩ := hw
  have kk3 : ∀ k, k < N → k < 28 ∨ 36 ≤ k → ad1 k = ad k := fun k hk hkq => (mv2 k (by omega) hkq).trans (rfl.trans rfl)
  have nb4 : ad1 24 = b0 := (mv2 24 (by omega) (Or.inl (by decide))).trans hb0
  have ev := (show v_X4_plusYears cr rf a1 a2 a3 = ((v_X4_moreOf cr rf a1 0 a2 a3 1).1, (v_X4_moreOf cr rf a1 0 a2 a3 1).2.1, (v_X4_moreOf cr rf a1 0 a2 a3 1).2.2.1, (v_X4_moreOf cr rf a1 0 a2 a3 1).2.2.2) from rfl)
  exact rt_i X hr (ad1, mg g ad1 y (v_X4_moreOf cr rf a1 0 a2 a3 1).2.1 dr (v_X4_moreOf cr rf a1 0 a2 a3 1).2.2.1 kn (v_X4_moreOf cr rf a1 0 a2 a3 1).2.2.2 pl pz mc) B (PO_of B) ⟨kk3, by rw [ev], by rw [ev]⟩ rfl (Nat.le_of_ble_eq_true rfl) (Nat.le_of_ble_eq_true rfl) dX4_plusYears_9
def v_X4_plusMonths (cr : Nat → TR) (rf : Int32) (a1 : Int32) (a2 : Int32) (a3 : Int32) : Int32 × (Nat → TR) × Int32 × Int32 := ((v_X4_moreOf cr rf a1 1 a2 a3 1).1, (v_X4_moreOf cr rf a1 1 a2 a3 1).2.1, (v_X4_moreOf cr rf a1 1 a2 a3 1).2.2.1, (v_X4_moreOf cr rf a1 1 a2 a3 1).2.2.2)
set_option maxHeartbeats 4000000 in
set_option maxRecDepth 100000 in
theorem c_X4_plusMonths (l : Launch) (g : GG) (N : Nat) (ad : Nat → Nat) (y : Nat → va_E) (cr dr : Nat → TR) (th kn rf : Int32) (pl : Nat → TR) (pz : Nat) (mc : Int32) (hN : 36 + pz ≤ N) (b0 : Nat) (hb0 : ad 24 = b0) (a1 : Int32) (a2 : Int32) (a3 : Int32) : KI l yX4_plusMonths cX4_plusMonths 4 (some .int) (rm 3 2 6) g [.ref b0, .int a1, .int a2, .int a3] N ad (mg g ad y cr dr th kn rf pl pz mc) N (fun r ad' f' => (∀ k, k < N → k < 28 ∨ 36 ≤ k → ad' k = ad k) ∧ (v_X4_plusMonths cr rf a1 a2 a3).1 = r ∧ mg g ad' y (v_X4_plusMonths cr rf a1 a2 a3).2.1 dr (v_X4_plusMonths cr rf a1 a2 a3).2.2.1 kn (v_X4_plusMonths cr rf a1 a2 a3).2.2.2 pl pz mc = f') := by
  intro sz
  refine mt_start (by decide) (Nat.le_of_ble_eq_true rfl) ?_
  intro p e s m args below meth c hsz X hr hnam hA hK hT H locs B ls hl
  obtain ⟨hx, hb, hml, hown, hts, hlocks⟩ := id X
  have hl : lv_has ls 4 [(0, .ref b0), (1, .int a1), (2, .int a2), (3, .int a3)] := hl
  refine lv_aload_n hx hb dX4_plusMonths_0 rfl (lv_at hl 0 rfl) ?_
  refine lv_iload_n hx hb dX4_plusMonths_1 rfl (lv_at hl 1 rfl) ?_
  refine lv_iconst (v := 1) hx hb dX4_plusMonths_2 (by decide) ?_
  refine lv_iload_n hx hb dX4_plusMonths_3 rfl (lv_at hl 2 rfl) ?_
  refine lv_iload_n hx hb dX4_plusMonths_4 rfl (lv_at hl 3 rfl) ?_
  refine lv_iconst (v := 1) hx hb dX4_plusMonths_5 (by decide) ?_
  refine k_i (k := 2) (n := 6) hA B (b_V (q := 24) (rest := []) hb0 X (c_X4_moreOf l g N ad y cr dr th kn rf pl pz mc (by omega) b0 hb0 a1 1 a2 a3 1 H.size) mw_X4_moreOf md_X4_moreOf rfl lk_X4_117 ⟨Nat.le_of_ble_eq_true rfl, Nat.le_of_ble_eq_true rfl⟩ hA hK hT B (by omega) mg_24 rfl rfl hl.1 rfl (Nat.le_of_ble_eq_true rfl) dX4_plusMonths_6 ⟨Nat.le_of_ble_eq_true rfl, Nat.le_of_ble_eq_true rfl⟩) (Nat.le_of_ble_eq_true rfl) (Nat.le_of_ble_eq_true rfl) (fun r1 ad1 f' H locs hw B => ?_)
  dsimp only at hw
  obtain ⟨mv2, rfl, rfl⟩ := hw
  have kk3 : ∀ k, k < N → k < 28 ∨ 36 ≤ k → ad1 k = ad k := fun k hk hkq => (mv2 k (by omega) hkq).trans (rfl.trans rfl)
  have nb4 : ad1 24 = b0 := (mv2 24 (by omega) (Or.inl (by decide))).trans hb0
  have ev := (show v_X4_plusMonths cr rf a1 a2 a3 = ((v_X4_moreOf cr rf a1 1 a2 a3 1).1, (v_X4_moreOf cr rf a1 1 a2 a3 1).2.1, (v_X4_moreOf cr rf a1 1 a2 a3 1).2.2.1, (v_X4_moreOf cr rf a1 1 a2 a3 1).2.2.2) from rfl)
  exact rt_i X hr (ad1, mg g ad1 y (v_X4_moreOf cr rf a1 1 a2 a3 1).2.1 dr (v_X4_moreOf cr rf a1 1 a2 a3 1).2.2.1 kn (v_X4_moreOf cr rf a1 1 a2 a3 1).2.2.2 pl pz mc) B (PO_of B) ⟨kk3, by rw [ev], by rw [ev]⟩ rfl (Nat.le_of_ble_eq_true rfl) (Nat.le_of_ble_eq_true rfl) dX4_plusMonths_9
def v_X4_plusDays (cr : Nat → TR) (rf : Int32) (a1 : Int32) (a2 : Int32) (a3 : Int32) : Int32 × (Nat → TR) × Int32 × Int32 := ((v_X4_moreOf cr rf a1 2 a2 a3 1).1, (v_X4_moreOf cr rf a1 2 a2 a3 1).2.1, (v_X4_moreOf cr rf a1 2 a2 a3 1).2.2.1, (v_X4_moreOf cr rf a1 2 a2 a3 1).2.2.2)
set_option maxHeartbeats 4000000 in
set_option maxRecDepth 100000 in
theorem c_X4_plusDays (l : Launch) (g : GG) (N : Nat) (ad : Nat → Nat) (y : Nat → va_E) (cr dr : Nat → TR) (th kn rf : Int32) (pl : Nat → TR) (pz : Nat) (mc : Int32) (hN : 36 + pz ≤ N) (b0 : Nat) (hb0 : ad 24 = b0) (a1 : Int32) (a2 : Int32) (a3 : Int32) : KI l yX4_plusDays cX4_plusDays 4 (some .int) (rm 3 2 6) g [.ref b0, .int a1, .int a2, .int a3] N ad (mg g ad y cr dr th kn rf pl pz mc) N (fun r ad' f' => (∀ k, k < N → k < 28 ∨ 36 ≤ k → ad' k = ad k) ∧ (v_X4_plusDays cr rf a1 a2 a3).1 = r ∧ mg g ad' y (v_X4_plusDays cr rf a1 a2 a3).2.1 dr (v_X4_plusDays cr rf a1 a2 a3).2.2.1 kn (v_X4_plusDays cr rf a1 a2 a3).2.2.2 pl pz mc = f') := by
  intro sz
  refine mt_start (by decide) (Nat.le_of_ble_eq_true rfl) ?_
  intro p e s m args below meth c hsz X hr hnam hA hK hT H locs B ls hl
  obtain ⟨hx, hb, hml, hown, hts, hlocks⟩ := id X
  have hl : lv_has ls 4 [(0, .ref b0), (1, .int a1), (2, .int a2), (3, .int a3)] := hl
  refine lv_aload_n hx hb dX4_plusDays_0 rfl (lv_at hl 0 rfl) ?_
  refine lv_iload_n hx hb dX4_plusDays_1 rfl (lv_at hl 1 rfl) ?_
  refine lv_iconst (v := 2) hx hb dX4_plusDays_2 (by decide) ?_
  refine lv_iload_n hx hb dX4_plusDays_3 rfl (lv_at hl 2 rfl) ?_
  refine lv_iload_n hx hb dX4_plusDays_4 rfl (lv_at hl 3 rfl) ?_
  refine lv_iconst (v := 1) hx hb dX4_plusDays_5 (by decide) ?_
  refine k_i (k := 2) (n := 6) hA B (b_V (q := 24) (rest := []) hb0 X (c_X4_moreOf l g N ad y cr dr th kn rf pl pz mc (by omega) b0 hb0 a1 2 a2 a3 1 H.size) mw_X4_moreOf md_X4_moreOf rfl lk_X4_117 ⟨Nat.le_of_ble_eq_true rfl, Nat.le_of_ble_eq_true rfl⟩ hA hK hT B (by omega) mg_24 rfl rfl hl.1 rfl (Nat.le_of_ble_eq_true rfl) dX4_plusDays_6 ⟨Nat.le_of_ble_eq_true rfl, Nat.le_of_ble_eq_true rfl⟩) (Nat.le_of_ble_eq_true rfl) (Nat.le_of_ble_eq_true rfl) (fun r1 ad1 f' H locs hw B => ?_)
  dsimp only at hw
  obtain ⟨mv2, rfl, rfl⟩ := hw
  have kk3 : ∀ k, k < N → k < 28 ∨ 36 ≤ k → ad1 k = ad k := fun k hk hkq => (mv2 k (by omega) hkq).trans (rfl.trans rfl)
  have nb4 : ad1 24 = b0 := (mv2 24 (by omega) (Or.inl (by decide))).trans hb0
  have ev := (show v_X4_plusDays cr rf a1 a2 a3 = ((v_X4_moreOf cr rf a1 2 a2 a3 1).1, (v_X4_moreOf cr rf a1 2 a2 a3 1).2.1, (v_X4_moreOf cr rf a1 2 a2 a3 1).2.2.1, (v_X4_moreOf cr rf a1 2 a2 a3 1).2.2.2) from rfl)
  exact rt_i X hr (ad1, mg g ad1 y (v_X4_moreOf cr rf a1 2 a2 a3 1).2.1 dr (v_X4_moreOf cr rf a1 2 a2 a3 1).2.2.1 kn (v_X4_moreOf cr rf a1 2 a2 a3 1).2.2.2 pl pz mc) B (PO_of B) ⟨kk3, by rw [ev], by rw [ev]⟩ rfl (Nat.le_of_ble_eq_true rfl) (Nat.le_of_ble_eq_true rfl) dX4_plusDays_9
def v_X4_minusYears (cr : Nat → TR) (rf : Int32) (a1 : Int32) (a2 : Int32) (a3 : Int32) : Int32 × (Nat → TR) × Int32 × Int32 := ((v_X4_moreOf cr rf a1 0 a2 a3 (-1)).1, (v_X4_moreOf cr rf a1 0 a2 a3 (-1)).2.1, (v_X4_moreOf cr rf a1 0 a2 a3 (-1)).2.2.1, (v_X4_moreOf cr rf a1 0 a2 a3 (-1)).2.2.2)
set_option maxHeartbeats 4000000 in
set_option maxRecDepth 100000 in
theorem c_X4_minusYears (l : Launch) (g : GG) (N : Nat) (ad : Nat → Nat) (y : Nat → va_E) (cr dr : Nat → TR) (th kn rf : Int32) (pl : Nat → TR) (pz : Nat) (mc : Int32) (hN : 36 + pz ≤ N) (b0 : Nat) (hb0 : ad 24 = b0) (a1 : Int32) (a2 : Int32) (a3 : Int32) : KI l yX4_minusYears cX4_minusYears 4 (some .int) (rm 3 2 6) g [.ref b0, .int a1, .int a2, .int a3] N ad (mg g ad y cr dr th kn rf pl pz mc) N (fun r ad' f' => (∀ k, k < N → k < 28 ∨ 36 ≤ k → ad' k = ad k) ∧ (v_X4_minusYears cr rf a1 a2 a3).1 = r ∧ mg g ad' y (v_X4_minusYears cr rf a1 a2 a3).2.1 dr (v_X4_minusYears cr rf a1 a2 a3).2.2.1 kn (v_X4_minusYears cr rf a1 a2 a3).2.2.2 pl pz mc = f') := by
  intro sz
  refine mt_start (by decide) (Nat.le_of_ble_eq_true rfl) ?_
  intro p e s m args below meth c hsz X hr hnam hA hK hT H locs B ls hl
  obtain ⟨hx, hb, hml, hown, hts, hlocks⟩ := id X
  have hl : lv_has ls 4 [(0, .ref b0), (1, .int a1), (2, .int a2), (3, .int a3)] := hl
  refine lv_aload_n hx hb dX4_minusYears_0 rfl (lv_at hl 0 rfl) ?_
  refine lv_iload_n hx hb dX4_minusYears_1 rfl (lv_at hl 1 rfl) ?_
  refine lv_iconst (v := 0) hx hb dX4_minusYears_2 (by decide) ?_
  refine lv_iload_n hx hb dX4_minusYears_3 rfl (lv_at hl 2 rfl) ?_
  refine lv_iload_n hx hb dX4_minusYears_4 rfl (lv_at hl 3 rfl) ?_
  refine lv_iconst (v := (-1)) hx hb dX4_minusYears_5 (by decide) ?_
  refine k_i (k := 2) (n := 6) hA B (b_V (q := 24) (rest := []) hb0 X (c_X4_moreOf l g N ad y cr dr th kn rf pl pz mc (by omega) b0 hb0 a1 0 a2 a3 (-1) H.size) mw_X4_moreOf md_X4_moreOf rfl lk_X4_117 ⟨Nat.le_of_ble_eq_true rfl, Nat.le_of_ble_eq_true rfl⟩ hA hK hT B (by omega) mg_24 rfl rfl hl.1 rfl (Nat.le_of_ble_eq_true rfl) dX4_minusYears_6 ⟨Nat.le_of_ble_eq_true rfl, Nat.le_of_ble_eq_true rfl⟩) (Nat.le_of_ble_eq_true rfl) (Nat.le_of_ble_eq_true rfl) (fun r1 ad1 f' H locs hw B => ?_)
  dsimp only at hw
  obtain ⟨mv2, rfl, rfl⟩ := hw
  have kk3 : ∀ k, k < N → k < 28 ∨ 36 ≤ k → ad1 k = ad k := fun k hk hkq => (mv2 k (by omega) hkq).trans (rfl.trans rfl)
  have nb4 : ad1 24 = b0 := (mv2 24 (by omega) (Or.inl (by decide))).trans hb0
  have ev := (show v_X4_minusYears cr rf a1 a2 a3 = ((v_X4_moreOf cr rf a1 0 a2 a3 (-1)).1, (v_X4_moreOf cr rf a1 0 a2 a3 (-1)).2.1, (v_X4_moreOf cr rf a1 0 a2 a3 (-1)).2.2.1, (v_X4_moreOf cr rf a1 0 a2 a3 (-1)).2.2.2) from rfl)
  exact rt_i X hr (ad1, mg g ad1 y (v_X4_moreOf cr rf a1 0 a2 a3 (-1)).2.1 dr (v_X4_moreOf cr rf a1 0 a2 a3 (-1)).2.2.1 kn (v_X4_moreOf cr rf a1 0 a2 a3 (-1)).2.2.2 pl pz mc) B (PO_of B) ⟨kk3, by rw [ev], by rw [ev]⟩ rfl (Nat.le_of_ble_eq_true rfl) (Nat.le_of_ble_eq_true rfl) dX4_minusYears_9
def v_X4_minusMonths (cr : Nat → TR) (rf : Int32) (a1 : Int32) (a2 : Int32) (a3 : Int32) : Int32 × (Nat → TR) × Int32 × Int32 := ((v_X4_moreOf cr rf a1 1 a2 a3 (-1)).1, (v_X4_moreOf cr rf a1 1 a2 a3 (-1)).2.1, (v_X4_moreOf cr rf a1 1 a2 a3 (-1)).2.2.1, (v_X4_moreOf cr rf a1 1 a2 a3 (-1)).2.2.2)
set_option maxHeartbeats 4000000 in
set_option maxRecDepth 100000 in
theorem c_X4_minusMonths (l : Launch) (g : GG) (N : Nat) (ad : Nat → Nat) (y : Nat → va_E) (cr dr : Nat → TR) (th kn rf : Int32) (pl : Nat → TR) (pz : Nat) (mc : Int32) (hN : 36 + pz ≤ N) (b0 : Nat) (hb0 : ad 24 = b0) (a1 : Int32) (a2 : Int32) (a3 : Int32) : KI l yX4_minusMonths cX4_minusMonths 4 (some .int) (rm 3 2 6) g [.ref b0, .int a1, .int a2, .int a3] N ad (mg g ad y cr dr th kn rf pl pz mc) N (fun r ad' f' => (∀ k, k < N → k < 28 ∨ 36 ≤ k → ad' k = ad k) ∧ (v_X4_minusMonths cr rf a1 a2 a3).1 = r ∧ mg g ad' y (v_X4_minusMonths cr rf a1 a2 a3).2.1 dr (v_X4_minusMonths cr rf a1 a2 a3).2.2.1 kn (v_X4_minusMonths cr rf a1 a2 a3).2.2.2 pl pz mc = f') := by
  intro sz
  refine mt_start (by decide) (Nat.le_of_ble_eq_true rfl) ?_
  intro p e s m args below meth c hsz X hr hnam hA hK hT H locs B ls hl
  obtain ⟨hx, hb, hml, hown, hts, hlocks⟩ := id X
  have hl : lv_has ls 4 [(0, .ref b0), (1, .int a1), (2, .int a2), (3, .int a3)] := hl
  refine lv_aload_n hx hb dX4_minusMonths_0 rfl (lv_at hl 0 rfl) ?_
  refine lv_iload_n hx hb dX4_minusMonths_1 rfl (lv_at hl 1 rfl) ?_
  refine lv_iconst (v := 1) hx hb dX4_minusMonths_2 (by decide) ?_
  refine lv_iload_n hx hb dX4_minusMonths_3 rfl (lv_at hl 2 rfl) ?_
  refine lv_iload_n hx hb dX4_minusMonths_4 rfl (lv_at hl 3 rfl) ?_
  refine lv_iconst (v := (-1)) hx hb dX4_minusMonths_5 (by decide) ?_
  refine k_i (k := 2) (n := 6) hA B (b_V (q := 24) (rest := []) hb0 X (c_X4_moreOf l g N ad y cr dr th kn rf pl pz mc (by omega) b0 hb0 a1 1 a2 a3 (-1) H.size) mw_X4_moreOf md_X4_moreOf rfl lk_X4_117 ⟨Nat.le_of_ble_eq_true rfl, Nat.le_of_ble_eq_true rfl⟩ hA hK hT B (by omega) mg_24 rfl rfl hl.1 rfl (Nat.le_of_ble_eq_true rfl) dX4_minusMonths_6 ⟨Nat.le_of_ble_eq_true rfl, Nat.le_of_ble_eq_true rfl⟩) (Nat.le_of_ble_eq_true rfl) (Nat.le_of_ble_eq_true rfl) (fun r1 ad1 f' H locs hw B => ?_)
  dsimp only at hw
  obtain ⟨mv2, rfl, rfl⟩ := hw
  have kk3 : ∀ k, k < N → k < 28 ∨ 36 ≤ k → ad1 k = ad k := fun k hk hkq => (mv2 k (by omega) hkq).trans (rfl.trans rfl)
  have nb4 : ad1 24 = b0 := (mv2 24 (by omega) (Or.inl (by decide))).trans hb0
  have ev := (show v_X4_minusMonths cr rf a1 a2 a3 = ((v_X4_moreOf cr rf a1 1 a2 a3 (-1)).1, (v_X4_moreOf cr rf a1 1 a2 a3 (-1)).2.1, (v_X4_moreOf cr rf a1 1 a2 a3 (-1)).2.2.1, (v_X4_moreOf cr rf a1 1 a2 a3 (-1)).2.2.2) from rfl)
  exact rt_i X hr (ad1, mg g ad1 y (v_X4_moreOf cr rf a1 1 a2 a3 (-1)).2.1 dr (v_X4_moreOf cr rf a1 1 a2 a3 (-1)).2.2.1 kn (v_X4_moreOf cr rf a1 1 a2 a3 (-1)).2.2.2 pl pz mc) B (PO_of B) ⟨kk3, by rw [ev], by rw [ev]⟩ rfl (Nat.le_of_ble_eq_true rfl) (Nat.le_of_ble_eq_true rfl) dX4_minusMonths_9
def v_X4_minusDays (cr : Nat → TR) (rf : Int32) (a1 : Int32) (a2 : Int32) (a3 : Int32) : Int32 × (Nat → TR) × Int32 × Int32 := ((v_X4_moreOf cr rf a1 2 a2 a3 (-1)).1, (v_X4_moreOf cr rf a1 2 a2 a3 (-1)).2.1, (v_X4_moreOf cr rf a1 2 a2 a3 (-1)).2.2.1, (v_X4_moreOf cr rf a1 2 a2 a3 (-1)).2.2.2)
set_option maxHeartbeats 4000000 in
set_option maxRecDepth 100000 in
theorem c_X4_minusDays (l : Launch) (g : GG) (N : Nat) (ad : Nat → Nat) (y : Nat → va_E) (cr dr : Nat → TR) (th kn rf : Int32) (pl : Nat → TR) (pz : Nat) (mc : Int32) (hN : 36 + pz ≤ N) (b0 : Nat) (hb0 : ad 24 = b0) (a1 : Int32) (a2 : Int32) (a3 : Int32) : KI l yX4_minusDays cX4_minusDays 4 (some .int) (rm 3 2 6) g [.ref b0, .int a1, .int a2, .int a3] N ad (mg g ad y cr dr th kn rf pl pz mc) N (fun r ad' f' => (∀ k, k < N → k < 28 ∨ 36 ≤ k → ad' k = ad k) ∧ (v_X4_minusDays cr rf a1 a2 a3).1 = r ∧ mg g ad' y (v_X4_minusDays cr rf a1 a2 a3).2.1 dr (v_X4_minusDays cr rf a1 a2 a3).2.2.1 kn (v_X4_minusDays cr rf a1 a2 a3).2.2.2 pl pz mc = f') := by
  intro sz
  refine mt_start (by decide) (Nat.le_of_ble_eq_true rfl) ?_
  intro p e s m args below meth c hsz X hr hnam hA hK hT H locs B ls hl
  obtain ⟨hx, hb, hml, hown, hts, hlocks⟩ := id X
  have hl : lv_has ls 4 [(0, .ref b0), (1, .int a1), (2, .int a2), (3, .int a3)] := hl
  refine lv_aload_n hx hb dX4_minusDays_0 rfl (lv_at hl 0 rfl) ?_
  refine lv_iload_n hx hb dX4_minusDays_1 rfl (lv_at hl 1 rfl) ?_
  refine lv_iconst (v := 2) hx hb dX4_minusDays_2 (by decide) ?_
  refine lv_iload_n hx hb dX4_minusDays_3 rfl (lv_at hl 2 rfl) ?_
  refine lv_iload_n hx hb dX4_minusDays_4 rfl (lv_at hl 3 rfl) ?_
  refine lv_iconst (v := (-1)) hx hb dX4_minusDays_5 (by decide) ?_
  refine k_i (k := 2) (n := 6) hA B (b_V (q := 24) (rest := []) hb0 X (c_X4_moreOf l g N ad y cr dr th kn rf pl pz mc (by omega) b0 hb0 a1 2 a2 a3 (-1) H.size) mw_X4_moreOf md_X4_moreOf rfl lk_X4_117 ⟨Nat.le_of_ble_eq_true rfl, Nat.le_of_ble_eq_true rfl⟩ hA hK hT B (by omega) mg_24 rfl rfl hl.1 rfl (Nat.le_of_ble_eq_true rfl) dX4_minusDays_6 ⟨Nat.le_of_ble_eq_true rfl, Nat.le_of_ble_eq_true rfl⟩) (Nat.le_of_ble_eq_true rfl) (Nat.le_of_ble_eq_true rfl) (fun r1 ad1 f' H locs hw B => ?_)
  dsimp only at hw
  obtain ⟨mv2, rfl, rfl⟩ := hw
  have kk3 : ∀ k, k < N → k < 28 ∨ 36 ≤ k → ad1 k = ad k := fun k hk hkq => (mv2 k (by omega) hkq).trans (rfl.trans rfl)
  have nb4 : ad1 24 = b0 := (mv2 24 (by omega) (Or.inl (by decide))).trans hb0
  have ev := (show v_X4_minusDays cr rf a1 a2 a3 = ((v_X4_moreOf cr rf a1 2 a2 a3 (-1)).1, (v_X4_moreOf cr rf a1 2 a2 a3 (-1)).2.1, (v_X4_moreOf cr rf a1 2 a2 a3 (-1)).2.2.1, (v_X4_moreOf cr rf a1 2 a2 a3 (-1)).2.2.2) from rfl)
  exact rt_i X hr (ad1, mg g ad1 y (v_X4_moreOf cr rf a1 2 a2 a3 (-1)).2.1 dr (v_X4_moreOf cr rf a1 2 a2 a3 (-1)).2.2.1 kn (v_X4_moreOf cr rf a1 2 a2 a3 (-1)).2.2.2 pl pz mc) B (PO_of B) ⟨kk3, by rw [ev], by rw [ev]⟩ rfl (Nat.le_of_ble_eq_true rfl) (Nat.le_of_ble_eq_true rfl) dX4_minusDays_9
def v_X4_plus (cr : Nat → TR) (rf : Int32) (a1 : Int32) (a2 : Int32) : Int32 × (Nat → TR) × Int32 × Int32 := if (v_X4_isNone a1) = 0 then (if (v_X4_isNone a2) = 0 then (om (v_X4_sum (cr a1.toNatClampNeg) 1 (cr a2.toNatClampNeg)) ((v_X4_getN rf).1, cr, 0, (v_X4_getN rf).2) (fun t8 => ((v_X4_get cr a1 t8).1, (v_X4_get cr a1 t8).2, 0, rf))) else (0, cr, 1, rf)) else (0, cr, 1, rf)
set_option maxHeartbeats 4000000 in
set_option maxRecDepth 100000 in
theorem c_X4_plus (l : Launch) (g : GG) (N : Nat) (ad : Nat → Nat) (y : Nat → va_E) (cr dr : Nat → TR) (th kn rf : Int32) (pl : Nat → TR) (pz : Nat) (mc : Int32) (hN : 36 + pz ≤ N) (b0 : Nat) (hb0 : ad 24 = b0) (a1 : Int32) (a2 : Int32) : KI l yX4_plus cX4_plus 3 (some .int) (rm 3 2 6) g [.ref b0, .int a1, .int a2] N ad (mg g ad y cr dr th kn rf pl pz mc) N (fun r ad' f' => (∀ k, k < N → k < 28 ∨ 36 ≤ k → ad' k = ad k) ∧ (v_X4_plus cr rf a1 a2).1 = r ∧ mg g ad' y (v_X4_plus cr rf a1 a2).2.1 dr (v_X4_plus cr rf a1 a2).2.2.1 kn (v_X4_plus cr rf a1 a2).2.2.2 pl pz mc = f') := by
  intro sz
  refine mt_start (by decide) (Nat.le_of_ble_eq_true rfl) ?_
  intro p e s m args below meth c hsz X hr hnam hA hK hT H locs B ls hl
  obtain ⟨hx, hb, hml, hown, hts, hlocks⟩ := id X
  have hl : lv_has ls 3 [(0, .ref b0), (1, .int a1), (2, .int a2)] := hl
  refine lv_aload_n hx hb dX4_plus_0 rfl (lv_at hl 0 rfl) ?_
  refine lv_iload_n hx hb dX4_plus_1 rfl (lv_at hl 1 rfl) ?_
  refine k_i (k := 0) (n := 0) hA B (u_S (rest := [.ref b0]) X (c_X4_isNone l g N ad (mg g ad y cr dr th kn rf pl pz mc) a1 H.size) mw_X4_isNone md_X4_isNone rfl lk_X4_95 ⟨Nat.le_of_ble_eq_true rfl, Nat.le_of_ble_eq_true rfl⟩ hA hK hT B hl.1 rfl (Nat.le_of_ble_eq_true rfl) dX4_plus_2 ⟨Nat.le_of_ble_eq_true rfl, Nat.le_of_ble_eq_true rfl⟩) (Nat.le_of_ble_eq_true rfl) (Nat.le_of_ble_eq_true rfl) (fun r1 ad1 f' H locs hw B => ?_)
  obtain ⟨rfl, rfl, rfl⟩ := hw
  refine lv_if_ne (tgt := 15) hx hb dX4_plus_5 (by decide) (fun c2 => ?_) (fun c2 => ?_)
  · refine lv_iconst (v := 1) hx hb dX4_plus_15 (by decide) ?_
    refine lv_goto (tgt := 20) hx hb dX4_plus_16 (by decide) ?_
    refine lv_iconst (v := 0) hx hb dX4_plus_20 (by decide) ?_
    refine k_i (k := 0) (n := 0) hA B (b_V (q := 24) (rest := []) hb0 X (c_X4_stops l g N ad y cr dr th kn rf pl pz mc (by omega) b0 hb0 1 0 H.size) mw_X4_stops md_X4_stops rfl lk_X4_99 ⟨Nat.le_of_ble_eq_true rfl, Nat.le_of_ble_eq_true rfl⟩ hA hK hT B (by omega) mg_24 rfl rfl hl.1 rfl (Nat.le_of_ble_eq_true rfl) dX4_plus_21 ⟨Nat.le_of_ble_eq_true rfl, Nat.le_of_ble_eq_true rfl⟩) (Nat.le_of_ble_eq_true rfl) (Nat.le_of_ble_eq_true rfl) (fun r ad' f' H locs hw B => ?_)
    rw [st_10] at hw
    dsimp only at hw
    obtain ⟨rfl, rfl, rfl⟩ := hw
    have B : WB g (aw N ad sz) s.heap N ad (mg g ad y cr dr 1 kn rf pl pz mc) H locs := B
    refine lv_if_eq (tgt := 31) hx hb dX4_plus_24 (by decide) (fun z => absurd z (by decide)) (fun _ => ?_)
    refine lv_iconst (v := 0) hx hb dX4_plus_27 (by decide) ?_
    refine lv_goto (tgt := 52) hx hb dX4_plus_28 (by decide) ?_
    have ev := (show v_X4_plus cr rf a1 a2 = (0, cr, 1, rf) from by unfold v_X4_plus; rw [if_neg c2])
    exact rt_i X hr (ad, mg g ad y cr dr 1 kn rf pl pz mc) B (PO_of B) ⟨(fun _ _ _ => rfl), by rw [ev], by rw [ev]⟩ rfl (Nat.le_of_ble_eq_true rfl) (Nat.le_of_ble_eq_true rfl) dX4_plus_52
  · refine lv_iload_n hx hb dX4_plus_8 rfl (lv_at hl 2 rfl) ?_
    refine k_i (k := 0) (n := 0) hA B (u_S (rest := [.ref b0]) X (c_X4_isNone l g N ad (mg g ad y cr dr th kn rf pl pz mc) a2 H.size) mw_X4_isNone md_X4_isNone rfl lk_X4_95 ⟨Nat.le_of_ble_eq_true rfl, Nat.le_of_ble_eq_true rfl⟩ hA hK hT B hl.1 rfl (Nat.le_of_ble_eq_true rfl) dX4_plus_9 ⟨Nat.le_of_ble_eq_true rfl, Nat.le_of_ble_eq_true rfl⟩) (Nat.le_of_ble_eq_true rfl) (Nat.le_of_ble_eq_true rfl) (fun r3 ad3 f' H locs hw B => ?_)
    obtain ⟨rfl, rfl, rfl⟩ := hw
    refine lv_if_eq (tgt := 19) hx hb dX4_plus_12 (by decide) (fun c4 => ?_) (fun c4 => ?_)
    · refine lv_iconst (v := 0) hx hb dX4_plus_19 (by decide) ?_
      refine lv_iconst (v := 0) hx hb dX4_plus_20 (by decide) ?_
      refine k_i (k := 0) (n := 0) hA B (b_V (q := 24) (rest := []) hb0 X (c_X4_stops l g N ad y cr dr th kn rf pl pz mc (by omega) b0 hb0 0 0 H.size) mw_X4_stops md_X4_stops rfl lk_X4_99 ⟨Nat.le_of_ble_eq_true rfl, Nat.le_of_ble_eq_true rfl⟩ hA hK hT B (by omega) mg_24 rfl rfl hl.1 rfl (Nat.le_of_ble_eq_true rfl) dX4_plus_21 ⟨Nat.le_of_ble_eq_true rfl, Nat.le_of_ble_eq_true rfl⟩) (Nat.le_of_ble_eq_true rfl) (Nat.le_of_ble_eq_true rfl) (fun r ad' f' H locs hw B => ?_)
      rw [st_00] at hw
      dsimp only at hw
      obtain ⟨rfl, rfl, rfl⟩ := hw
      have B : WB g (aw N ad sz) s.heap N ad (mg g ad y cr dr 0 kn rf pl pz mc) H locs := B
      refine lv_if_eq (tgt := 31) hx hb dX4_plus_24 (by decide) (fun _ => ?_) (fun z => absurd z (by decide))
      refine lv_aload_n hx hb dX4_plus_31 rfl (lv_at hl 0 rfl) ?_
      refine lv_iload_n hx hb dX4_plus_32 rfl (lv_at hl 1 rfl) ?_
      refine lv_aload_n hx hb dX4_plus_33 rfl (lv_at hl 0 rfl) ?_
      refine b_get (q := 24) (k := 1) hb0 X hK B rfl in_X4 (by omega) mg_24 (by decide) lk_X4_11 rfl rfl dX4_plus_34 ?_
      refine lv_iload_n hx hb dX4_plus_37 rfl (lv_at hl 1 rfl) ?_
      refine b_aald (q := 25) (t0 := 2) (v := ad (28 + a1.toNatClampNeg)) rfl X hK B (by omega) mg_25 rfl rfl (no_in c2) rfl dX4_plus_38 ?_
      have g5 : a1.toNatClampNeg < 4 := (no_lt c2)
      refine lv_lconst (v := 1) hx hb dX4_plus_39 (by decide) ?_
      refine lv_aload_n hx hb dX4_plus_40 rfl (lv_at hl 0 rfl) ?_
      refine b_get (q := 24) (k := 1) hb0 X hK B rfl in_X4 (by omega) mg_24 (by decide) lk_X4_11 rfl rfl dX4_plus_41 ?_
      refine lv_iload_n hx hb dX4_plus_44 rfl (lv_at hl 2 rfl) ?_
      refine b_aald (q := 25) (t0 := 2) (v := ad (28 + a2.toNatClampNeg)) rfl X hK B (by omega) mg_25 rfl rfl (no_in c4) rfl dX4_plus_45 ?_
      have g6 : a2.toNatClampNeg < 4 := (no_lt c4)
      refine k_r (k := 1) (n := 3) hA B (u_S (rest := [.int a1, .ref b0]) X (c_X4_sum l g N ad (mg g ad y cr dr 0 kn rf pl pz mc) (28 + a1.toNatClampNeg) (ad (28 + a1.toNatClampNeg)) (cr a1.toNatClampNeg) (pl_cr hN g5) rfl (mg_cr g5) 1 (28 + a2.toNatClampNeg) (ad (28 + a2.toNatClampNeg)) (cr a2.toNatClampNeg) (pl_cr hN g6) rfl (mg_cr g6) H.size) mw_X4_sum md_X4_sum rfl lk_X4_57 ⟨Nat.le_of_ble_eq_true rfl, Nat.le_of_ble_eq_true rfl⟩ hA hK hT B hl.1 rfl (Nat.le_of_ble_eq_true rfl) dX4_plus_46 ⟨Nat.le_of_ble_eq_true rfl, Nat.le_of_ble_eq_true rfl⟩) (Nat.le_of_ble_eq_true rfl) (Nat.le_of_ble_eq_true rfl) (fun r7 ad7 f' H locs hw B => ?_)
      generalize o8 : (v_X4_sum (cr a1.toNatClampNeg) 1 (cr a2.toNatClampNeg)) = v9 at hw B
      cases v9 with
      | none =>
        obtain ⟨rfl, rfl, rfl⟩ := pw_n hw
        refine k_i (k := 1) (n := 3) hA B (b_V (q := 24) (rest := []) hb0 X (c_X4_getN l g N ad y cr dr 0 kn rf pl pz mc (by omega) b0 hb0 a1 H.size) mw_X4_get md_X4_get rfl lk_X4_103 ⟨Nat.le_of_ble_eq_true rfl, Nat.le_of_ble_eq_true rfl⟩ hA hK hT B (by omega) mg_24 rfl rfl hl.1 rfl (Nat.le_of_ble_eq_true rfl) dX4_plus_49 ⟨Nat.le_of_ble_eq_true rfl, Nat.le_of_ble_eq_true rfl⟩) (Nat.le_of_ble_eq_true rfl) (Nat.le_of_ble_eq_true rfl) (fun r9 ad9 f' H locs hw B => ?_)
        obtain ⟨rfl, rfl, rfl⟩ := hw
        have ev := (show v_X4_plus cr rf a1 a2 = ((v_X4_getN rf).1, cr, 0, (v_X4_getN rf).2) from by unfold v_X4_plus; rw [if_pos c2, if_pos c4, om_none o8])
        exact rt_i X hr (ad, mg g ad y cr dr 0 kn (v_X4_getN rf).2 pl pz mc) B (PO_of B) ⟨(fun _ _ _ => rfl), by rw [ev], by rw [ev]⟩ rfl (Nat.le_of_ble_eq_true rfl) (Nat.le_of_ble_eq_true rfl) dX4_plus_52
      | some t8 =>
        obtain ⟨z8, rfl, rfl, rfl⟩ := pw_s hw
        have B : WB g (aw N ad sz) s.heap (N + 1) (va_up ad N z8) (mg g (va_up ad N z8) (va_up y N (c_row g t8)) cr dr 0 kn rf pl pz mc) H locs := WM_push (by omega) B
        refine k_i (k := 2) (n := 6) hA B (b_V (q := 24) (rest := []) ((up_lt (by omega)).trans hb0) X (c_X4_get l g (N + 1) (va_up ad N z8) (va_up y N (c_row g t8)) cr dr 0 kn rf pl pz mc (by omega) b0 ((up_lt (by omega)).trans hb0) a1 N z8 t8 (Nat.lt_succ_self _) up_eq ((mg_hi (by omega)).trans up_eq) c2 H.size) mw_X4_get md_X4_get rfl lk_X4_103 ⟨Nat.le_of_ble_eq_true rfl, Nat.le_of_ble_eq_true rfl⟩ hA hK hT B (by omega) mg_24 rfl rfl hl.1 rfl (Nat.le_of_ble_eq_true rfl) dX4_plus_49 ⟨Nat.le_of_ble_eq_true rfl, Nat.le_of_ble_eq_true rfl⟩) (Nat.le_of_ble_eq_true rfl) (Nat.le_of_ble_eq_true rfl) (fun r10 ad10 f' H locs hw B => ?_)
        dsimp only at hw
        obtain ⟨mv11, rfl, rfl⟩ := hw
        have B : WB g (aw N ad sz) s.heap N ad10 (mg g ad10 y (v_X4_get cr a1 t8).2 dr 0 kn rf pl pz mc) H locs := WM_drop B (by omega) (by omega) (fun _ _ => rfl) (fun _ hk => (up_lt hk))
        have kk12 : ∀ k, k < N → k < 28 ∨ 36 ≤ k → ad10 k = ad k := fun k hk hkq => (mv11 k (by omega) hkq).trans (((fun _ hk => (up_lt hk)) k hk).trans rfl)
        have nb13 : ad10 24 = b0 := (mv11 24 (by omega) (Or.inl (by decide))).trans ((up_lt (by omega)).trans hb0)
        have ev := (show v_X4_plus cr rf a1 a2 = ((v_X4_get cr a1 t8).1, (v_X4_get cr a1 t8).2, 0, rf) from by unfold v_X4_plus; rw [if_pos c2, if_pos c4, om_some o8])
        exact rt_i X hr (ad10, mg g ad10 y (v_X4_get cr a1 t8).2 dr 0 kn rf pl pz mc) B (PO_of B) ⟨kk12, by rw [ev], by rw [ev]⟩ rfl (Nat.le_of_ble_eq_true rfl) (Nat.le_of_ble_eq_true rfl) dX4_plus_52
    · refine lv_iconst (v := 1) hx hb dX4_plus_15 (by decide) ?_
      refine lv_goto (tgt := 20) hx hb dX4_plus_16 (by decide) ?_
      refine lv_iconst (v := 0) hx hb dX4_plus_20 (by decide) ?_
      refine k_i (k := 0) (n := 0) hA B (b_V (q := 24) (rest := []) hb0 X (c_X4_stops l g N ad y cr dr th kn rf pl pz mc (by omega) b0 hb0 1 0 H.size) mw_X4_stops md_X4_stops rfl lk_X4_99 ⟨Nat.le_of_ble_eq_true rfl, Nat.le_of_ble_eq_true rfl⟩ hA hK hT B (by omega) mg_24 rfl rfl hl.1 rfl (Nat.le_of_ble_eq_true rfl) dX4_plus_21 ⟨Nat.le_of_ble_eq_true rfl, Nat.le_of_ble_eq_true rfl⟩) (Nat.le_of_ble_eq_true rfl) (Nat.le_of_ble_eq_true rfl) (fun r ad' f' H locs hw B => ?_)
      rw [st_10] at hw
      dsimp only at hw
      obtain ⟨rfl, rfl, rfl⟩ := hw
      have B : WB g (aw N ad sz) s.heap N ad (mg g ad y cr dr 1 kn rf pl pz mc) H locs := B
      refine lv_if_eq (tgt := 31) hx hb dX4_plus_24 (by decide) (fun z => absurd z (by decide)) (fun _ => ?_)
      refine lv_iconst (v := 0) hx hb dX4_plus_27 (by decide) ?_
      refine lv_goto (tgt := 52) hx hb dX4_plus_28 (by decide) ?_
      have ev := (show v_X4_plus cr rf a1 a2 = (0, cr, 1, rf) from by unfold v_X4_plus; rw [if_pos c2, if_neg c4])
      exact rt_i X hr (ad, mg g ad y cr dr 1 kn rf pl pz mc) B (PO_of B) ⟨(fun _ _ _ => rfl), by rw [ev], by rw [ev]⟩ rfl (Nat.le_of_ble_eq_true rfl) (Nat.le_of_ble_eq_true rfl) dX4_plus_52
def v_X4_minus (cr : Nat → TR) (rf : Int32) (a1 : Int32) (a2 : Int32) : Int32 × (Nat → TR) × Int32 × Int32 := if (v_X4_isNone a1) = 0 then (if (v_X4_isNone a2) = 0 then (om (v_X4_sum (cr a1.toNatClampNeg) (-1) (cr a2.toNatClampNeg)) ((v_X4_getN rf).1, cr, 0, (v_X4_getN rf).2) (fun t8 => ((v_X4_get cr a1 t8).1, (v_X4_get cr a1 t8).2, 0, rf))) else (0, cr, 1, rf)) else (0, cr, 1, rf)
set_option maxHeartbeats 4000000 in
set_option maxRecDepth 100000 in
theorem c_X4_minus (l : Launch) (g : GG) (N : Nat) (ad : Nat → Nat) (y : Nat → va_E) (cr dr : Nat → TR) (th kn rf : Int32) (pl : Nat → TR) (pz : Nat) (mc : Int32) (hN : 36 + pz ≤ N) (b0 : Nat) (hb0 : ad 24 = b0) (a1 : Int32) (a2 : Int32) : KI l yX4_minus cX4_minus 3 (some .int) (rm 3 2 6) g [.ref b0, .int a1, .int a2] N ad (mg g ad y cr dr th kn rf pl pz mc) N (fun r ad' f' => (∀ k, k < N → k < 28 ∨ 36 ≤ k → ad' k = ad k) ∧ (v_X4_minus cr rf a1 a2).1 = r ∧ mg g ad' y (v_X4_minus cr rf a1 a2).2.1 dr (v_X4_minus cr rf a1 a2).2.2.1 kn (v_X4_minus cr rf a1 a2).2.2.2 pl pz mc = f') := by
  intro sz
  refine mt_start (by decide) (Nat.le_of_ble_eq_true rfl) ?_
  intro p e s m args below meth c hsz X hr hnam hA hK hT H locs B ls hl
  obtain ⟨hx, hb, hml, hown, hts, hlocks⟩ := id X
  have hl : lv_has ls 3 [(0, .ref b0), (1, .int a1), (2, .int a2)] := hl
  refine lv_aload_n hx hb dX4_minus_0 rfl (lv_at hl 0 rfl) ?_
  refine lv_iload_n hx hb dX4_minus_1 rfl (lv_at hl 1 rfl) ?_
  refine k_i (k := 0) (n := 0) hA B (u_S (rest := [.ref b0]) X (c_X4_isNone l g N ad (mg g ad y cr dr th kn rf pl pz mc) a1 H.size) mw_X4_isNone md_X4_isNone rfl lk_X4_95 ⟨Nat.le_of_ble_eq_true rfl, Nat.le_of_ble_eq_true rfl⟩ hA hK hT B hl.1 rfl (Nat.le_of_ble_eq_true rfl) dX4_minus_2 ⟨Nat.le_of_ble_eq_true rfl, Nat.le_of_ble_eq_true rfl⟩) (Nat.le_of_ble_eq_true rfl) (Nat.le_of_ble_eq_true rfl) (fun r1 ad1 f' H locs hw B => ?_)
  obtain ⟨rfl, rfl, rfl⟩ := hw
  refine lv_if_ne (tgt := 15) hx hb dX4_minus_5 (by decide) (fun c2 => ?_) (fun c2 => ?_)
  · refine lv_iconst (v := 1) hx hb dX4_minus_15 (by decide) ?_
    refine lv_goto (tgt := 20) hx hb dX4_minus_16 (by decide) ?_
    refine lv_iconst (v := 0) hx hb dX4_minus_20 (by decide) ?_
    refine k_i (k := 0) (n := 0) hA B (b_V (q := 24) (rest := []) hb0 X (c_X4_stops l g N ad y cr dr th kn rf pl pz mc (by omega) b0 hb0 1 0 H.size) mw_X4_stops md_X4_stops rfl lk_X4_99 ⟨Nat.le_of_ble_eq_true rfl, Nat.le_of_ble_eq_true rfl⟩ hA hK hT B (by omega) mg_24 rfl rfl hl.1 rfl (Nat.le_of_ble_eq_true rfl) dX4_minus_21 ⟨Nat.le_of_ble_eq_true rfl, Nat.le_of_ble_eq_true rfl⟩) (Nat.le_of_ble_eq_true rfl) (Nat.le_of_ble_eq_true rfl) (fun r ad' f' H locs hw B => ?_)
    rw [st_10] at hw
    dsimp only at hw
    obtain ⟨rfl, rfl, rfl⟩ := hw
    have B : WB g (aw N ad sz) s.heap N ad (mg g ad y cr dr 1 kn rf pl pz mc) H locs := B
    refine lv_if_eq (tgt := 31) hx hb dX4_minus_24 (by decide) (fun z => absurd z (by decide)) (fun _ => ?_)
    refine lv_iconst (v := 0) hx hb dX4_minus_27 (by decide) ?_
    refine lv_goto (tgt := 54) hx hb dX4_minus_28 (by decide) ?_
    have ev := (show v_X4_minus cr rf a1 a2 = (0, cr, 1, rf) from by unfold v_X4_minus; rw [if_neg c2])
    exact rt_i X hr (ad, mg g ad y cr dr 1 kn rf pl pz mc) B (PO_of B) ⟨(fun _ _ _ => rfl), by rw [ev], by rw [ev]⟩ rfl (Nat.le_of_ble_eq_true rfl) (Nat.le_of_ble_eq_true rfl) dX4_minus_54
  · refine lv_iload_n hx hb dX4_minus_8 rfl (lv_at hl 2 rfl) ?_
    refine k_i (k := 0) (n := 0) hA B (u_S (rest := [.ref b0]) X (c_X4_isNone l g N ad (mg g ad y cr dr th kn rf pl pz mc) a2 H.size) mw_X4_isNone md_X4_isNone rfl lk_X4_95 ⟨Nat.le_of_ble_eq_true rfl, Nat.le_of_ble_eq_true rfl⟩ hA hK hT B hl.1 rfl (Nat.le_of_ble_eq_true rfl) dX4_minus_9 ⟨Nat.le_of_ble_eq_true rfl, Nat.le_of_ble_eq_true rfl⟩) (Nat.le_of_ble_eq_true rfl) (Nat.le_of_ble_eq_true rfl) (fun r3 ad3 f' H locs hw B => ?_)
    obtain ⟨rfl, rfl, rfl⟩ := hw
    refine lv_if_eq (tgt := 19) hx hb dX4_minus_12 (by decide) (fun c4 => ?_) (fun c4 => ?_)
    · refine lv_iconst (v := 0) hx hb dX4_minus_19 (by decide) ?_
      refine lv_iconst (v := 0) hx hb dX4_minus_20 (by decide) ?_
      refine k_i (k := 0) (n := 0) hA B (b_V (q := 24) (rest := []) hb0 X (c_X4_stops l g N ad y cr dr th kn rf pl pz mc (by omega) b0 hb0 0 0 H.size) mw_X4_stops md_X4_stops rfl lk_X4_99 ⟨Nat.le_of_ble_eq_true rfl, Nat.le_of_ble_eq_true rfl⟩ hA hK hT B (by omega) mg_24 rfl rfl hl.1 rfl (Nat.le_of_ble_eq_true rfl) dX4_minus_21 ⟨Nat.le_of_ble_eq_true rfl, Nat.le_of_ble_eq_true rfl⟩) (Nat.le_of_ble_eq_true rfl) (Nat.le_of_ble_eq_true rfl) (fun r ad' f' H locs hw B => ?_)
      rw [st_00] at hw
      dsimp only at hw
      obtain ⟨rfl, rfl, rfl⟩ := hw
      have B : WB g (aw N ad sz) s.heap N ad (mg g ad y cr dr 0 kn rf pl pz mc) H locs := B
      refine lv_if_eq (tgt := 31) hx hb dX4_minus_24 (by decide) (fun _ => ?_) (fun z => absurd z (by decide))
      refine lv_aload_n hx hb dX4_minus_31 rfl (lv_at hl 0 rfl) ?_
      refine lv_iload_n hx hb dX4_minus_32 rfl (lv_at hl 1 rfl) ?_
      refine lv_aload_n hx hb dX4_minus_33 rfl (lv_at hl 0 rfl) ?_
      refine b_get (q := 24) (k := 1) hb0 X hK B rfl in_X4 (by omega) mg_24 (by decide) lk_X4_11 rfl rfl dX4_minus_34 ?_
      refine lv_iload_n hx hb dX4_minus_37 rfl (lv_at hl 1 rfl) ?_
      refine b_aald (q := 25) (t0 := 2) (v := ad (28 + a1.toNatClampNeg)) rfl X hK B (by omega) mg_25 rfl rfl (no_in c2) rfl dX4_minus_38 ?_
      have g5 : a1.toNatClampNeg < 4 := (no_lt c2)
      refine lv_ldc2 hx hb hown (hts _ (List.mem_cons_of_mem _ lk_X4_55)) dX4_minus_39 ?_
      refine lv_aload_n hx hb dX4_minus_42 rfl (lv_at hl 0 rfl) ?_
      refine b_get (q := 24) (k := 1) hb0 X hK B rfl in_X4 (by omega) mg_24 (by decide) lk_X4_11 rfl rfl dX4_minus_43 ?_
      refine lv_iload_n hx hb dX4_minus_46 rfl (lv_at hl 2 rfl) ?_
      refine b_aald (q := 25) (t0 := 2) (v := ad (28 + a2.toNatClampNeg)) rfl X hK B (by omega) mg_25 rfl rfl (no_in c4) rfl dX4_minus_47 ?_
      have g6 : a2.toNatClampNeg < 4 := (no_lt c4)
      refine k_r (k := 1) (n := 3) hA B (u_S (rest := [.int a1, .ref b0]) X (c_X4_sum l g N ad (mg g ad y cr dr 0 kn rf pl pz mc) (28 + a1.toNatClampNeg) (ad (28 + a1.toNatClampNeg)) (cr a1.toNatClampNeg) (pl_cr hN g5) rfl (mg_cr g5) (-1) (28 + a2.toNatClampNeg) (ad (28 + a2.toNatClampNeg)) (cr a2.toNatClampNeg) (pl_cr hN g6) rfl (mg_cr g6) H.size) mw_X4_sum md_X4_sum rfl lk_X4_57 ⟨Nat.le_of_ble_eq_true rfl, Nat.le_of_ble_eq_true rfl⟩ hA hK hT B hl.1 rfl (Nat.le_of_ble_eq_true rfl) dX4_minus_48 ⟨Nat.le_of_ble_eq_true rfl, Nat.le_of_ble_eq_true rfl⟩) (Nat.le_of_ble_eq_true rfl) (Nat.le_of_ble_eq_true rfl) (fun r7 ad7 f' H locs hw B => ?_)
      generalize o8 : (v_X4_sum (cr a1.toNatClampNeg) (-1) (cr a2.toNatClampNeg)) = v9 at hw B
      cases v9 with
      | none =>
        obtain ⟨rfl, rfl, rfl⟩ := pw_n hw
        refine k_i (k := 1) (n := 3) hA B (b_V (q := 24) (rest := []) hb0 X (c_X4_getN l g N ad y cr dr 0 kn rf pl pz mc (by omega) b0 hb0 a1 H.size) mw_X4_get md_X4_get rfl lk_X4_103 ⟨Nat.le_of_ble_eq_true rfl, Nat.le_of_ble_eq_true rfl⟩ hA hK hT B (by omega) mg_24 rfl rfl hl.1 rfl (Nat.le_of_ble_eq_true rfl) dX4_minus_51 ⟨Nat.le_of_ble_eq_true rfl, Nat.le_of_ble_eq_true rfl⟩) (Nat.le_of_ble_eq_true rfl) (Nat.le_of_ble_eq_true rfl) (fun r9 ad9 f' H locs hw B => ?_)
        obtain ⟨rfl, rfl, rfl⟩ := hw
        have ev := (show v_X4_minus cr rf a1 a2 = ((v_X4_getN rf).1, cr, 0, (v_X4_getN rf).2) from by unfold v_X4_minus; rw [if_pos c2, if_pos c4, om_none o8])
        exact rt_i X hr (ad, mg g ad y cr dr 0 kn (v_X4_getN rf).2 pl pz mc) B (PO_of B) ⟨(fun _ _ _ => rfl), by rw [ev], by rw [ev]⟩ rfl (Nat.le_of_ble_eq_true rfl) (Nat.le_of_ble_eq_true rfl) dX4_minus_54
      | some t8 =>
        obtain ⟨z8, rfl, rfl, rfl⟩ := pw_s hw
        have B : WB g (aw N ad sz) s.heap (N + 1) (va_up ad N z8) (mg g (va_up ad N z8) (va_up y N (c_row g t8)) cr dr 0 kn rf pl pz mc) H locs := WM_push (by omega) B
        refine k_i (k := 2) (n := 6) hA B (b_V (q := 24) (rest := []) ((up_lt (by omega)).trans hb0) X (c_X4_get l g (N + 1) (va_up ad N z8) (va_up y N (c_row g t8)) cr dr 0 kn rf pl pz mc (by omega) b0 ((up_lt (by omega)).trans hb0) a1 N z8 t8 (Nat.lt_succ_self _) up_eq ((mg_hi (by omega)).trans up_eq) c2 H.size) mw_X4_get md_X4_get rfl lk_X4_103 ⟨Nat.le_of_ble_eq_true rfl, Nat.le_of_ble_eq_true rfl⟩ hA hK hT B (by omega) mg_24 rfl rfl hl.1 rfl (Nat.le_of_ble_eq_true rfl) dX4_minus_51 ⟨Nat.le_of_ble_eq_true rfl, Nat.le_of_ble_eq_true rfl⟩) (Nat.le_of_ble_eq_true rfl) (Nat.le_of_ble_eq_true rfl) (fun r10 ad10 f' H locs hw B => ?_)
        dsimp only at hw
        obtain ⟨mv11, rfl, rfl⟩ := hw
        have B : WB g (aw N ad sz) s.heap N ad10 (mg g ad10 y (v_X4_get cr a1 t8).2 dr 0 kn rf pl pz mc) H locs := WM_drop B (by omega) (by omega) (fun _ _ => rfl) (fun _ hk => (up_lt hk))
        have kk12 : ∀ k, k < N → k < 28 ∨ 36 ≤ k → ad10 k = ad k := fun k hk hkq => (mv11 k (by omega) hkq).trans (((fun _ hk => (up_lt hk)) k hk).trans rfl)
        have nb13 : ad10 24 = b0 := (mv11 24 (by omega) (Or.inl (by decide))).trans ((up_lt (by omega)).trans hb0)
        have ev := (show v_X4_minus cr rf a1 a2 = ((v_X4_get cr a1 t8).1, (v_X4_get cr a1 t8).2, 0, rf) from by unfold v_X4_minus; rw [if_pos c2, if_pos c4, om_some o8])
        exact rt_i X hr (ad10, mg g ad10 y (v_X4_get cr a1 t8).2 dr 0 kn rf pl pz mc) B (PO_of B) ⟨kk12, by rw [ev], by rw [ev]⟩ rfl (Nat.le_of_ble_eq_true rfl) (Nat.le_of_ble_eq_true rfl) dX4_minus_54
    · refine lv_iconst (v := 1) hx hb dX4_minus_15 (by decide) ?_
      refine lv_goto (tgt := 20) hx hb dX4_minus_16 (by decide) ?_
      refine lv_iconst (v := 0) hx hb dX4_minus_20 (by decide) ?_
      refine k_i (k := 0) (n := 0) hA B (b_V (q := 24) (rest := []) hb0 X (c_X4_stops l g N ad y cr dr th kn rf pl pz mc (by omega) b0 hb0 1 0 H.size) mw_X4_stops md_X4_stops rfl lk_X4_99 ⟨Nat.le_of_ble_eq_true rfl, Nat.le_of_ble_eq_true rfl⟩ hA hK hT B (by omega) mg_24 rfl rfl hl.1 rfl (Nat.le_of_ble_eq_true rfl) dX4_minus_21 ⟨Nat.le_of_ble_eq_true rfl, Nat.le_of_ble_eq_true rfl⟩) (Nat.le_of_ble_eq_true rfl) (Nat.le_of_ble_eq_true rfl) (fun r ad' f' H locs hw B => ?_)
      rw [st_10] at hw
      dsimp only at hw
      obtain ⟨rfl, rfl, rfl⟩ := hw
      have B : WB g (aw N ad sz) s.heap N ad (mg g ad y cr dr 1 kn rf pl pz mc) H locs := B
      refine lv_if_eq (tgt := 31) hx hb dX4_minus_24 (by decide) (fun z => absurd z (by decide)) (fun _ => ?_)
      refine lv_iconst (v := 0) hx hb dX4_minus_27 (by decide) ?_
      refine lv_goto (tgt := 54) hx hb dX4_minus_28 (by decide) ?_
      have ev := (show v_X4_minus cr rf a1 a2 = (0, cr, 1, rf) from by unfold v_X4_minus; rw [if_pos c2, if_neg c4])
      exact rt_i X hr (ad, mg g ad y cr dr 1 kn rf pl pz mc) B (PO_of B) ⟨(fun _ _ _ => rfl), by rw [ev], by rw [ev]⟩ rfl (Nat.le_of_ble_eq_true rfl) (Nat.le_of_ble_eq_true rfl) dX4_minus_54
def v_X4_multipliedBy (cr : Nat → TR) (rf : Int32) (a1 : Int32) (a2 : Int32) : Int32 × (Nat → TR) × Int32 × Int32 := if v_X4_isNone a1 = 0 then (om (v_X4_sum (v_X4_nothing) a2.toInt64 (cr a1.toNatClampNeg)) ((v_X4_getN rf).1, cr, 0, (v_X4_getN rf).2) (fun t7 => ((v_X4_get cr a1 t7).1, (v_X4_get cr a1 t7).2, 0, rf))) else (0, cr, 1, rf)
set_option maxHeartbeats 4000000 in
set_option maxRecDepth 100000 in
theorem c_X4_multipliedBy (l : Launch) (g : GG) (N : Nat) (ad : Nat → Nat) (y : Nat → va_E) (cr dr : Nat → TR) (th kn rf : Int32) (pl : Nat → TR) (pz : Nat) (mc : Int32) (hN : 36 + pz ≤ N) (b0 : Nat) (hb0 : ad 24 = b0) (a1 : Int32) (a2 : Int32) : KI l yX4_multipliedBy cX4_multipliedBy 3 (some .int) (rm 3 3 9) g [.ref b0, .int a1, .int a2] N ad (mg g ad y cr dr th kn rf pl pz mc) N (fun r ad' f' => (∀ k, k < N → k < 28 ∨ 36 ≤ k → ad' k = ad k) ∧ (v_X4_multipliedBy cr rf a1 a2).1 = r ∧ mg g ad' y (v_X4_multipliedBy cr rf a1 a2).2.1 dr (v_X4_multipliedBy cr rf a1 a2).2.2.1 kn (v_X4_multipliedBy cr rf a1 a2).2.2.2 pl pz mc = f') := by
  intro sz
  refine mt_start (by decide) (Nat.le_of_ble_eq_true rfl) ?_
  intro p e s m args below meth c hsz X hr hnam hA hK hT H locs B ls hl
  obtain ⟨hx, hb, hml, hown, hts, hlocks⟩ := id X
  have hl : lv_has ls 3 [(0, .ref b0), (1, .int a1), (2, .int a2)] := hl
  refine lv_aload_n hx hb dX4_multipliedBy_0 rfl (lv_at hl 0 rfl) ?_
  refine lv_iload_n hx hb dX4_multipliedBy_1 rfl (lv_at hl 1 rfl) ?_
  refine k_i (k := 0) (n := 0) hA B (u_S (rest := [.ref b0]) X (c_X4_isNone l g N ad (mg g ad y cr dr th kn rf pl pz mc) a1 H.size) mw_X4_isNone md_X4_isNone rfl lk_X4_95 ⟨Nat.le_of_ble_eq_true rfl, Nat.le_of_ble_eq_true rfl⟩ hA hK hT B hl.1 rfl (Nat.le_of_ble_eq_true rfl) dX4_multipliedBy_2 ⟨Nat.le_of_ble_eq_true rfl, Nat.le_of_ble_eq_true rfl⟩) (Nat.le_of_ble_eq_true rfl) (Nat.le_of_ble_eq_true rfl) (fun r1 ad1 f' H locs hw B => ?_)
  obtain ⟨rfl, rfl, rfl⟩ := hw
  refine lv_iconst (v := 0) hx hb dX4_multipliedBy_5 (by decide) ?_
  by_cases s2 : v_X4_isNone a1 = 0
  · rw [s2]
    refine k_i (k := 0) (n := 0) hA B (b_V (q := 24) (rest := []) hb0 X (c_X4_stops l g N ad y cr dr th kn rf pl pz mc (by omega) b0 hb0 0 0 H.size) mw_X4_stops md_X4_stops rfl lk_X4_99 ⟨Nat.le_of_ble_eq_true rfl, Nat.le_of_ble_eq_true rfl⟩ hA hK hT B (by omega) mg_24 rfl rfl hl.1 rfl (Nat.le_of_ble_eq_true rfl) dX4_multipliedBy_6 ⟨Nat.le_of_ble_eq_true rfl, Nat.le_of_ble_eq_true rfl⟩) (Nat.le_of_ble_eq_true rfl) (Nat.le_of_ble_eq_true rfl) (fun r ad' f' H locs hw B => ?_)
    rw [st_00] at hw
    dsimp only at hw
    obtain ⟨rfl, rfl, rfl⟩ := hw
    have B : WB g (aw N ad sz) s.heap N ad (mg g ad y cr dr 0 kn rf pl pz mc) H locs := B
    refine lv_if_eq (tgt := 16) hx hb dX4_multipliedBy_9 (by decide) (fun _ => ?_) (fun z => absurd z (by decide))
    refine lv_aload_n hx hb dX4_multipliedBy_16 rfl (lv_at hl 0 rfl) ?_
    refine lv_iload_n hx hb dX4_multipliedBy_17 rfl (lv_at hl 1 rfl) ?_
    refine k_r (k := 1) (n := 3) hA B (u_S (rest := [.int a1, .ref b0]) X (c_X4_nothing l g N ad (mg g ad y cr dr 0 kn rf pl pz mc) H.size) mw_X4_nothing md_X4_nothing rfl lk_X4_51 ⟨Nat.le_of_ble_eq_true rfl, Nat.le_of_ble_eq_true rfl⟩ hA hK hT B hl.1 rfl (Nat.le_of_ble_eq_true rfl) dX4_multipliedBy_18 ⟨Nat.le_of_ble_eq_true rfl, Nat.le_of_ble_eq_true rfl⟩) (Nat.le_of_ble_eq_true rfl) (Nat.le_of_ble_eq_true rfl) (fun r3 ad3 f' H locs hw B => ?_)
    obtain ⟨z4, rfl, rfl, rfl⟩ := hw
    have B : WB g (aw N ad sz) s.heap (N + 1) (va_up ad N z4) (mg g (va_up ad N z4) (va_up y N (c_row g (v_X4_nothing))) cr dr 0 kn rf pl pz mc) H locs := WM_push (by omega) B
    refine lv_iload_n hx hb dX4_multipliedBy_21 rfl (lv_at hl 2 rfl) ?_
    refine lv_i2l (v := a2.toInt64) hx hb dX4_multipliedBy_22 rfl ?_
    refine lv_aload_n hx hb dX4_multipliedBy_23 rfl (lv_at hl 0 rfl) ?_
    refine b_get (q := 24) (k := 1) ((up_lt (by omega)).trans hb0) X hK B rfl in_X4 (by omega) mg_24 (by decide) lk_X4_11 rfl rfl dX4_multipliedBy_24 ?_
    refine lv_iload_n hx hb dX4_multipliedBy_27 rfl (lv_at hl 1 rfl) ?_
    refine b_aald (q := 25) (t0 := 2) (v := (va_up ad N z4) (28 + a1.toNatClampNeg)) rfl X hK B (by omega) mg_25 rfl rfl (no_in s2) rfl dX4_multipliedBy_28 ?_
    have g5 : a1.toNatClampNeg < 4 := (no_lt s2)
    rw [show (va_up ad N z4) (28 + a1.toNatClampNeg) = ad (28 + a1.toNatClampNeg) from (up_lt (by omega))]
    refine k_r (k := 2) (n := 6) hA B (u_S (rest := [.int a1, .ref b0]) X (c_X4_sum l g (N + 1) (va_up ad N z4) (mg g (va_up ad N z4) (va_up y N (c_row g (v_X4_nothing))) cr dr 0 kn rf pl pz mc) N z4 (v_X4_nothing) (Nat.lt_succ_self _) up_eq ((mg_hi (by omega)).trans up_eq) a2.toInt64 (28 + a1.toNatClampNeg) (ad (28 + a1.toNatClampNeg)) (cr a1.toNatClampNeg) (Nat.lt_succ_of_lt (pl_cr hN g5)) ((up_lt (pl_cr hN g5)).trans rfl) (mg_cr g5) H.size) mw_X4_sum md_X4_sum rfl lk_X4_57 ⟨Nat.le_of_ble_eq_true rfl, Nat.le_of_ble_eq_true rfl⟩ hA hK hT B hl.1 rfl (Nat.le_of_ble_eq_true rfl) dX4_multipliedBy_29 ⟨Nat.le_of_ble_eq_true rfl, Nat.le_of_ble_eq_true rfl⟩) (Nat.le_of_ble_eq_true rfl) (Nat.le_of_ble_eq_true rfl) (fun r6 ad6 f' H locs hw B => ?_)
    generalize o7 : (v_X4_sum (v_X4_nothing) a2.toInt64 (cr a1.toNatClampNeg)) = v9 at hw B
    cases v9 with
    | none =>
      obtain ⟨rfl, rfl, rfl⟩ := pw_n hw
      refine k_i (k := 2) (n := 6) hA B (b_V (q := 24) (rest := []) ((up_lt (by omega)).trans hb0) X (c_X4_getN l g (N + 1) (va_up ad N z4) (va_up y N (c_row g (v_X4_nothing))) cr dr 0 kn rf pl pz mc (by omega) b0 ((up_lt (by omega)).trans hb0) a1 H.size) mw_X4_get md_X4_get rfl lk_X4_103 ⟨Nat.le_of_ble_eq_true rfl, Nat.le_of_ble_eq_true rfl⟩ hA hK hT B (by omega) mg_24 rfl rfl hl.1 rfl (Nat.le_of_ble_eq_true rfl) dX4_multipliedBy_32 ⟨Nat.le_of_ble_eq_true rfl, Nat.le_of_ble_eq_true rfl⟩) (Nat.le_of_ble_eq_true rfl) (Nat.le_of_ble_eq_true rfl) (fun r8 ad8 f' H locs hw B => ?_)
      obtain ⟨rfl, rfl, rfl⟩ := hw
      have B : WB g (aw N ad sz) s.heap N ad (mg g ad y cr dr 0 kn (v_X4_getN rf).2 pl pz mc) H locs := WM_drop B (by omega) (by omega) (fun _ hk => (up_lt hk)) (fun _ hk => (up_lt hk))
      have ev := (show v_X4_multipliedBy cr rf a1 a2 = ((v_X4_getN rf).1, cr, 0, (v_X4_getN rf).2) from by unfold v_X4_multipliedBy; rw [if_pos s2, om_none o7])
      exact rt_i X hr (ad, mg g ad y cr dr 0 kn (v_X4_getN rf).2 pl pz mc) B (PO_of B) ⟨(fun _ _ _ => rfl), by rw [ev], by rw [ev]⟩ rfl (Nat.le_of_ble_eq_true rfl) (Nat.le_of_ble_eq_true rfl) dX4_multipliedBy_35
    | some t7 =>
      obtain ⟨z7, rfl, rfl, rfl⟩ := pw_s hw
      have B : WB g (aw N ad sz) s.heap (N + 1 + 1) (va_up (va_up ad N z4) (N + 1) z7) (mg g (va_up (va_up ad N z4) (N + 1) z7) (va_up (va_up y N (c_row g (v_X4_nothing))) (N + 1) (c_row g t7)) cr dr 0 kn rf pl pz mc) H locs := WM_push (by omega) B
      refine k_i (k := 3) (n := 9) hA B (b_V (q := 24) (rest := []) ((up_lt (by omega)).trans ((up_lt (by omega)).trans hb0)) X (c_X4_get l g (N + 1 + 1) (va_up (va_up ad N z4) (N + 1) z7) (va_up (va_up y N (c_row g (v_X4_nothing))) (N + 1) (c_row g t7)) cr dr 0 kn rf pl pz mc (by omega) b0 ((up_lt (by omega)).trans ((up_lt (by omega)).trans hb0)) a1 (N + 1) z7 t7 (Nat.lt_succ_self _) up_eq ((mg_hi (by omega)).trans up_eq) s2 H.size) mw_X4_get md_X4_get rfl lk_X4_103 ⟨Nat.le_of_ble_eq_true rfl, Nat.le_of_ble_eq_true rfl⟩ hA hK hT B (by omega) mg_24 rfl rfl hl.1 rfl (Nat.le_of_ble_eq_true rfl) dX4_multipliedBy_32 ⟨Nat.le_of_ble_eq_true rfl, Nat.le_of_ble_eq_true rfl⟩) (Nat.le_of_ble_eq_true rfl) (Nat.le_of_ble_eq_true rfl) (fun r9 ad9 f' H locs hw B => ?_)
      dsimp only at hw
      obtain ⟨mv10, rfl, rfl⟩ := hw
      have B : WB g (aw N ad sz) s.heap N ad9 (mg g ad9 y (v_X4_get cr a1 t7).2 dr 0 kn rf pl pz mc) H locs := WM_drop B (by omega) (by omega) (fun _ _ => rfl) (fun _ hk => ((up_lt (Nat.lt_succ_of_lt hk)).trans (up_lt hk)))
      have kk11 : ∀ k, k < N → k < 28 ∨ 36 ≤ k → ad9 k = ad k := fun k hk hkq => (mv10 k (by omega) hkq).trans (((fun _ hk => ((up_lt (Nat.lt_succ_of_lt hk)).trans (up_lt hk))) k hk).trans rfl)
      have nb12 : ad9 24 = b0 := (mv10 24 (by omega) (Or.inl (by decide))).trans ((up_lt (by omega)).trans ((up_lt (by omega)).trans hb0))
      have ev := (show v_X4_multipliedBy cr rf a1 a2 = ((v_X4_get cr a1 t7).1, (v_X4_get cr a1 t7).2, 0, rf) from by unfold v_X4_multipliedBy; rw [if_pos s2, om_some o7])
      exact rt_i X hr (ad9, mg g ad9 y (v_X4_get cr a1 t7).2 dr 0 kn rf pl pz mc) B (PO_of B) ⟨kk11, by rw [ev], by rw [ev]⟩ rfl (Nat.le_of_ble_eq_true rfl) (Nat.le_of_ble_eq_true rfl) dX4_multipliedBy_35
  · have s2x : (v_X4_isNone a1) = 1 := (b01_X4_isNone).resolve_left s2
    rw [s2x]
    refine k_i (k := 0) (n := 0) hA B (b_V (q := 24) (rest := []) hb0 X (c_X4_stops l g N ad y cr dr th kn rf pl pz mc (by omega) b0 hb0 1 0 H.size) mw_X4_stops md_X4_stops rfl lk_X4_99 ⟨Nat.le_of_ble_eq_true rfl, Nat.le_of_ble_eq_true rfl⟩ hA hK hT B (by omega) mg_24 rfl rfl hl.1 rfl (Nat.le_of_ble_eq_true rfl) dX4_multipliedBy_6 ⟨Nat.le_of_ble_eq_true rfl, Nat.le_of_ble_eq_true rfl⟩) (Nat.le_of_ble_eq_true rfl) (Nat.le_of_ble_eq_true rfl) (fun r ad' f' H locs hw B => ?_)
    rw [st_10] at hw
    dsimp only at hw
    obtain ⟨rfl, rfl, rfl⟩ := hw
    have B : WB g (aw N ad sz) s.heap N ad (mg g ad y cr dr 1 kn rf pl pz mc) H locs := B
    refine lv_if_eq (tgt := 16) hx hb dX4_multipliedBy_9 (by decide) (fun z => absurd z (by decide)) (fun _ => ?_)
    refine lv_iconst (v := 0) hx hb dX4_multipliedBy_12 (by decide) ?_
    refine lv_goto (tgt := 35) hx hb dX4_multipliedBy_13 (by decide) ?_
    have ev := (show v_X4_multipliedBy cr rf a1 a2 = (0, cr, 1, rf) from by unfold v_X4_multipliedBy; rw [if_neg s2])
    exact rt_i X hr (ad, mg g ad y cr dr 1 kn rf pl pz mc) B (PO_of B) ⟨(fun _ _ _ => rfl), by rw [ev], by rw [ev]⟩ rfl (Nat.le_of_ble_eq_true rfl) (Nat.le_of_ble_eq_true rfl) dX4_multipliedBy_35
def v_X4_negated (cr : Nat → TR) (rf : Int32) (a1 : Int32) : Int32 × (Nat → TR) × Int32 × Int32 := if v_X4_isNone a1 = 0 then (om (v_X4_opposed (cr a1.toNatClampNeg)) ((v_X4_getN rf).1, cr, 0, (v_X4_getN rf).2) (fun t5 => ((v_X4_get cr a1 t5).1, (v_X4_get cr a1 t5).2, 0, rf))) else (0, cr, 1, rf)
set_option maxHeartbeats 4000000 in
set_option maxRecDepth 100000 in
theorem c_X4_negated (l : Launch) (g : GG) (N : Nat) (ad : Nat → Nat) (y : Nat → va_E) (cr dr : Nat → TR) (th kn rf : Int32) (pl : Nat → TR) (pz : Nat) (mc : Int32) (hN : 36 + pz ≤ N) (b0 : Nat) (hb0 : ad 24 = b0) (a1 : Int32) : KI l yX4_negated cX4_negated 2 (some .int) (rm 4 3 9) g [.ref b0, .int a1] N ad (mg g ad y cr dr th kn rf pl pz mc) N (fun r ad' f' => (∀ k, k < N → k < 28 ∨ 36 ≤ k → ad' k = ad k) ∧ (v_X4_negated cr rf a1).1 = r ∧ mg g ad' y (v_X4_negated cr rf a1).2.1 dr (v_X4_negated cr rf a1).2.2.1 kn (v_X4_negated cr rf a1).2.2.2 pl pz mc = f') := by
  intro sz
  refine mt_start (by decide) (Nat.le_of_ble_eq_true rfl) ?_
  intro p e s m args below meth c hsz X hr hnam hA hK hT H locs B ls hl
  obtain ⟨hx, hb, hml, hown, hts, hlocks⟩ := id X
  have hl : lv_has ls 2 [(0, .ref b0), (1, .int a1)] := hl
  refine lv_aload_n hx hb dX4_negated_0 rfl (lv_at hl 0 rfl) ?_
  refine lv_iload_n hx hb dX4_negated_1 rfl (lv_at hl 1 rfl) ?_
  refine k_i (k := 0) (n := 0) hA B (u_S (rest := [.ref b0]) X (c_X4_isNone l g N ad (mg g ad y cr dr th kn rf pl pz mc) a1 H.size) mw_X4_isNone md_X4_isNone rfl lk_X4_95 ⟨Nat.le_of_ble_eq_true rfl, Nat.le_of_ble_eq_true rfl⟩ hA hK hT B hl.1 rfl (Nat.le_of_ble_eq_true rfl) dX4_negated_2 ⟨Nat.le_of_ble_eq_true rfl, Nat.le_of_ble_eq_true rfl⟩) (Nat.le_of_ble_eq_true rfl) (Nat.le_of_ble_eq_true rfl) (fun r1 ad1 f' H locs hw B => ?_)
  obtain ⟨rfl, rfl, rfl⟩ := hw
  refine lv_iconst (v := 0) hx hb dX4_negated_5 (by decide) ?_
  by_cases s2 : v_X4_isNone a1 = 0
  · rw [s2]
    refine k_i (k := 0) (n := 0) hA B (b_V (q := 24) (rest := []) hb0 X (c_X4_stops l g N ad y cr dr th kn rf pl pz mc (by omega) b0 hb0 0 0 H.size) mw_X4_stops md_X4_stops rfl lk_X4_99 ⟨Nat.le_of_ble_eq_true rfl, Nat.le_of_ble_eq_true rfl⟩ hA hK hT B (by omega) mg_24 rfl rfl hl.1 rfl (Nat.le_of_ble_eq_true rfl) dX4_negated_6 ⟨Nat.le_of_ble_eq_true rfl, Nat.le_of_ble_eq_true rfl⟩) (Nat.le_of_ble_eq_true rfl) (Nat.le_of_ble_eq_true rfl) (fun r ad' f' H locs hw B => ?_)
    rw [st_00] at hw
    dsimp only at hw
    obtain ⟨rfl, rfl, rfl⟩ := hw
    have B : WB g (aw N ad sz) s.heap N ad (mg g ad y cr dr 0 kn rf pl pz mc) H locs := B
    refine lv_if_eq (tgt := 16) hx hb dX4_negated_9 (by decide) (fun _ => ?_) (fun z => absurd z (by decide))
    refine lv_aload_n hx hb dX4_negated_16 rfl (lv_at hl 0 rfl) ?_
    refine lv_iload_n hx hb dX4_negated_17 rfl (lv_at hl 1 rfl) ?_
    refine lv_aload_n hx hb dX4_negated_18 rfl (lv_at hl 0 rfl) ?_
    refine b_get (q := 24) (k := 1) hb0 X hK B rfl in_X4 (by omega) mg_24 (by decide) lk_X4_11 rfl rfl dX4_negated_19 ?_
    refine lv_iload_n hx hb dX4_negated_22 rfl (lv_at hl 1 rfl) ?_
    refine b_aald (q := 25) (t0 := 2) (v := ad (28 + a1.toNatClampNeg)) rfl X hK B (by omega) mg_25 rfl rfl (no_in s2) rfl dX4_negated_23 ?_
    have g3 : a1.toNatClampNeg < 4 := (no_lt s2)
    refine k_r (k := 2) (n := 6) hA B (u_S (rest := [.int a1, .ref b0]) X (c_X4_opposed l g N ad (mg g ad y cr dr 0 kn rf pl pz mc) (28 + a1.toNatClampNeg) (ad (28 + a1.toNatClampNeg)) (cr a1.toNatClampNeg) (pl_cr hN g3) rfl (mg_cr g3) H.size) mw_X4_opposed md_X4_opposed rfl lk_X4_121 ⟨Nat.le_of_ble_eq_true rfl, Nat.le_of_ble_eq_true rfl⟩ hA hK hT B hl.1 rfl (Nat.le_of_ble_eq_true rfl) dX4_negated_24 ⟨Nat.le_of_ble_eq_true rfl, Nat.le_of_ble_eq_true rfl⟩) (Nat.le_of_ble_eq_true rfl) (Nat.le_of_ble_eq_true rfl) (fun r4 ad4 f' H locs hw B => ?_)
    generalize o5 : (v_X4_opposed (cr a1.toNatClampNeg)) = v9 at hw B
    cases v9 with
    | none =>
      obtain ⟨rfl, rfl, rfl⟩ := pw_n hw
      refine k_i (k := 2) (n := 6) hA B (b_V (q := 24) (rest := []) hb0 X (c_X4_getN l g N ad y cr dr 0 kn rf pl pz mc (by omega) b0 hb0 a1 H.size) mw_X4_get md_X4_get rfl lk_X4_103 ⟨Nat.le_of_ble_eq_true rfl, Nat.le_of_ble_eq_true rfl⟩ hA hK hT B (by omega) mg_24 rfl rfl hl.1 rfl (Nat.le_of_ble_eq_true rfl) dX4_negated_27 ⟨Nat.le_of_ble_eq_true rfl, Nat.le_of_ble_eq_true rfl⟩) (Nat.le_of_ble_eq_true rfl) (Nat.le_of_ble_eq_true rfl) (fun r6 ad6 f' H locs hw B => ?_)
      obtain ⟨rfl, rfl, rfl⟩ := hw
      have ev := (show v_X4_negated cr rf a1 = ((v_X4_getN rf).1, cr, 0, (v_X4_getN rf).2) from by unfold v_X4_negated; rw [if_pos s2, om_none o5])
      exact rt_i X hr (ad, mg g ad y cr dr 0 kn (v_X4_getN rf).2 pl pz mc) B (PO_of B) ⟨(fun _ _ _ => rfl), by rw [ev], by rw [ev]⟩ rfl (Nat.le_of_ble_eq_true rfl) (Nat.le_of_ble_eq_true rfl) dX4_negated_30
    | some t5 =>
      obtain ⟨z5, rfl, rfl, rfl⟩ := pw_s hw
      have B : WB g (aw N ad sz) s.heap (N + 1) (va_up ad N z5) (mg g (va_up ad N z5) (va_up y N (c_row g t5)) cr dr 0 kn rf pl pz mc) H locs := WM_push (by omega) B
      refine k_i (k := 3) (n := 9) hA B (b_V (q := 24) (rest := []) ((up_lt (by omega)).trans hb0) X (c_X4_get l g (N + 1) (va_up ad N z5) (va_up y N (c_row g t5)) cr dr 0 kn rf pl pz mc (by omega) b0 ((up_lt (by omega)).trans hb0) a1 N z5 t5 (Nat.lt_succ_self _) up_eq ((mg_hi (by omega)).trans up_eq) s2 H.size) mw_X4_get md_X4_get rfl lk_X4_103 ⟨Nat.le_of_ble_eq_true rfl, Nat.le_of_ble_eq_true rfl⟩ hA hK hT B (by omega) mg_24 rfl rfl hl.1 rfl (Nat.le_of_ble_eq_true rfl) dX4_negated_27 ⟨Nat.le_of_ble_eq_true rfl, Nat.le_of_ble_eq_true rfl⟩) (Nat.le_of_ble_eq_true rfl) (Nat.le_of_ble_eq_true rfl) (fun r7 ad7 f' H locs hw B => ?_)
      dsimp only at hw
      obtain ⟨mv8, rfl, rfl⟩ := hw
      have B : WB g (aw N ad sz) s.heap N ad7 (mg g ad7 y (v_X4_get cr a1 t5).2 dr 0 kn rf pl pz mc) H locs := WM_drop B (by omega) (by omega) (fun _ _ => rfl) (fun _ hk => (up_lt hk))
      have kk9 : ∀ k, k < N → k < 28 ∨ 36 ≤ k → ad7 k = ad k := fun k hk hkq => (mv8 k (by omega) hkq).trans (((fun _ hk => (up_lt hk)) k hk).trans rfl)
      have nb10 : ad7 24 = b0 := (mv8 24 (by omega) (Or.inl (by decide))).trans ((up_lt (by omega)).trans hb0)
      have ev := (show v_X4_negated cr rf a1 = ((v_X4_get cr a1 t5).1, (v_X4_get cr a1 t5).2, 0, rf) from by unfold v_X4_negated; rw [if_pos s2, om_some o5])
      exact rt_i X hr (ad7, mg g ad7 y (v_X4_get cr a1 t5).2 dr 0 kn rf pl pz mc) B (PO_of B) ⟨kk9, by rw [ev], by rw [ev]⟩ rfl (Nat.le_of_ble_eq_true rfl) (Nat.le_of_ble_eq_true rfl) dX4_negated_30
  · have s2x : (v_X4_isNone a1) = 1 := (b01_X4_isNone).resolve_left s2
    rw [s2x]
    refine k_i (k := 0) (n := 0) hA B (b_V (q := 24) (rest := []) hb0 X (c_X4_stops l g N ad y cr dr th kn rf pl pz mc (by omega) b0 hb0 1 0 H.size) mw_X4_stops md_X4_stops rfl lk_X4_99 ⟨Nat.le_of_ble_eq_true rfl, Nat.le_of_ble_eq_true rfl⟩ hA hK hT B (by omega) mg_24 rfl rfl hl.1 rfl (Nat.le_of_ble_eq_true rfl) dX4_negated_6 ⟨Nat.le_of_ble_eq_true rfl, Nat.le_of_ble_eq_true rfl⟩) (Nat.le_of_ble_eq_true rfl) (Nat.le_of_ble_eq_true rfl) (fun r ad' f' H locs hw B => ?_)
    rw [st_10] at hw
    dsimp only at hw
    obtain ⟨rfl, rfl, rfl⟩ := hw
    have B : WB g (aw N ad sz) s.heap N ad (mg g ad y cr dr 1 kn rf pl pz mc) H locs := B
    refine lv_if_eq (tgt := 16) hx hb dX4_negated_9 (by decide) (fun z => absurd z (by decide)) (fun _ => ?_)
    refine lv_iconst (v := 0) hx hb dX4_negated_12 (by decide) ?_
    refine lv_goto (tgt := 30) hx hb dX4_negated_13 (by decide) ?_
    have ev := (show v_X4_negated cr rf a1 = (0, cr, 1, rf) from by unfold v_X4_negated; rw [if_neg s2])
    exact rt_i X hr (ad, mg g ad y cr dr 1 kn rf pl pz mc) B (PO_of B) ⟨(fun _ _ _ => rfl), by rw [ev], by rw [ev]⟩ rfl (Nat.le_of_ble_eq_true rfl) (Nat.le_of_ble_eq_true rfl) dX4_negated_30
def v_X4_normalized (cr : Nat → TR) (rf : Int32) (a1 : Int32) : Int32 × (Nat → TR) × Int32 × Int32 := if v_X4_isNone a1 = 0 then (om (v_X4_tidied (cr a1.toNatClampNeg)) ((v_X4_getN rf).1, cr, 0, (v_X4_getN rf).2) (fun t5 => ((v_X4_get cr a1 t5).1, (v_X4_get cr a1 t5).2, 0, rf))) else (0, cr, 1, rf)
set_option maxHeartbeats 4000000 in
set_option maxRecDepth 100000 in
theorem c_X4_normalized (l : Launch) (g : GG) (N : Nat) (ad : Nat → Nat) (y : Nat → va_E) (cr dr : Nat → TR) (th kn rf : Int32) (pl : Nat → TR) (pz : Nat) (mc : Int32) (hN : 36 + pz ≤ N) (b0 : Nat) (hb0 : ad 24 = b0) (a1 : Int32) : KI l yX4_normalized cX4_normalized 2 (some .int) (rm 3 2 6) g [.ref b0, .int a1] N ad (mg g ad y cr dr th kn rf pl pz mc) N (fun r ad' f' => (∀ k, k < N → k < 28 ∨ 36 ≤ k → ad' k = ad k) ∧ (v_X4_normalized cr rf a1).1 = r ∧ mg g ad' y (v_X4_normalized cr rf a1).2.1 dr (v_X4_normalized cr rf a1).2.2.1 kn (v_X4_normalized cr rf a1).2.2.2 pl pz mc = f') := by
  intro sz
  refine mt_start (by decide) (Nat.le_of_ble_eq_true rfl) ?_
  intro p e s m args below meth c hsz X hr hnam hA hK hT H locs B ls hl
  obtain ⟨hx, hb, hml, hown, hts, hlocks⟩ := id X
  have hl : lv_has ls 2 [(0, .ref b0), (1, .int a1)] := hl
  refine lv_aload_n hx hb dX4_normalized_0 rfl (lv_at hl 0 rfl) ?_
  refine lv_iload_n hx hb dX4_normalized_1 rfl (lv_at hl 1 rfl) ?_
  refine k_i (k := 0) (n := 0) hA B (u_S (rest := [.ref b0]) X (c_X4_isNone l g N ad (mg g ad y cr dr th kn rf pl pz mc) a1 H.size) mw_X4_isNone md_X4_isNone rfl lk_X4_95 ⟨Nat.le_of_ble_eq_true rfl, Nat.le_of_ble_eq_true rfl⟩ hA hK hT B hl.1 rfl (Nat.le_of_ble_eq_true rfl) dX4_normalized_2 ⟨Nat.le_of_ble_eq_true rfl, Nat.le_of_ble_eq_true rfl⟩) (Nat.le_of_ble_eq_true rfl) (Nat.le_of_ble_eq_true rfl) (fun r1 ad1 f' H locs hw B => ?_)
  obtain ⟨rfl, rfl, rfl⟩ := hw
  refine lv_iconst (v := 0) hx hb dX4_normalized_5 (by decide) ?_
  by_cases s2 : v_X4_isNone a1 = 0
  · rw [s2]
    refine k_i (k := 0) (n := 0) hA B (b_V (q := 24) (rest := []) hb0 X (c_X4_stops l g N ad y cr dr th kn rf pl pz mc (by omega) b0 hb0 0 0 H.size) mw_X4_stops md_X4_stops rfl lk_X4_99 ⟨Nat.le_of_ble_eq_true rfl, Nat.le_of_ble_eq_true rfl⟩ hA hK hT B (by omega) mg_24 rfl rfl hl.1 rfl (Nat.le_of_ble_eq_true rfl) dX4_normalized_6 ⟨Nat.le_of_ble_eq_true rfl, Nat.le_of_ble_eq_true rfl⟩) (Nat.le_of_ble_eq_true rfl) (Nat.le_of_ble_eq_true rfl) (fun r ad' f' H locs hw B => ?_)
    rw [st_00] at hw
    dsimp only at hw
    obtain ⟨rfl, rfl, rfl⟩ := hw
    have B : WB g (aw N ad sz) s.heap N ad (mg g ad y cr dr 0 kn rf pl pz mc) H locs := B
    refine lv_if_eq (tgt := 16) hx hb dX4_normalized_9 (by decide) (fun _ => ?_) (fun z => absurd z (by decide))
    refine lv_aload_n hx hb dX4_normalized_16 rfl (lv_at hl 0 rfl) ?_
    refine lv_iload_n hx hb dX4_normalized_17 rfl (lv_at hl 1 rfl) ?_
    refine lv_aload_n hx hb dX4_normalized_18 rfl (lv_at hl 0 rfl) ?_
    refine b_get (q := 24) (k := 1) hb0 X hK B rfl in_X4 (by omega) mg_24 (by decide) lk_X4_11 rfl rfl dX4_normalized_19 ?_
    refine lv_iload_n hx hb dX4_normalized_22 rfl (lv_at hl 1 rfl) ?_
    refine b_aald (q := 25) (t0 := 2) (v := ad (28 + a1.toNatClampNeg)) rfl X hK B (by omega) mg_25 rfl rfl (no_in s2) rfl dX4_normalized_23 ?_
    have g3 : a1.toNatClampNeg < 4 := (no_lt s2)
    refine k_r (k := 1) (n := 3) hA B (u_S (rest := [.int a1, .ref b0]) X (c_X4_tidied l g N ad (mg g ad y cr dr 0 kn rf pl pz mc) (28 + a1.toNatClampNeg) (ad (28 + a1.toNatClampNeg)) (cr a1.toNatClampNeg) (pl_cr hN g3) rfl (mg_cr g3) H.size) mw_X4_tidied md_X4_tidied rfl lk_X4_125 ⟨Nat.le_of_ble_eq_true rfl, Nat.le_of_ble_eq_true rfl⟩ hA hK hT B hl.1 rfl (Nat.le_of_ble_eq_true rfl) dX4_normalized_24 ⟨Nat.le_of_ble_eq_true rfl, Nat.le_of_ble_eq_true rfl⟩) (Nat.le_of_ble_eq_true rfl) (Nat.le_of_ble_eq_true rfl) (fun r4 ad4 f' H locs hw B => ?_)
    generalize o5 : (v_X4_tidied (cr a1.toNatClampNeg)) = v9 at hw B
    cases v9 with
    | none =>
      obtain ⟨rfl, rfl, rfl⟩ := pw_n hw
      refine k_i (k := 1) (n := 3) hA B (b_V (q := 24) (rest := []) hb0 X (c_X4_getN l g N ad y cr dr 0 kn rf pl pz mc (by omega) b0 hb0 a1 H.size) mw_X4_get md_X4_get rfl lk_X4_103 ⟨Nat.le_of_ble_eq_true rfl, Nat.le_of_ble_eq_true rfl⟩ hA hK hT B (by omega) mg_24 rfl rfl hl.1 rfl (Nat.le_of_ble_eq_true rfl) dX4_normalized_27 ⟨Nat.le_of_ble_eq_true rfl, Nat.le_of_ble_eq_true rfl⟩) (Nat.le_of_ble_eq_true rfl) (Nat.le_of_ble_eq_true rfl) (fun r6 ad6 f' H locs hw B => ?_)
      obtain ⟨rfl, rfl, rfl⟩ := hw
      have ev := (show v_X4_normalized cr rf a1 = ((v_X4_getN rf).1, cr, 0, (v_X4_getN rf).2) from by unfold v_X4_normalized; rw [if_pos s2, om_none o5])
      exact rt_i X hr (ad, mg g ad y cr dr 0 kn (v_X4_getN rf).2 pl pz mc) B (PO_of B) ⟨(fun _ _ _ => rfl), by rw [ev], by rw [ev]⟩ rfl (Nat.le_of_ble_eq_true rfl) (Nat.le_of_ble_eq_true rfl) dX4_normalized_30
    | some t5 =>
      obtain ⟨z5, rfl, rfl, rfl⟩ := pw_s hw
      have B : WB g (aw N ad sz) s.heap (N + 1) (va_up ad N z5) (mg g (va_up ad N z5) (va_up y N (c_row g t5)) cr dr 0 kn rf pl pz mc) H locs := WM_push (by omega) B
      refine k_i (k := 2) (n := 6) hA B (b_V (q := 24) (rest := []) ((up_lt (by omega)).trans hb0) X (c_X4_get l g (N + 1) (va_up ad N z5) (va_up y N (c_row g t5)) cr dr 0 kn rf pl pz mc (by omega) b0 ((up_lt (by omega)).trans hb0) a1 N z5 t5 (Nat.lt_succ_self _) up_eq ((mg_hi (by omega)).trans up_eq) s2 H.size) mw_X4_get md_X4_get rfl lk_X4_103 ⟨Nat.le_of_ble_eq_true rfl, Nat.le_of_ble_eq_true rfl⟩ hA hK hT B (by omega) mg_24 rfl rfl hl.1 rfl (Nat.le_of_ble_eq_true rfl) dX4_normalized_27 ⟨Nat.le_of_ble_eq_true rfl, Nat.le_of_ble_eq_true rfl⟩) (Nat.le_of_ble_eq_true rfl) (Nat.le_of_ble_eq_true rfl) (fun r7 ad7 f' H locs hw B => ?_)
      dsimp only at hw
      obtain ⟨mv8, rfl, rfl⟩ := hw
      have B : WB g (aw N ad sz) s.heap N ad7 (mg g ad7 y (v_X4_get cr a1 t5).2 dr 0 kn rf pl pz mc) H locs := WM_drop B (by omega) (by omega) (fun _ _ => rfl) (fun _ hk => (up_lt hk))
      have kk9 : ∀ k, k < N → k < 28 ∨ 36 ≤ k → ad7 k = ad k := fun k hk hkq => (mv8 k (by omega) hkq).trans (((fun _ hk => (up_lt hk)) k hk).trans rfl)
      have nb10 : ad7 24 = b0 := (mv8 24 (by omega) (Or.inl (by decide))).trans ((up_lt (by omega)).trans hb0)
      have ev := (show v_X4_normalized cr rf a1 = ((v_X4_get cr a1 t5).1, (v_X4_get cr a1 t5).2, 0, rf) from by unfold v_X4_normalized; rw [if_pos s2, om_some o5])
      exact rt_i X hr (ad7, mg g ad7 y (v_X4_get cr a1 t5).2 dr 0 kn rf pl pz mc) B (PO_of B) ⟨kk9, by rw [ev], by rw [ev]⟩ rfl (Nat.le_of_ble_eq_true rfl) (Nat.le_of_ble_eq_true rfl) dX4_normalized_30
  · have s2x : (v_X4_isNone a1) = 1 := (b01_X4_isNone).resolve_left s2
    rw [s2x]
    refine k_i (k := 0) (n := 0) hA B (b_V (q := 24) (rest := []) hb0 X (c_X4_stops l g N ad y cr dr th kn rf pl pz mc (by omega) b0 hb0 1 0 H.size) mw_X4_stops md_X4_stops rfl lk_X4_99 ⟨Nat.le_of_ble_eq_true rfl, Nat.le_of_ble_eq_true rfl⟩ hA hK hT B (by omega) mg_24 rfl rfl hl.1 rfl (Nat.le_of_ble_eq_true rfl) dX4_normalized_6 ⟨Nat.le_of_ble_eq_true rfl, Nat.le_of_ble_eq_true rfl⟩) (Nat.le_of_ble_eq_true rfl) (Nat.le_of_ble_eq_true rfl) (fun r ad' f' H locs hw B => ?_)
    rw [st_10] at hw
    dsimp only at hw
    obtain ⟨rfl, rfl, rfl⟩ := hw
    have B : WB g (aw N ad sz) s.heap N ad (mg g ad y cr dr 1 kn rf pl pz mc) H locs := B
    refine lv_if_eq (tgt := 16) hx hb dX4_normalized_9 (by decide) (fun z => absurd z (by decide)) (fun _ => ?_)
    refine lv_iconst (v := 0) hx hb dX4_normalized_12 (by decide) ?_
    refine lv_goto (tgt := 30) hx hb dX4_normalized_13 (by decide) ?_
    have ev := (show v_X4_normalized cr rf a1 = (0, cr, 1, rf) from by unfold v_X4_normalized; rw [if_neg s2])
    exact rt_i X hr (ad, mg g ad y cr dr 1 kn rf pl pz mc) B (PO_of B) ⟨(fun _ _ _ => rfl), by rw [ev], by rw [ev]⟩ rfl (Nat.le_of_ble_eq_true rfl) (Nat.le_of_ble_eq_true rfl) dX4_normalized_30
def v_X4_part (cr : Nat → TR) (a1 : Int32) (a2 : Int32) : Int32 × Int32 := if (v_X4_isIn a2.toInt64 0 2) = 0 then (if v_X4_isNone a1 = 0 then (0, 2) else (0, 1)) else (if v_X4_isNone a1 = 0 then (rw3 (cr a1.toNatClampNeg) a2.toNatClampNeg, 0) else (0, 1))
set_option maxHeartbeats 4000000 in
set_option maxRecDepth 100000 in
theorem c_X4_part (l : Launch) (g : GG) (N : Nat) (ad : Nat → Nat) (y : Nat → va_E) (cr dr : Nat → TR) (th kn rf : Int32) (pl : Nat → TR) (pz : Nat) (mc : Int32) (hN : 36 + pz ≤ N) (b0 : Nat) (hb0 : ad 24 = b0) (a1 : Int32) (a2 : Int32) : KI l yX4_part cX4_part 3 (some .int) (rm 1 0 0) g [.ref b0, .int a1, .int a2] N ad (mg g ad y cr dr th kn rf pl pz mc) N (fun r ad' f' => ad = ad' ∧ (v_X4_part cr a1 a2).1 = r ∧ mg g ad y cr dr (v_X4_part cr a1 a2).2 kn rf pl pz mc = f') := by
  intro sz
  refine mt_start (by decide) (Nat.le_of_ble_eq_true rfl) ?_
  intro p e s m args below meth c hsz X hr hnam hA hK hT H locs B ls hl
  obtain ⟨hx, hb, hml, hown, hts, hlocks⟩ := id X
  have hl : lv_has ls 3 [(0, .ref b0), (1, .int a1), (2, .int a2)] := hl
  refine lv_aload_n hx hb dX4_part_0 rfl (lv_at hl 0 rfl) ?_
  refine lv_iload_n hx hb dX4_part_1 rfl (lv_at hl 1 rfl) ?_
  refine k_i (k := 0) (n := 0) hA B (u_S (rest := [.ref b0]) X (c_X4_isNone l g N ad (mg g ad y cr dr th kn rf pl pz mc) a1 H.size) mw_X4_isNone md_X4_isNone rfl lk_X4_95 ⟨Nat.le_of_ble_eq_true rfl, Nat.le_of_ble_eq_true rfl⟩ hA hK hT B hl.1 rfl (Nat.le_of_ble_eq_true rfl) dX4_part_2 ⟨Nat.le_of_ble_eq_true rfl, Nat.le_of_ble_eq_true rfl⟩) (Nat.le_of_ble_eq_true rfl) (Nat.le_of_ble_eq_true rfl) (fun r1 ad1 f' H locs hw B => ?_)
  obtain ⟨rfl, rfl, rfl⟩ := hw
  refine lv_iload_n hx hb dX4_part_5 rfl (lv_at hl 2 rfl) ?_
  refine lv_i2l (v := a2.toInt64) hx hb dX4_part_6 rfl ?_
  refine lv_lconst (v := 0) hx hb dX4_part_7 (by decide) ?_
  refine lv_ldc2 hx hb hown (hts _ (List.mem_cons_of_mem _ lk_X4_113)) dX4_part_8 ?_
  refine k_i (k := 0) (n := 0) hA B (u_S (rest := [.int (v_X4_isNone a1), .ref b0]) X (c_X4_isIn l g N ad (mg g ad y cr dr th kn rf pl pz mc) a2.toInt64 0 2 H.size) mw_X4_isIn md_X4_isIn rfl lk_X4_37 ⟨Nat.le_of_ble_eq_true rfl, Nat.le_of_ble_eq_true rfl⟩ hA hK hT B hl.1 rfl (Nat.le_of_ble_eq_true rfl) dX4_part_11 ⟨Nat.le_of_ble_eq_true rfl, Nat.le_of_ble_eq_true rfl⟩) (Nat.le_of_ble_eq_true rfl) (Nat.le_of_ble_eq_true rfl) (fun r2 ad2 f' H locs hw B => ?_)
  obtain ⟨rfl, rfl, rfl⟩ := hw
  refine lv_if_ne (tgt := 21) hx hb dX4_part_14 (by decide) (fun c3 => ?_) (fun c3 => ?_)
  · refine lv_iconst (v := 0) hx hb dX4_part_21 (by decide) ?_
    by_cases s4 : v_X4_isNone a1 = 0
    · rw [s4]
      refine k_i (k := 0) (n := 0) hA B (b_V (q := 24) (rest := []) hb0 X (c_X4_stops l g N ad y cr dr th kn rf pl pz mc (by omega) b0 hb0 0 0 H.size) mw_X4_stops md_X4_stops rfl lk_X4_99 ⟨Nat.le_of_ble_eq_true rfl, Nat.le_of_ble_eq_true rfl⟩ hA hK hT B (by omega) mg_24 rfl rfl hl.1 rfl (Nat.le_of_ble_eq_true rfl) dX4_part_22 ⟨Nat.le_of_ble_eq_true rfl, Nat.le_of_ble_eq_true rfl⟩) (Nat.le_of_ble_eq_true rfl) (Nat.le_of_ble_eq_true rfl) (fun r ad' f' H locs hw B => ?_)
      rw [st_00] at hw
      dsimp only at hw
      obtain ⟨rfl, rfl, rfl⟩ := hw
      have B : WB g (aw N ad sz) s.heap N ad (mg g ad y cr dr 0 kn rf pl pz mc) H locs := B
      refine lv_if_eq (tgt := 32) hx hb dX4_part_25 (by decide) (fun _ => ?_) (fun z => absurd z (by decide))
      refine lv_aload_n hx hb dX4_part_32 rfl (lv_at hl 0 rfl) ?_
      refine b_get (q := 24) (k := 1) hb0 X hK B rfl in_X4 (by omega) mg_24 (by decide) lk_X4_11 rfl rfl dX4_part_33 ?_
      refine lv_iload_n hx hb dX4_part_36 rfl (lv_at hl 1 rfl) ?_
      refine b_aald (q := 25) (t0 := 2) (v := ad (28 + a1.toNatClampNeg)) rfl X hK B (by omega) mg_25 rfl rfl (no_in s4) rfl dX4_part_37 ?_
      have g5 : a1.toNatClampNeg < 4 := (no_lt s4)
      refine lv_iload_n hx hb dX4_part_38 rfl (lv_at hl 2 rfl) ?_
      refine h_ld X hK B (pl_cr hN g5) rfl (mg_cr g5) (isin_ix (n := 3) c3 rfl).1 dX4_part_39 ?_
      have ev := (show v_X4_part cr a1 a2 = (rw3 (cr a1.toNatClampNeg) a2.toNatClampNeg, 0) from by unfold v_X4_part; rw [if_neg c3, if_pos s4])
      exact rt_i X hr (ad, mg g ad y cr dr 0 kn rf pl pz mc) B (PO_of B) ⟨rfl, by rw [ev], by rw [ev]⟩ rfl (Nat.le_of_ble_eq_true rfl) (Nat.le_of_ble_eq_true rfl) dX4_part_40
    · have s4x : (v_X4_isNone a1) = 1 := (b01_X4_isNone).resolve_left s4
      rw [s4x]
      refine k_i (k := 0) (n := 0) hA B (b_V (q := 24) (rest := []) hb0 X (c_X4_stops l g N ad y cr dr th kn rf pl pz mc (by omega) b0 hb0 1 0 H.size) mw_X4_stops md_X4_stops rfl lk_X4_99 ⟨Nat.le_of_ble_eq_true rfl, Nat.le_of_ble_eq_true rfl⟩ hA hK hT B (by omega) mg_24 rfl rfl hl.1 rfl (Nat.le_of_ble_eq_true rfl) dX4_part_22 ⟨Nat.le_of_ble_eq_true rfl, Nat.le_of_ble_eq_true rfl⟩) (Nat.le_of_ble_eq_true rfl) (Nat.le_of_ble_eq_true rfl) (fun r ad' f' H locs hw B => ?_)
      rw [st_10] at hw
      dsimp only at hw
      obtain ⟨rfl, rfl, rfl⟩ := hw
      have B : WB g (aw N ad sz) s.heap N ad (mg g ad y cr dr 1 kn rf pl pz mc) H locs := B
      refine lv_if_eq (tgt := 32) hx hb dX4_part_25 (by decide) (fun z => absurd z (by decide)) (fun _ => ?_)
      refine lv_iconst (v := 0) hx hb dX4_part_28 (by decide) ?_
      refine lv_goto (tgt := 40) hx hb dX4_part_29 (by decide) ?_
      have ev := (show v_X4_part cr a1 a2 = (0, 1) from by unfold v_X4_part; rw [if_neg c3, if_neg s4])
      exact rt_i X hr (ad, mg g ad y cr dr 1 kn rf pl pz mc) B (PO_of B) ⟨rfl, by rw [ev], by rw [ev]⟩ rfl (Nat.le_of_ble_eq_true rfl) (Nat.le_of_ble_eq_true rfl) dX4_part_40
  · refine lv_iconst (v := 1) hx hb dX4_part_17 (by decide) ?_
    refine lv_goto (tgt := 22) hx hb dX4_part_18 (by decide) ?_
    by_cases s6 : v_X4_isNone a1 = 0
    · rw [s6]
      refine k_i (k := 0) (n := 0) hA B (b_V (q := 24) (rest := []) hb0 X (c_X4_stops l g N ad y cr dr th kn rf pl pz mc (by omega) b0 hb0 0 1 H.size) mw_X4_stops md_X4_stops rfl lk_X4_99 ⟨Nat.le_of_ble_eq_true rfl, Nat.le_of_ble_eq_true rfl⟩ hA hK hT B (by omega) mg_24 rfl rfl hl.1 rfl (Nat.le_of_ble_eq_true rfl) dX4_part_22 ⟨Nat.le_of_ble_eq_true rfl, Nat.le_of_ble_eq_true rfl⟩) (Nat.le_of_ble_eq_true rfl) (Nat.le_of_ble_eq_true rfl) (fun r ad' f' H locs hw B => ?_)
      rw [st_01] at hw
      dsimp only at hw
      obtain ⟨rfl, rfl, rfl⟩ := hw
      have B : WB g (aw N ad sz) s.heap N ad (mg g ad y cr dr 2 kn rf pl pz mc) H locs := B
      refine lv_if_eq (tgt := 32) hx hb dX4_part_25 (by decide) (fun z => absurd z (by decide)) (fun _ => ?_)
      refine lv_iconst (v := 0) hx hb dX4_part_28 (by decide) ?_
      refine lv_goto (tgt := 40) hx hb dX4_part_29 (by decide) ?_
      have ev := (show v_X4_part cr a1 a2 = (0, 2) from by unfold v_X4_part; rw [if_pos c3, if_pos s6])
      exact rt_i X hr (ad, mg g ad y cr dr 2 kn rf pl pz mc) B (PO_of B) ⟨rfl, by rw [ev], by rw [ev]⟩ rfl (Nat.le_of_ble_eq_true rfl) (Nat.le_of_ble_eq_true rfl) dX4_part_40
    · have s6x : (v_X4_isNone a1) = 1 := (b01_X4_isNone).resolve_left s6
      rw [s6x]
      refine k_i (k := 0) (n := 0) hA B (b_V (q := 24) (rest := []) hb0 X (c_X4_stops l g N ad y cr dr th kn rf pl pz mc (by omega) b0 hb0 1 1 H.size) mw_X4_stops md_X4_stops rfl lk_X4_99 ⟨Nat.le_of_ble_eq_true rfl, Nat.le_of_ble_eq_true rfl⟩ hA hK hT B (by omega) mg_24 rfl rfl hl.1 rfl (Nat.le_of_ble_eq_true rfl) dX4_part_22 ⟨Nat.le_of_ble_eq_true rfl, Nat.le_of_ble_eq_true rfl⟩) (Nat.le_of_ble_eq_true rfl) (Nat.le_of_ble_eq_true rfl) (fun r ad' f' H locs hw B => ?_)
      rw [st_11] at hw
      dsimp only at hw
      obtain ⟨rfl, rfl, rfl⟩ := hw
      have B : WB g (aw N ad sz) s.heap N ad (mg g ad y cr dr 1 kn rf pl pz mc) H locs := B
      refine lv_if_eq (tgt := 32) hx hb dX4_part_25 (by decide) (fun z => absurd z (by decide)) (fun _ => ?_)
      refine lv_iconst (v := 0) hx hb dX4_part_28 (by decide) ?_
      refine lv_goto (tgt := 40) hx hb dX4_part_29 (by decide) ?_
      have ev := (show v_X4_part cr a1 a2 = (0, 1) from by unfold v_X4_part; rw [if_pos c3, if_neg s6])
      exact rt_i X hr (ad, mg g ad y cr dr 1 kn rf pl pz mc) B (PO_of B) ⟨rfl, by rw [ev], by rw [ev]⟩ rfl (Nat.le_of_ble_eq_true rfl) (Nat.le_of_ble_eq_true rfl) dX4_part_40
def v_X4_isZeroNow (cr : Nat → TR) (a1 : Int32) : Int32 := (v_X4_isSame (cr a1.toNatClampNeg) (v_X4_nothing))
theorem b01_X4_isZeroNow {cr : Nat → TR} {a1 : Int32} : (v_X4_isZeroNow cr a1) = 0 ∨ (v_X4_isZeroNow cr a1) = 1 := by
  unfold v_X4_isZeroNow
  exact b01_X4_isSame
set_option maxHeartbeats 4000000 in
set_option maxRecDepth 100000 in
theorem c_X4_isZeroNow (l : Launch) (g : GG) (N : Nat) (ad : Nat → Nat) (y : Nat → va_E) (cr dr : Nat → TR) (th kn rf : Int32) (pl : Nat → TR) (pz : Nat) (mc : Int32) (hN : 36 + pz ≤ N) (b0 : Nat) (hb0 : ad 24 = b0) (a1 : Int32) (hza1 : v_X4_isNone a1 = 0) : KI l yX4_isZeroNow cX4_isZeroNow 2 (some .boolean) (rm 1 1 3) g [.ref b0, .int a1] N ad (mg g ad y cr dr th kn rf pl pz mc) N (fun r ad' f' => ad = ad' ∧ (v_X4_isZeroNow cr a1) = r ∧ mg g ad y cr dr th kn rf pl pz mc = f') := by
  intro sz
  refine mt_start (by decide) (Nat.le_of_ble_eq_true rfl) ?_
  intro p e s m args below meth c hsz X hr hnam hA hK hT H locs B ls hl
  obtain ⟨hx, hb, hml, hown, hts, hlocks⟩ := id X
  have hl : lv_has ls 2 [(0, .ref b0), (1, .int a1)] := hl
  refine lv_aload_n hx hb dX4_isZeroNow_0 rfl (lv_at hl 0 rfl) ?_
  refine b_get (q := 24) (k := 1) hb0 X hK B rfl in_X4 (by omega) mg_24 (by decide) lk_X4_11 rfl rfl dX4_isZeroNow_1 ?_
  refine lv_iload_n hx hb dX4_isZeroNow_4 rfl (lv_at hl 1 rfl) ?_
  refine b_aald (q := 25) (t0 := 2) (v := ad (28 + a1.toNatClampNeg)) rfl X hK B (by omega) mg_25 rfl rfl (no_in hza1) rfl dX4_isZeroNow_5 ?_
  have g1 : a1.toNatClampNeg < 4 := (no_lt hza1)
  refine k_r (k := 1) (n := 3) hA B (u_S (rest := [.ref (ad (28 + a1.toNatClampNeg))]) X (c_X4_nothing l g N ad (mg g ad y cr dr th kn rf pl pz mc) H.size) mw_X4_nothing md_X4_nothing rfl lk_X4_51 ⟨Nat.le_of_ble_eq_true rfl, Nat.le_of_ble_eq_true rfl⟩ hA hK hT B hl.1 rfl (Nat.le_of_ble_eq_true rfl) dX4_isZeroNow_6 ⟨Nat.le_of_ble_eq_true rfl, Nat.le_of_ble_eq_true rfl⟩) (Nat.le_of_ble_eq_true rfl) (Nat.le_of_ble_eq_true rfl) (fun r2 ad2 f' H locs hw B => ?_)
  obtain ⟨z3, rfl, rfl, rfl⟩ := hw
  have B : WB g (aw N ad sz) s.heap (N + 1) (va_up ad N z3) (mg g (va_up ad N z3) (va_up y N (c_row g (v_X4_nothing))) cr dr th kn rf pl pz mc) H locs := WM_push (by omega) B
  refine k_i (k := 1) (n := 3) hA B (u_S (rest := []) X (c_X4_isSame l g (N + 1) (va_up ad N z3) (mg g (va_up ad N z3) (va_up y N (c_row g (v_X4_nothing))) cr dr th kn rf pl pz mc) (28 + a1.toNatClampNeg) (ad (28 + a1.toNatClampNeg)) (cr a1.toNatClampNeg) (Nat.lt_succ_of_lt (pl_cr hN g1)) ((up_lt (pl_cr hN g1)).trans rfl) (mg_cr g1) N z3 (v_X4_nothing) (Nat.lt_succ_self _) up_eq ((mg_hi (by omega)).trans up_eq) H.size) mw_X4_isSame md_X4_isSame rfl lk_X4_87 ⟨Nat.le_of_ble_eq_true rfl, Nat.le_of_ble_eq_true rfl⟩ hA hK hT B hl.1 rfl (Nat.le_of_ble_eq_true rfl) dX4_isZeroNow_9 ⟨Nat.le_of_ble_eq_true rfl, Nat.le_of_ble_eq_true rfl⟩) (Nat.le_of_ble_eq_true rfl) (Nat.le_of_ble_eq_true rfl) (fun r4 ad4 f' H locs hw B => ?_)
  obtain ⟨rfl, rfl, rfl⟩ := hw
  have B : WB g (aw N ad sz) s.heap N ad (mg g ad y cr dr th kn rf pl pz mc) H locs := WM_drop B (by omega) (by omega) (fun _ hk => (up_lt hk)) (fun _ hk => (up_lt hk))
  have ev := (show v_X4_isZeroNow cr a1 = (v_X4_isSame (cr a1.toNatClampNeg) (v_X4_nothing)) from rfl)
  exact rt_i X hr (ad, mg g ad y cr dr th kn rf pl pz mc) B (PO_of B) ⟨rfl, by rw [ev], rfl⟩ (nb_of b01_X4_isSame) (Nat.le_of_ble_eq_true rfl) (Nat.le_of_ble_eq_true rfl) dX4_isZeroNow_12
def v_X4_isNegativeNow (cr : Nat → TR) (a1 : Int32) : Int32 := if (cr a1.toNatClampNeg).1 < 0 then 1 else (if (cr a1.toNatClampNeg).2.1 < 0 then 1 else (if 0 ≤ (cr a1.toNatClampNeg).2.2 then 0 else 1))
theorem b01_X4_isNegativeNow {cr : Nat → TR} {a1 : Int32} : (v_X4_isNegativeNow cr a1) = 0 ∨ (v_X4_isNegativeNow cr a1) = 1 := by
  unfold v_X4_isNegativeNow
  by_cases q1 : (cr a1.toNatClampNeg).1 < 0
  · rw [if_pos q1]
    exact Or.inr rfl
  · rw [if_neg q1]
    by_cases q2 : (cr a1.toNatClampNeg).2.1 < 0
    · rw [if_pos q2]
      exact Or.inr rfl
    · rw [if_neg q2]
      by_cases q3 : 0 ≤ (cr a1.toNatClampNeg).2.2
      · rw [if_pos q3]
        exact Or.inl rfl
      · rw [if_neg q3]
        exact Or.inr rfl
set_option maxHeartbeats 4000000 in
set_option maxRecDepth 100000 in
theorem c_X4_isNegativeNow (l : Launch) (g : GG) (N : Nat) (ad : Nat → Nat) (y : Nat → va_E) (cr dr : Nat → TR) (th kn rf : Int32) (pl : Nat → TR) (pz : Nat) (mc : Int32) (hN : 36 + pz ≤ N) (b0 : Nat) (hb0 : ad 24 = b0) (a1 : Int32) (hza1 : v_X4_isNone a1 = 0) : KI l yX4_isNegativeNow cX4_isNegativeNow 2 (some .boolean) (rm 0 0 0) g [.ref b0, .int a1] N ad (mg g ad y cr dr th kn rf pl pz mc) N (fun r ad' f' => ad = ad' ∧ (v_X4_isNegativeNow cr a1) = r ∧ mg g ad y cr dr th kn rf pl pz mc = f') := by
  intro sz
  refine mt_start (by decide) (Nat.le_of_ble_eq_true rfl) ?_
  intro p e s m args below meth c hsz X hr hnam hA hK hT H locs B ls hl
  obtain ⟨hx, hb, hml, hown, hts, hlocks⟩ := id X
  have hl : lv_has ls 2 [(0, .ref b0), (1, .int a1)] := hl
  refine lv_aload_n hx hb dX4_isNegativeNow_0 rfl (lv_at hl 0 rfl) ?_
  refine b_get (q := 24) (k := 1) hb0 X hK B rfl in_X4 (by omega) mg_24 (by decide) lk_X4_11 rfl rfl dX4_isNegativeNow_1 ?_
  refine lv_iload_n hx hb dX4_isNegativeNow_4 rfl (lv_at hl 1 rfl) ?_
  refine b_aald (q := 25) (t0 := 2) (v := ad (28 + a1.toNatClampNeg)) rfl X hK B (by omega) mg_25 rfl rfl (no_in hza1) rfl dX4_isNegativeNow_5 ?_
  have g1 : a1.toNatClampNeg < 4 := (no_lt hza1)
  refine lv_iconst (v := 0) hx hb dX4_isNegativeNow_6 (by decide) ?_
  refine h_ld0 X hK B (pl_cr hN g1) rfl (mg_cr g1) dX4_isNegativeNow_7 ?_
  refine lv_if_lt (tgt := 33) hx hb dX4_isNegativeNow_8 (by decide) (fun c2 => ?_) (fun c2 => ?_)
  · refine lv_iconst (v := 1) hx hb dX4_isNegativeNow_33 (by decide) ?_
    refine lv_goto (tgt := 38) hx hb dX4_isNegativeNow_34 (by decide) ?_
    have ev := (show v_X4_isNegativeNow cr a1 = 1 from by unfold v_X4_isNegativeNow; rw [if_pos c2])
    exact rt_i X hr (ad, mg g ad y cr dr th kn rf pl pz mc) B (PO_of B) ⟨rfl, by rw [ev], rfl⟩ rfl (Nat.le_of_ble_eq_true rfl) (Nat.le_of_ble_eq_true rfl) dX4_isNegativeNow_38
  · refine lv_aload_n hx hb dX4_isNegativeNow_11 rfl (lv_at hl 0 rfl) ?_
    refine b_get (q := 24) (k := 1) hb0 X hK B rfl in_X4 (by omega) mg_24 (by decide) lk_X4_11 rfl rfl dX4_isNegativeNow_12 ?_
    refine lv_iload_n hx hb dX4_isNegativeNow_15 rfl (lv_at hl 1 rfl) ?_
    refine b_aald (q := 25) (t0 := 2) (v := ad (28 + a1.toNatClampNeg)) rfl X hK B (by omega) mg_25 rfl rfl (no_in hza1) rfl dX4_isNegativeNow_16 ?_
    have g3 : a1.toNatClampNeg < 4 := (no_lt hza1)
    refine lv_iconst (v := 1) hx hb dX4_isNegativeNow_17 (by decide) ?_
    refine h_ld1 X hK B (pl_cr hN g3) rfl (mg_cr g3) dX4_isNegativeNow_18 ?_
    refine lv_if_lt (tgt := 33) hx hb dX4_isNegativeNow_19 (by decide) (fun c4 => ?_) (fun c4 => ?_)
    · refine lv_iconst (v := 1) hx hb dX4_isNegativeNow_33 (by decide) ?_
      refine lv_goto (tgt := 38) hx hb dX4_isNegativeNow_34 (by decide) ?_
      have ev := (show v_X4_isNegativeNow cr a1 = 1 from by unfold v_X4_isNegativeNow; rw [if_neg c2, if_pos c4])
      exact rt_i X hr (ad, mg g ad y cr dr th kn rf pl pz mc) B (PO_of B) ⟨rfl, by rw [ev], rfl⟩ rfl (Nat.le_of_ble_eq_true rfl) (Nat.le_of_ble_eq_true rfl) dX4_isNegativeNow_38
    · refine lv_aload_n hx hb dX4_isNegativeNow_22 rfl (lv_at hl 0 rfl) ?_
      refine b_get (q := 24) (k := 1) hb0 X hK B rfl in_X4 (by omega) mg_24 (by decide) lk_X4_11 rfl rfl dX4_isNegativeNow_23 ?_
      refine lv_iload_n hx hb dX4_isNegativeNow_26 rfl (lv_at hl 1 rfl) ?_
      refine b_aald (q := 25) (t0 := 2) (v := ad (28 + a1.toNatClampNeg)) rfl X hK B (by omega) mg_25 rfl rfl (no_in hza1) rfl dX4_isNegativeNow_27 ?_
      have g5 : a1.toNatClampNeg < 4 := (no_lt hza1)
      refine lv_iconst (v := 2) hx hb dX4_isNegativeNow_28 (by decide) ?_
      refine h_ld2 X hK B (pl_cr hN g5) rfl (mg_cr g5) dX4_isNegativeNow_29 ?_
      refine lv_if_ge (tgt := 37) hx hb dX4_isNegativeNow_30 (by decide) (fun c6 => ?_) (fun c6 => ?_)
      · refine lv_iconst (v := 0) hx hb dX4_isNegativeNow_37 (by decide) ?_
        have ev := (show v_X4_isNegativeNow cr a1 = 0 from by unfold v_X4_isNegativeNow; rw [if_neg c2, if_neg c4, if_pos c6])
        exact rt_i X hr (ad, mg g ad y cr dr th kn rf pl pz mc) B (PO_of B) ⟨rfl, by rw [ev], rfl⟩ rfl (Nat.le_of_ble_eq_true rfl) (Nat.le_of_ble_eq_true rfl) dX4_isNegativeNow_38
      · refine lv_iconst (v := 1) hx hb dX4_isNegativeNow_33 (by decide) ?_
        refine lv_goto (tgt := 38) hx hb dX4_isNegativeNow_34 (by decide) ?_
        have ev := (show v_X4_isNegativeNow cr a1 = 1 from by unfold v_X4_isNegativeNow; rw [if_neg c2, if_neg c4, if_neg c6])
        exact rt_i X hr (ad, mg g ad y cr dr th kn rf pl pz mc) B (PO_of B) ⟨rfl, by rw [ev], rfl⟩ rfl (Nat.le_of_ble_eq_true rfl) (Nat.le_of_ble_eq_true rfl) dX4_isNegativeNow_38
def v_X4_isZero (cr : Nat → TR) (a1 : Int32) : Int32 × Int32 := if v_X4_isNone a1 = 0 then (if (v_X4_isZeroNow cr a1) = 0 then (0, 0) else (1, 0)) else (0, 1)
theorem b01_X4_isZero {cr : Nat → TR} {a1 : Int32} : (v_X4_isZero cr a1).1 = 0 ∨ (v_X4_isZero cr a1).1 = 1 := by
  unfold v_X4_isZero
  by_cases q1 : v_X4_isNone a1 = 0
  · rw [if_pos q1]
    by_cases q2 : (v_X4_isZeroNow cr a1) = 0
    · rw [if_pos q2]
      exact Or.inl rfl
    · rw [if_neg q2]
      exact Or.inr rfl
  · rw [if_neg q1]
    exact Or.inl rfl
set_option maxHeartbeats 4000000 in
set_option maxRecDepth 100000 in
theorem c_X4_isZero (l : Launch) (g : GG) (N : Nat) (ad : Nat → Nat) (y : Nat → va_E) (cr dr : Nat → TR) (th kn rf : Int32) (pl : Nat → TR) (pz : Nat) (mc : Int32) (hN : 36 + pz ≤ N) (b0 : Nat) (hb0 : ad 24 = b0) (a1 : Int32) : KI l yX4_isZero cX4_isZero 2 (some .boolean) (rm 2 1 3) g [.ref b0, .int a1] N ad (mg g ad y cr dr th kn rf pl pz mc) N (fun r ad' f' => ad = ad' ∧ (v_X4_isZero cr a1).1 = r ∧ mg g ad y cr dr (v_X4_isZero cr a1).2 kn rf pl pz mc = f') := by
  intro sz
  refine mt_start (by decide) (Nat.le_of_ble_eq_true rfl) ?_
  intro p e s m args below meth c hsz X hr hnam hA hK hT H locs B ls hl
  obtain ⟨hx, hb, hml, hown, hts, hlocks⟩ := id X
  have hl : lv_has ls 2 [(0, .ref b0), (1, .int a1)] := hl
  refine lv_aload_n hx hb dX4_isZero_0 rfl (lv_at hl 0 rfl) ?_
  refine lv_iload_n hx hb dX4_isZero_1 rfl (lv_at hl 1 rfl) ?_
  refine k_i (k := 0) (n := 0) hA B (u_S (rest := [.ref b0]) X (c_X4_isNone l g N ad (mg g ad y cr dr th kn rf pl pz mc) a1 H.size) mw_X4_isNone md_X4_isNone rfl lk_X4_95 ⟨Nat.le_of_ble_eq_true rfl, Nat.le_of_ble_eq_true rfl⟩ hA hK hT B hl.1 rfl (Nat.le_of_ble_eq_true rfl) dX4_isZero_2 ⟨Nat.le_of_ble_eq_true rfl, Nat.le_of_ble_eq_true rfl⟩) (Nat.le_of_ble_eq_true rfl) (Nat.le_of_ble_eq_true rfl) (fun r1 ad1 f' H locs hw B => ?_)
  obtain ⟨rfl, rfl, rfl⟩ := hw
  refine lv_iconst (v := 0) hx hb dX4_isZero_5 (by decide) ?_
  by_cases s2 : v_X4_isNone a1 = 0
  · rw [s2]
    refine k_i (k := 0) (n := 0) hA B (b_V (q := 24) (rest := []) hb0 X (c_X4_stops l g N ad y cr dr th kn rf pl pz mc (by omega) b0 hb0 0 0 H.size) mw_X4_stops md_X4_stops rfl lk_X4_99 ⟨Nat.le_of_ble_eq_true rfl, Nat.le_of_ble_eq_true rfl⟩ hA hK hT B (by omega) mg_24 rfl rfl hl.1 rfl (Nat.le_of_ble_eq_true rfl) dX4_isZero_6 ⟨Nat.le_of_ble_eq_true rfl, Nat.le_of_ble_eq_true rfl⟩) (Nat.le_of_ble_eq_true rfl) (Nat.le_of_ble_eq_true rfl) (fun r ad' f' H locs hw B => ?_)
    rw [st_00] at hw
    dsimp only at hw
    obtain ⟨rfl, rfl, rfl⟩ := hw
    have B : WB g (aw N ad sz) s.heap N ad (mg g ad y cr dr 0 kn rf pl pz mc) H locs := B
    refine lv_if_ne (tgt := 24) hx hb dX4_isZero_9 (by decide) (fun z => absurd z (by decide)) (fun _ => ?_)
    refine lv_aload_n hx hb dX4_isZero_12 rfl (lv_at hl 0 rfl) ?_
    refine lv_iload_n hx hb dX4_isZero_13 rfl (lv_at hl 1 rfl) ?_
    refine k_i (k := 1) (n := 3) hA B (b_V (q := 24) (rest := []) hb0 X (c_X4_isZeroNow l g N ad y cr dr 0 kn rf pl pz mc (by omega) b0 hb0 a1 s2 H.size) mw_X4_isZeroNow md_X4_isZeroNow rfl lk_X4_156 ⟨Nat.le_of_ble_eq_true rfl, Nat.le_of_ble_eq_true rfl⟩ hA hK hT B (by omega) mg_24 rfl rfl hl.1 rfl (Nat.le_of_ble_eq_true rfl) dX4_isZero_14 ⟨Nat.le_of_ble_eq_true rfl, Nat.le_of_ble_eq_true rfl⟩) (Nat.le_of_ble_eq_true rfl) (Nat.le_of_ble_eq_true rfl) (fun r3 ad3 f' H locs hw B => ?_)
    obtain ⟨rfl, rfl, rfl⟩ := hw
    refine lv_if_eq (tgt := 24) hx hb dX4_isZero_17 (by decide) (fun c4 => ?_) (fun c4 => ?_)
    · refine lv_iconst (v := 0) hx hb dX4_isZero_24 (by decide) ?_
      have ev := (show v_X4_isZero cr a1 = (0, 0) from by unfold v_X4_isZero; rw [if_pos s2, if_pos c4])
      exact rt_i X hr (ad, mg g ad y cr dr 0 kn rf pl pz mc) B (PO_of B) ⟨rfl, by rw [ev], by rw [ev]⟩ rfl (Nat.le_of_ble_eq_true rfl) (Nat.le_of_ble_eq_true rfl) dX4_isZero_25
    · refine lv_iconst (v := 1) hx hb dX4_isZero_20 (by decide) ?_
      refine lv_goto (tgt := 25) hx hb dX4_isZero_21 (by decide) ?_
      have ev := (show v_X4_isZero cr a1 = (1, 0) from by unfold v_X4_isZero; rw [if_pos s2, if_neg c4])
      exact rt_i X hr (ad, mg g ad y cr dr 0 kn rf pl pz mc) B (PO_of B) ⟨rfl, by rw [ev], by rw [ev]⟩ rfl (Nat.le_of_ble_eq_true rfl) (Nat.le_of_ble_eq_true rfl) dX4_isZero_25
  · have s2x : (v_X4_isNone a1) = 1 := (b01_X4_isNone).resolve_left s2
    rw [s2x]
    refine k_i (k := 0) (n := 0) hA B (b_V (q := 24) (rest := []) hb0 X (c_X4_stops l g N ad y cr dr th kn rf pl pz mc (by omega) b0 hb0 1 0 H.size) mw_X4_stops md_X4_stops rfl lk_X4_99 ⟨Nat.le_of_ble_eq_true rfl, Nat.le_of_ble_eq_true rfl⟩ hA hK hT B (by omega) mg_24 rfl rfl hl.1 rfl (Nat.le_of_ble_eq_true rfl) dX4_isZero_6 ⟨Nat.le_of_ble_eq_true rfl, Nat.le_of_ble_eq_true rfl⟩) (Nat.le_of_ble_eq_true rfl) (Nat.le_of_ble_eq_true rfl) (fun r ad' f' H locs hw B => ?_)
    rw [st_10] at hw
    dsimp only at hw
    obtain ⟨rfl, rfl, rfl⟩ := hw
    have B : WB g (aw N ad sz) s.heap N ad (mg g ad y cr dr 1 kn rf pl pz mc) H locs := B
    refine lv_if_ne (tgt := 24) hx hb dX4_isZero_9 (by decide) (fun _ => ?_) (fun z => absurd z (by decide))
    refine lv_iconst (v := 0) hx hb dX4_isZero_24 (by decide) ?_
    have ev := (show v_X4_isZero cr a1 = (0, 1) from by unfold v_X4_isZero; rw [if_neg s2])
    exact rt_i X hr (ad, mg g ad y cr dr 1 kn rf pl pz mc) B (PO_of B) ⟨rfl, by rw [ev], by rw [ev]⟩ rfl (Nat.le_of_ble_eq_true rfl) (Nat.le_of_ble_eq_true rfl) dX4_isZero_25
def v_X4_isNegative (cr : Nat → TR) (a1 : Int32) : Int32 × Int32 := if v_X4_isNone a1 = 0 then (if (v_X4_isNegativeNow cr a1) = 0 then (0, 0) else (1, 0)) else (0, 1)
theorem b01_X4_isNegative {cr : Nat → TR} {a1 : Int32} : (v_X4_isNegative cr a1).1 = 0 ∨ (v_X4_isNegative cr a1).1 = 1 := by
  unfold v_X4_isNegative
  by_cases q1 : v_X4_isNone a1 = 0
  · rw [if_pos q1]
    by_cases q2 : (v_X4_isNegativeNow cr a1) = 0
    · rw [if_pos q2]
      exact Or.inl rfl
    · rw [if_neg q2]
      exact Or.inr rfl
  · rw [if_neg q1]
    exact Or.inl rfl
set_option maxHeartbeats 4000000 in
set_option maxRecDepth 100000 in
theorem c_X4_isNegative (l : Launch) (g : GG) (N : Nat) (ad : Nat → Nat) (y : Nat → va_E) (cr dr : Nat → TR) (th kn rf : Int32) (pl : Nat → TR) (pz : Nat) (mc : Int32) (hN : 36 + pz ≤ N) (b0 : Nat) (hb0 : ad 24 = b0) (a1 : Int32) : KI l yX4_isNegative cX4_isNegative 2 (some .boolean) (rm 1 0 0) g [.ref b0, .int a1] N ad (mg g ad y cr dr th kn rf pl pz mc) N (fun r ad' f' => ad = ad' ∧ (v_X4_isNegative cr a1).1 = r ∧ mg g ad y cr dr (v_X4_isNegative cr a1).2 kn rf pl pz mc = f') := by
  intro sz
  refine mt_start (by decide) (Nat.le_of_ble_eq_true rfl) ?_
  intro p e s m args below meth c hsz X hr hnam hA hK hT H locs B ls hl
  obtain ⟨hx, hb, hml, hown, hts, hlocks⟩ := id X
  have hl : lv_has ls 2 [(0, .ref b0), (1, .int a1)] := hl
  refine lv_aload_n hx hb dX4_isNegative_0 rfl (lv_at hl 0 rfl) ?_
  refine lv_iload_n hx hb dX4_isNegative_1 rfl (lv_at hl 1 rfl) ?_
  refine k_i (k := 0) (n := 0) hA B (u_S (rest := [.ref b0]) X (c_X4_isNone l g N ad (mg g ad y cr dr th kn rf pl pz mc) a1 H.size) mw_X4_isNone md_X4_isNone rfl lk_X4_95 ⟨Nat.le_of_ble_eq_true rfl, Nat.le_of_ble_eq_true rfl⟩ hA hK hT B hl.1 rfl (Nat.le_of_ble_eq_true rfl) dX4_isNegative_2 ⟨Nat.le_of_ble_eq_true rfl, Nat.le_of_ble_eq_true rfl⟩) (Nat.le_of_ble_eq_true rfl) (Nat.le_of_ble_eq_true rfl) (fun r1 ad1 f' H locs hw B => ?_)
  obtain ⟨rfl, rfl, rfl⟩ := hw
  refine lv_iconst (v := 0) hx hb dX4_isNegative_5 (by decide) ?_
  by_cases s2 : v_X4_isNone a1 = 0
  · rw [s2]
    refine k_i (k := 0) (n := 0) hA B (b_V (q := 24) (rest := []) hb0 X (c_X4_stops l g N ad y cr dr th kn rf pl pz mc (by omega) b0 hb0 0 0 H.size) mw_X4_stops md_X4_stops rfl lk_X4_99 ⟨Nat.le_of_ble_eq_true rfl, Nat.le_of_ble_eq_true rfl⟩ hA hK hT B (by omega) mg_24 rfl rfl hl.1 rfl (Nat.le_of_ble_eq_true rfl) dX4_isNegative_6 ⟨Nat.le_of_ble_eq_true rfl, Nat.le_of_ble_eq_true rfl⟩) (Nat.le_of_ble_eq_true rfl) (Nat.le_of_ble_eq_true rfl) (fun r ad' f' H locs hw B => ?_)
    rw [st_00] at hw
    dsimp only at hw
    obtain ⟨rfl, rfl, rfl⟩ := hw
    have B : WB g (aw N ad sz) s.heap N ad (mg g ad y cr dr 0 kn rf pl pz mc) H locs := B
    refine lv_if_ne (tgt := 24) hx hb dX4_isNegative_9 (by decide) (fun z => absurd z (by decide)) (fun _ => ?_)
    refine lv_aload_n hx hb dX4_isNegative_12 rfl (lv_at hl 0 rfl) ?_
    refine lv_iload_n hx hb dX4_isNegative_13 rfl (lv_at hl 1 rfl) ?_
    refine k_i (k := 0) (n := 0) hA B (b_V (q := 24) (rest := []) hb0 X (c_X4_isNegativeNow l g N ad y cr dr 0 kn rf pl pz mc (by omega) b0 hb0 a1 s2 H.size) mw_X4_isNegativeNow md_X4_isNegativeNow rfl lk_X4_159 ⟨Nat.le_of_ble_eq_true rfl, Nat.le_of_ble_eq_true rfl⟩ hA hK hT B (by omega) mg_24 rfl rfl hl.1 rfl (Nat.le_of_ble_eq_true rfl) dX4_isNegative_14 ⟨Nat.le_of_ble_eq_true rfl, Nat.le_of_ble_eq_true rfl⟩) (Nat.le_of_ble_eq_true rfl) (Nat.le_of_ble_eq_true rfl) (fun r3 ad3 f' H locs hw B => ?_)
    obtain ⟨rfl, rfl, rfl⟩ := hw
    refine lv_if_eq (tgt := 24) hx hb dX4_isNegative_17 (by decide) (fun c4 => ?_) (fun c4 => ?_)
    · refine lv_iconst (v := 0) hx hb dX4_isNegative_24 (by decide) ?_
      have ev := (show v_X4_isNegative cr a1 = (0, 0) from by unfold v_X4_isNegative; rw [if_pos s2, if_pos c4])
      exact rt_i X hr (ad, mg g ad y cr dr 0 kn rf pl pz mc) B (PO_of B) ⟨rfl, by rw [ev], by rw [ev]⟩ rfl (Nat.le_of_ble_eq_true rfl) (Nat.le_of_ble_eq_true rfl) dX4_isNegative_25
    · refine lv_iconst (v := 1) hx hb dX4_isNegative_20 (by decide) ?_
      refine lv_goto (tgt := 25) hx hb dX4_isNegative_21 (by decide) ?_
      have ev := (show v_X4_isNegative cr a1 = (1, 0) from by unfold v_X4_isNegative; rw [if_pos s2, if_neg c4])
      exact rt_i X hr (ad, mg g ad y cr dr 0 kn rf pl pz mc) B (PO_of B) ⟨rfl, by rw [ev], by rw [ev]⟩ rfl (Nat.le_of_ble_eq_true rfl) (Nat.le_of_ble_eq_true rfl) dX4_isNegative_25
  · have s2x : (v_X4_isNone a1) = 1 := (b01_X4_isNone).resolve_left s2
    rw [s2x]
    refine k_i (k := 0) (n := 0) hA B (b_V (q := 24) (rest := []) hb0 X (c_X4_stops l g N ad y cr dr th kn rf pl pz mc (by omega) b0 hb0 1 0 H.size) mw_X4_stops md_X4_stops rfl lk_X4_99 ⟨Nat.le_of_ble_eq_true rfl, Nat.le_of_ble_eq_true rfl⟩ hA hK hT B (by omega) mg_24 rfl rfl hl.1 rfl (Nat.le_of_ble_eq_true rfl) dX4_isNegative_6 ⟨Nat.le_of_ble_eq_true rfl, Nat.le_of_ble_eq_true rfl⟩) (Nat.le_of_ble_eq_true rfl) (Nat.le_of_ble_eq_true rfl) (fun r ad' f' H locs hw B => ?_)
    rw [st_10] at hw
    dsimp only at hw
    obtain ⟨rfl, rfl, rfl⟩ := hw
    have B : WB g (aw N ad sz) s.heap N ad (mg g ad y cr dr 1 kn rf pl pz mc) H locs := B
    refine lv_if_ne (tgt := 24) hx hb dX4_isNegative_9 (by decide) (fun _ => ?_) (fun z => absurd z (by decide))
    refine lv_iconst (v := 0) hx hb dX4_isNegative_24 (by decide) ?_
    have ev := (show v_X4_isNegative cr a1 = (0, 1) from by unfold v_X4_isNegative; rw [if_neg s2])
    exact rt_i X hr (ad, mg g ad y cr dr 1 kn rf pl pz mc) B (PO_of B) ⟨rfl, by rw [ev], by rw [ev]⟩ rfl (Nat.le_of_ble_eq_true rfl) (Nat.le_of_ble_eq_true rfl) dX4_isNegative_25
def v_X4_areSame (cr : Nat → TR) (a1 : Int32) (a2 : Int32) : Int32 × Int32 := if (v_X4_isNone a1) = 0 then (if (v_X4_isNone a2) = 0 then (if (v_X4_isSame (cr a1.toNatClampNeg) (cr a2.toNatClampNeg)) = 0 then (0, 0) else (1, 0)) else (0, 1)) else (0, 1)
theorem b01_X4_areSame {cr : Nat → TR} {a1 : Int32} {a2 : Int32} : (v_X4_areSame cr a1 a2).1 = 0 ∨ (v_X4_areSame cr a1 a2).1 = 1 := by
  unfold v_X4_areSame
  by_cases q1 : (v_X4_isNone a1) = 0
  · rw [if_pos q1]
    by_cases q2 : (v_X4_isNone a2) = 0
    · rw [if_pos q2]
      by_cases q3 : (v_X4_isSame (cr a1.toNatClampNeg) (cr a2.toNatClampNeg)) = 0
      · rw [if_pos q3]
        exact Or.inl rfl
      · rw [if_neg q3]
        exact Or.inr rfl
    · rw [if_neg q2]
      exact Or.inl rfl
  · rw [if_neg q1]
    exact Or.inl rfl
set_option maxHeartbeats 4000000 in
set_option maxRecDepth 100000 in
theorem c_X4_areSame (l : Launch) (g : GG) (N : Nat) (ad : Nat → Nat) (y : Nat → va_E) (cr dr : Nat → TR) (th kn rf : Int32) (pl : Nat → TR) (pz : Nat) (mc : Int32) (hN : 36 + pz ≤ N) (b0 : Nat) (hb0 : ad 24 = b0) (a1 : Int32) (a2 : Int32) : KI l yX4_areSame cX4_areSame 3 (some .boolean) (rm 1 0 0) g [.ref b0, .int a1, .int a2] N ad (mg g ad y cr dr th kn rf pl pz mc) N (fun r ad' f' => ad = ad' ∧ (v_X4_areSame cr a1 a2).1 = r ∧ mg g ad y cr dr (v_X4_areSame cr a1 a2).2 kn rf pl pz mc = f') := by
  intro sz
  refine mt_start (by decide) (Nat.le_of_ble_eq_true rfl) ?_
  intro p e s m args below meth c hsz X hr hnam hA hK hT H locs B ls hl
  obtain ⟨hx, hb, hml, hown, hts, hlocks⟩ := id X
  have hl : lv_has ls 3 [(0, .ref b0), (1, .int a1), (2, .int a2)] := hl
  refine lv_aload_n hx hb dX4_areSame_0 rfl (lv_at hl 0 rfl) ?_
  refine lv_iload_n hx hb dX4_areSame_1 rfl (lv_at hl 1 rfl) ?_
  refine k_i (k := 0) (n := 0) hA B (u_S (rest := [.ref b0]) X (c_X4_isNone l g N ad (mg g ad y cr dr th kn rf pl pz mc) a1 H.size) mw_X4_isNone md_X4_isNone rfl lk_X4_95 ⟨Nat.le_of_ble_eq_true rfl, Nat.le_of_ble_eq_true rfl⟩ hA hK hT B hl.1 rfl (Nat.le_of_ble_eq_true rfl) dX4_areSame_2 ⟨Nat.le_of_ble_eq_true rfl, Nat.le_of_ble_eq_true rfl⟩) (Nat.le_of_ble_eq_true rfl) (Nat.le_of_ble_eq_true rfl) (fun r1 ad1 f' H locs hw B => ?_)
  obtain ⟨rfl, rfl, rfl⟩ := hw
  refine lv_if_ne (tgt := 15) hx hb dX4_areSame_5 (by decide) (fun c2 => ?_) (fun c2 => ?_)
  · refine lv_iconst (v := 1) hx hb dX4_areSame_15 (by decide) ?_
    refine lv_goto (tgt := 20) hx hb dX4_areSame_16 (by decide) ?_
    refine lv_iconst (v := 0) hx hb dX4_areSame_20 (by decide) ?_
    refine k_i (k := 0) (n := 0) hA B (b_V (q := 24) (rest := []) hb0 X (c_X4_stops l g N ad y cr dr th kn rf pl pz mc (by omega) b0 hb0 1 0 H.size) mw_X4_stops md_X4_stops rfl lk_X4_99 ⟨Nat.le_of_ble_eq_true rfl, Nat.le_of_ble_eq_true rfl⟩ hA hK hT B (by omega) mg_24 rfl rfl hl.1 rfl (Nat.le_of_ble_eq_true rfl) dX4_areSame_21 ⟨Nat.le_of_ble_eq_true rfl, Nat.le_of_ble_eq_true rfl⟩) (Nat.le_of_ble_eq_true rfl) (Nat.le_of_ble_eq_true rfl) (fun r ad' f' H locs hw B => ?_)
    rw [st_10] at hw
    dsimp only at hw
    obtain ⟨rfl, rfl, rfl⟩ := hw
    have B : WB g (aw N ad sz) s.heap N ad (mg g ad y cr dr 1 kn rf pl pz mc) H locs := B
    refine lv_if_ne (tgt := 49) hx hb dX4_areSame_24 (by decide) (fun _ => ?_) (fun z => absurd z (by decide))
    refine lv_iconst (v := 0) hx hb dX4_areSame_49 (by decide) ?_
    have ev := (show v_X4_areSame cr a1 a2 = (0, 1) from by unfold v_X4_areSame; rw [if_neg c2])
    exact rt_i X hr (ad, mg g ad y cr dr 1 kn rf pl pz mc) B (PO_of B) ⟨rfl, by rw [ev], by rw [ev]⟩ rfl (Nat.le_of_ble_eq_true rfl) (Nat.le_of_ble_eq_true rfl) dX4_areSame_50
  · refine lv_iload_n hx hb dX4_areSame_8 rfl (lv_at hl 2 rfl) ?_
    refine k_i (k := 0) (n := 0) hA B (u_S (rest := [.ref b0]) X (c_X4_isNone l g N ad (mg g ad y cr dr th kn rf pl pz mc) a2 H.size) mw_X4_isNone md_X4_isNone rfl lk_X4_95 ⟨Nat.le_of_ble_eq_true rfl, Nat.le_of_ble_eq_true rfl⟩ hA hK hT B hl.1 rfl (Nat.le_of_ble_eq_true rfl) dX4_areSame_9 ⟨Nat.le_of_ble_eq_true rfl, Nat.le_of_ble_eq_true rfl⟩) (Nat.le_of_ble_eq_true rfl) (Nat.le_of_ble_eq_true rfl) (fun r3 ad3 f' H locs hw B => ?_)
    obtain ⟨rfl, rfl, rfl⟩ := hw
    refine lv_if_eq (tgt := 19) hx hb dX4_areSame_12 (by decide) (fun c4 => ?_) (fun c4 => ?_)
    · refine lv_iconst (v := 0) hx hb dX4_areSame_19 (by decide) ?_
      refine lv_iconst (v := 0) hx hb dX4_areSame_20 (by decide) ?_
      refine k_i (k := 0) (n := 0) hA B (b_V (q := 24) (rest := []) hb0 X (c_X4_stops l g N ad y cr dr th kn rf pl pz mc (by omega) b0 hb0 0 0 H.size) mw_X4_stops md_X4_stops rfl lk_X4_99 ⟨Nat.le_of_ble_eq_true rfl, Nat.le_of_ble_eq_true rfl⟩ hA hK hT B (by omega) mg_24 rfl rfl hl.1 rfl (Nat.le_of_ble_eq_true rfl) dX4_areSame_21 ⟨Nat.le_of_ble_eq_true rfl, Nat.le_of_ble_eq_true rfl⟩) (Nat.le_of_ble_eq_true rfl) (Nat.le_of_ble_eq_true rfl) (fun r ad' f' H locs hw B => ?_)
      rw [st_00] at hw
      dsimp only at hw
      obtain ⟨rfl, rfl, rfl⟩ := hw
      have B : WB g (aw N ad sz) s.heap N ad (mg g ad y cr dr 0 kn rf pl pz mc) H locs := B
      refine lv_if_ne (tgt := 49) hx hb dX4_areSame_24 (by decide) (fun z => absurd z (by decide)) (fun _ => ?_)
      refine lv_aload_n hx hb dX4_areSame_27 rfl (lv_at hl 0 rfl) ?_
      refine b_get (q := 24) (k := 1) hb0 X hK B rfl in_X4 (by omega) mg_24 (by decide) lk_X4_11 rfl rfl dX4_areSame_28 ?_
      refine lv_iload_n hx hb dX4_areSame_31 rfl (lv_at hl 1 rfl) ?_
      refine b_aald (q := 25) (t0 := 2) (v := ad (28 + a1.toNatClampNeg)) rfl X hK B (by omega) mg_25 rfl rfl (no_in c2) rfl dX4_areSame_32 ?_
      have g5 : a1.toNatClampNeg < 4 := (no_lt c2)
      refine lv_aload_n hx hb dX4_areSame_33 rfl (lv_at hl 0 rfl) ?_
      refine b_get (q := 24) (k := 1) hb0 X hK B rfl in_X4 (by omega) mg_24 (by decide) lk_X4_11 rfl rfl dX4_areSame_34 ?_
      refine lv_iload_n hx hb dX4_areSame_37 rfl (lv_at hl 2 rfl) ?_
      refine b_aald (q := 25) (t0 := 2) (v := ad (28 + a2.toNatClampNeg)) rfl X hK B (by omega) mg_25 rfl rfl (no_in c4) rfl dX4_areSame_38 ?_
      have g6 : a2.toNatClampNeg < 4 := (no_lt c4)
      refine k_i (k := 0) (n := 0) hA B (u_S (rest := []) X (c_X4_isSame l g N ad (mg g ad y cr dr 0 kn rf pl pz mc) (28 + a1.toNatClampNeg) (ad (28 + a1.toNatClampNeg)) (cr a1.toNatClampNeg) (pl_cr hN g5) rfl (mg_cr g5) (28 + a2.toNatClampNeg) (ad (28 + a2.toNatClampNeg)) (cr a2.toNatClampNeg) (pl_cr hN g6) rfl (mg_cr g6) H.size) mw_X4_isSame md_X4_isSame rfl lk_X4_87 ⟨Nat.le_of_ble_eq_true rfl, Nat.le_of_ble_eq_true rfl⟩ hA hK hT B hl.1 rfl (Nat.le_of_ble_eq_true rfl) dX4_areSame_39 ⟨Nat.le_of_ble_eq_true rfl, Nat.le_of_ble_eq_true rfl⟩) (Nat.le_of_ble_eq_true rfl) (Nat.le_of_ble_eq_true rfl) (fun r7 ad7 f' H locs hw B => ?_)
      obtain ⟨rfl, rfl, rfl⟩ := hw
      refine lv_if_eq (tgt := 49) hx hb dX4_areSame_42 (by decide) (fun c8 => ?_) (fun c8 => ?_)
      · refine lv_iconst (v := 0) hx hb dX4_areSame_49 (by decide) ?_
        have ev := (show v_X4_areSame cr a1 a2 = (0, 0) from by unfold v_X4_areSame; rw [if_pos c2, if_pos c4, if_pos c8])
        exact rt_i X hr (ad, mg g ad y cr dr 0 kn rf pl pz mc) B (PO_of B) ⟨rfl, by rw [ev], by rw [ev]⟩ rfl (Nat.le_of_ble_eq_true rfl) (Nat.le_of_ble_eq_true rfl) dX4_areSame_50
      · refine lv_iconst (v := 1) hx hb dX4_areSame_45 (by decide) ?_
        refine lv_goto (tgt := 50) hx hb dX4_areSame_46 (by decide) ?_
        have ev := (show v_X4_areSame cr a1 a2 = (1, 0) from by unfold v_X4_areSame; rw [if_pos c2, if_pos c4, if_neg c8])
        exact rt_i X hr (ad, mg g ad y cr dr 0 kn rf pl pz mc) B (PO_of B) ⟨rfl, by rw [ev], by rw [ev]⟩ rfl (Nat.le_of_ble_eq_true rfl) (Nat.le_of_ble_eq_true rfl) dX4_areSame_50
    · refine lv_iconst (v := 1) hx hb dX4_areSame_15 (by decide) ?_
      refine lv_goto (tgt := 20) hx hb dX4_areSame_16 (by decide) ?_
      refine lv_iconst (v := 0) hx hb dX4_areSame_20 (by decide) ?_
      refine k_i (k := 0) (n := 0) hA B (b_V (q := 24) (rest := []) hb0 X (c_X4_stops l g N ad y cr dr th kn rf pl pz mc (by omega) b0 hb0 1 0 H.size) mw_X4_stops md_X4_stops rfl lk_X4_99 ⟨Nat.le_of_ble_eq_true rfl, Nat.le_of_ble_eq_true rfl⟩ hA hK hT B (by omega) mg_24 rfl rfl hl.1 rfl (Nat.le_of_ble_eq_true rfl) dX4_areSame_21 ⟨Nat.le_of_ble_eq_true rfl, Nat.le_of_ble_eq_true rfl⟩) (Nat.le_of_ble_eq_true rfl) (Nat.le_of_ble_eq_true rfl) (fun r ad' f' H locs hw B => ?_)
      rw [st_10] at hw
      dsimp only at hw
      obtain ⟨rfl, rfl, rfl⟩ := hw
      have B : WB g (aw N ad sz) s.heap N ad (mg g ad y cr dr 1 kn rf pl pz mc) H locs := B
      refine lv_if_ne (tgt := 49) hx hb dX4_areSame_24 (by decide) (fun _ => ?_) (fun z => absurd z (by decide))
      refine lv_iconst (v := 0) hx hb dX4_areSame_49 (by decide) ?_
      have ev := (show v_X4_areSame cr a1 a2 = (0, 1) from by unfold v_X4_areSame; rw [if_pos c2, if_neg c4])
      exact rt_i X hr (ad, mg g ad y cr dr 1 kn rf pl pz mc) B (PO_of B) ⟨rfl, by rw [ev], by rw [ev]⟩ rfl (Nat.le_of_ble_eq_true rfl) (Nat.le_of_ble_eq_true rfl) dX4_areSame_50
def v_X4_areAlike (cr : Nat → TR) (a1 : Int32) (a2 : Int32) : Int32 × Int32 := if (v_X4_isNone a1) = 0 then (if (v_X4_isNone a2) = 0 then (if (v_X4_isAlike (cr a1.toNatClampNeg) (cr a2.toNatClampNeg)) = 0 then (0, 0) else (1, 0)) else (0, 1)) else (0, 1)
theorem b01_X4_areAlike {cr : Nat → TR} {a1 : Int32} {a2 : Int32} : (v_X4_areAlike cr a1 a2).1 = 0 ∨ (v_X4_areAlike cr a1 a2).1 = 1 := by
  unfold v_X4_areAlike
  by_cases q1 : (v_X4_isNone a1) = 0
  · rw [if_pos q1]
    by_cases q2 : (v_X4_isNone a2) = 0
    · rw [if_pos q2]
      by_cases q3 : (v_X4_isAlike (cr a1.toNatClampNeg) (cr a2.toNatClampNeg)) = 0
      · rw [if_pos q3]
        exact Or.inl rfl
      · rw [if_neg q3]
        exact Or.inr rfl
    · rw [if_neg q2]
      exact Or.inl rfl
  · rw [if_neg q1]
    exact Or.inl rfl
set_option maxHeartbeats 4000000 in
set_option maxRecDepth 100000 in
theorem c_X4_areAlike (l : Launch) (g : GG) (N : Nat) (ad : Nat → Nat) (y : Nat → va_E) (cr dr : Nat → TR) (th kn rf : Int32) (pl : Nat → TR) (pz : Nat) (mc : Int32) (hN : 36 + pz ≤ N) (b0 : Nat) (hb0 : ad 24 = b0) (a1 : Int32) (a2 : Int32) : KI l yX4_areAlike cX4_areAlike 3 (some .boolean) (rm 2 0 0) g [.ref b0, .int a1, .int a2] N ad (mg g ad y cr dr th kn rf pl pz mc) N (fun r ad' f' => ad = ad' ∧ (v_X4_areAlike cr a1 a2).1 = r ∧ mg g ad y cr dr (v_X4_areAlike cr a1 a2).2 kn rf pl pz mc = f') := by
  intro sz
  refine mt_start (by decide) (Nat.le_of_ble_eq_true rfl) ?_
  intro p e s m args below meth c hsz X hr hnam hA hK hT H locs B ls hl
  obtain ⟨hx, hb, hml, hown, hts, hlocks⟩ := id X
  have hl : lv_has ls 3 [(0, .ref b0), (1, .int a1), (2, .int a2)] := hl
  refine lv_aload_n hx hb dX4_areAlike_0 rfl (lv_at hl 0 rfl) ?_
  refine lv_iload_n hx hb dX4_areAlike_1 rfl (lv_at hl 1 rfl) ?_
  refine k_i (k := 0) (n := 0) hA B (u_S (rest := [.ref b0]) X (c_X4_isNone l g N ad (mg g ad y cr dr th kn rf pl pz mc) a1 H.size) mw_X4_isNone md_X4_isNone rfl lk_X4_95 ⟨Nat.le_of_ble_eq_true rfl, Nat.le_of_ble_eq_true rfl⟩ hA hK hT B hl.1 rfl (Nat.le_of_ble_eq_true rfl) dX4_areAlike_2 ⟨Nat.le_of_ble_eq_true rfl, Nat.le_of_ble_eq_true rfl⟩) (Nat.le_of_ble_eq_true rfl) (Nat.le_of_ble_eq_true rfl) (fun r1 ad1 f' H locs hw B => ?_)
  obtain ⟨rfl, rfl, rfl⟩ := hw
  refine lv_if_ne (tgt := 15) hx hb dX4_areAlike_5 (by decide) (fun c2 => ?_) (fun c2 => ?_)
  · refine lv_iconst (v := 1) hx hb dX4_areAlike_15 (by decide) ?_
    refine lv_goto (tgt := 20) hx hb dX4_areAlike_16 (by decide) ?_
    refine lv_iconst (v := 0) hx hb dX4_areAlike_20 (by decide) ?_
    refine k_i (k := 0) (n := 0) hA B (b_V (q := 24) (rest := []) hb0 X (c_X4_stops l g N ad y cr dr th kn rf pl pz mc (by omega) b0 hb0 1 0 H.size) mw_X4_stops md_X4_stops rfl lk_X4_99 ⟨Nat.le_of_ble_eq_true rfl, Nat.le_of_ble_eq_true rfl⟩ hA hK hT B (by omega) mg_24 rfl rfl hl.1 rfl (Nat.le_of_ble_eq_true rfl) dX4_areAlike_21 ⟨Nat.le_of_ble_eq_true rfl, Nat.le_of_ble_eq_true rfl⟩) (Nat.le_of_ble_eq_true rfl) (Nat.le_of_ble_eq_true rfl) (fun r ad' f' H locs hw B => ?_)
    rw [st_10] at hw
    dsimp only at hw
    obtain ⟨rfl, rfl, rfl⟩ := hw
    have B : WB g (aw N ad sz) s.heap N ad (mg g ad y cr dr 1 kn rf pl pz mc) H locs := B
    refine lv_if_ne (tgt := 49) hx hb dX4_areAlike_24 (by decide) (fun _ => ?_) (fun z => absurd z (by decide))
    refine lv_iconst (v := 0) hx hb dX4_areAlike_49 (by decide) ?_
    have ev := (show v_X4_areAlike cr a1 a2 = (0, 1) from by unfold v_X4_areAlike; rw [if_neg c2])
    exact rt_i X hr (ad, mg g ad y cr dr 1 kn rf pl pz mc) B (PO_of B) ⟨rfl, by rw [ev], by rw [ev]⟩ rfl (Nat.le_of_ble_eq_true rfl) (Nat.le_of_ble_eq_true rfl) dX4_areAlike_50
  · refine lv_iload_n hx hb dX4_areAlike_8 rfl (lv_at hl 2 rfl) ?_
    refine k_i (k := 0) (n := 0) hA B (u_S (rest := [.ref b0]) X (c_X4_isNone l g N ad (mg g ad y cr dr th kn rf pl pz mc) a2 H.size) mw_X4_isNone md_X4_isNone rfl lk_X4_95 ⟨Nat.le_of_ble_eq_true rfl, Nat.le_of_ble_eq_true rfl⟩ hA hK hT B hl.1 rfl (Nat.le_of_ble_eq_true rfl) dX4_areAlike_9 ⟨Nat.le_of_ble_eq_true rfl, Nat.le_of_ble_eq_true rfl⟩) (Nat.le_of_ble_eq_true rfl) (Nat.le_of_ble_eq_true rfl) (fun r3 ad3 f' H locs hw B => ?_)
    obtain ⟨rfl, rfl, rfl⟩ := hw
    refine lv_if_eq (tgt := 19) hx hb dX4_areAlike_12 (by decide) (fun c4 => ?_) (fun c4 => ?_)
    · refine lv_iconst (v := 0) hx hb dX4_areAlike_19 (by decide) ?_
      refine lv_iconst (v := 0) hx hb dX4_areAlike_20 (by decide) ?_
      refine k_i (k := 0) (n := 0) hA B (b_V (q := 24) (rest := []) hb0 X (c_X4_stops l g N ad y cr dr th kn rf pl pz mc (by omega) b0 hb0 0 0 H.size) mw_X4_stops md_X4_stops rfl lk_X4_99 ⟨Nat.le_of_ble_eq_true rfl, Nat.le_of_ble_eq_true rfl⟩ hA hK hT B (by omega) mg_24 rfl rfl hl.1 rfl (Nat.le_of_ble_eq_true rfl) dX4_areAlike_21 ⟨Nat.le_of_ble_eq_true rfl, Nat.le_of_ble_eq_true rfl⟩) (Nat.le_of_ble_eq_true rfl) (Nat.le_of_ble_eq_true rfl) (fun r ad' f' H locs hw B => ?_)
      rw [st_00] at hw
      dsimp only at hw
      obtain ⟨rfl, rfl, rfl⟩ := hw
      have B : WB g (aw N ad sz) s.heap N ad (mg g ad y cr dr 0 kn rf pl pz mc) H locs := B
      refine lv_if_ne (tgt := 49) hx hb dX4_areAlike_24 (by decide) (fun z => absurd z (by decide)) (fun _ => ?_)
      refine lv_aload_n hx hb dX4_areAlike_27 rfl (lv_at hl 0 rfl) ?_
      refine b_get (q := 24) (k := 1) hb0 X hK B rfl in_X4 (by omega) mg_24 (by decide) lk_X4_11 rfl rfl dX4_areAlike_28 ?_
      refine lv_iload_n hx hb dX4_areAlike_31 rfl (lv_at hl 1 rfl) ?_
      refine b_aald (q := 25) (t0 := 2) (v := ad (28 + a1.toNatClampNeg)) rfl X hK B (by omega) mg_25 rfl rfl (no_in c2) rfl dX4_areAlike_32 ?_
      have g5 : a1.toNatClampNeg < 4 := (no_lt c2)
      refine lv_aload_n hx hb dX4_areAlike_33 rfl (lv_at hl 0 rfl) ?_
      refine b_get (q := 24) (k := 1) hb0 X hK B rfl in_X4 (by omega) mg_24 (by decide) lk_X4_11 rfl rfl dX4_areAlike_34 ?_
      refine lv_iload_n hx hb dX4_areAlike_37 rfl (lv_at hl 2 rfl) ?_
      refine b_aald (q := 25) (t0 := 2) (v := ad (28 + a2.toNatClampNeg)) rfl X hK B (by omega) mg_25 rfl rfl (no_in c4) rfl dX4_areAlike_38 ?_
      have g6 : a2.toNatClampNeg < 4 := (no_lt c4)
      refine k_i (k := 0) (n := 0) hA B (u_S (rest := []) X (c_X4_isAlike l g N ad (mg g ad y cr dr 0 kn rf pl pz mc) (28 + a1.toNatClampNeg) (ad (28 + a1.toNatClampNeg)) (cr a1.toNatClampNeg) (pl_cr hN g5) rfl (mg_cr g5) (28 + a2.toNatClampNeg) (ad (28 + a2.toNatClampNeg)) (cr a2.toNatClampNeg) (pl_cr hN g6) rfl (mg_cr g6) H.size) mw_X4_isAlike md_X4_isAlike rfl lk_X4_162 ⟨Nat.le_of_ble_eq_true rfl, Nat.le_of_ble_eq_true rfl⟩ hA hK hT B hl.1 rfl (Nat.le_of_ble_eq_true rfl) dX4_areAlike_39 ⟨Nat.le_of_ble_eq_true rfl, Nat.le_of_ble_eq_true rfl⟩) (Nat.le_of_ble_eq_true rfl) (Nat.le_of_ble_eq_true rfl) (fun r7 ad7 f' H locs hw B => ?_)
      obtain ⟨rfl, rfl, rfl⟩ := hw
      refine lv_if_eq (tgt := 49) hx hb dX4_areAlike_42 (by decide) (fun c8 => ?_) (fun c8 => ?_)
      · refine lv_iconst (v := 0) hx hb dX4_areAlike_49 (by decide) ?_
        have ev := (show v_X4_areAlike cr a1 a2 = (0, 0) from by unfold v_X4_areAlike; rw [if_pos c2, if_pos c4, if_pos c8])
        exact rt_i X hr (ad, mg g ad y cr dr 0 kn rf pl pz mc) B (PO_of B) ⟨rfl, by rw [ev], by rw [ev]⟩ rfl (Nat.le_of_ble_eq_true rfl) (Nat.le_of_ble_eq_true rfl) dX4_areAlike_50
      · refine lv_iconst (v := 1) hx hb dX4_areAlike_45 (by decide) ?_
        refine lv_goto (tgt := 50) hx hb dX4_areAlike_46 (by decide) ?_
        have ev := (show v_X4_areAlike cr a1 a2 = (1, 0) from by unfold v_X4_areAlike; rw [if_pos c2, if_pos c4, if_neg c8])
        exact rt_i X hr (ad, mg g ad y cr dr 0 kn rf pl pz mc) B (PO_of B) ⟨rfl, by rw [ev], by rw [ev]⟩ rfl (Nat.le_of_ble_eq_true rfl) (Nat.le_of_ble_eq_true rfl) dX4_areAlike_50
    · refine lv_iconst (v := 1) hx hb dX4_areAlike_15 (by decide) ?_
      refine lv_goto (tgt := 20) hx hb dX4_areAlike_16 (by decide) ?_
      refine lv_iconst (v := 0) hx hb dX4_areAlike_20 (by decide) ?_
      refine k_i (k := 0) (n := 0) hA B (b_V (q := 24) (rest := []) hb0 X (c_X4_stops l g N ad y cr dr th kn rf pl pz mc (by omega) b0 hb0 1 0 H.size) mw_X4_stops md_X4_stops rfl lk_X4_99 ⟨Nat.le_of_ble_eq_true rfl, Nat.le_of_ble_eq_true rfl⟩ hA hK hT B (by omega) mg_24 rfl rfl hl.1 rfl (Nat.le_of_ble_eq_true rfl) dX4_areAlike_21 ⟨Nat.le_of_ble_eq_true rfl, Nat.le_of_ble_eq_true rfl⟩) (Nat.le_of_ble_eq_true rfl) (Nat.le_of_ble_eq_true rfl) (fun r ad' f' H locs hw B => ?_)
      rw [st_10] at hw
      dsimp only at hw
      obtain ⟨rfl, rfl, rfl⟩ := hw
      have B : WB g (aw N ad sz) s.heap N ad (mg g ad y cr dr 1 kn rf pl pz mc) H locs := B
      refine lv_if_ne (tgt := 49) hx hb dX4_areAlike_24 (by decide) (fun _ => ?_) (fun z => absurd z (by decide))
      refine lv_iconst (v := 0) hx hb dX4_areAlike_49 (by decide) ?_
      have ev := (show v_X4_areAlike cr a1 a2 = (0, 1) from by unfold v_X4_areAlike; rw [if_pos c2, if_neg c4])
      exact rt_i X hr (ad, mg g ad y cr dr 1 kn rf pl pz mc) B (PO_of B) ⟨rfl, by rw [ev], by rw [ev]⟩ rfl (Nat.le_of_ble_eq_true rfl) (Nat.le_of_ble_eq_true rfl) dX4_areAlike_50
def v_X4_knock (kn : Int32) : Int32 × Int32 × Int32 := (kn + 1, 0, kn + 1)
set_option maxHeartbeats 4000000 in
set_option maxRecDepth 100000 in
theorem c_X4_knock (l : Launch) (g : GG) (N : Nat) (ad : Nat → Nat) (y : Nat → va_E) (cr dr : Nat → TR) (th kn rf : Int32) (pl : Nat → TR) (pz : Nat) (mc : Int32) (hN : 36 + pz ≤ N) (b0 : Nat) (hb0 : ad 24 = b0) : KI l yX4_knock cX4_knock 1 (some .int) (rm 0 0 0) g [.ref b0] N ad (mg g ad y cr dr th kn rf pl pz mc) N (fun r ad' f' => ad = ad' ∧ (v_X4_knock kn).1 = r ∧ mg g ad y cr dr (v_X4_knock kn).2.1 (v_X4_knock kn).2.2 rf pl pz mc = f') := by
  intro sz
  refine mt_start (by decide) (Nat.le_of_ble_eq_true rfl) ?_
  intro p e s m args below meth c hsz X hr hnam hA hK hT H locs B ls hl
  obtain ⟨hx, hb, hml, hown, hts, hlocks⟩ := id X
  have hl : lv_has ls 1 [(0, .ref b0)] := hl
  refine lv_aload_n hx hb dX4_knock_0 rfl (lv_at hl 0 rfl) ?_
  refine lv_iconst (v := 0) hx hb dX4_knock_1 (by decide) ?_
  refine b_put (q := 24) (k := 0) hb0 X hK B rfl in_X4 tyX4_ok nmX4 (by omega) mg_24 (by decide) lk_X4_26 rfl rfl rfl rfl rfl (Nat.le_of_ble_eq_true rfl) dX4_knock_2 (fun H locs B => ?_)
  have B : WB g (aw N ad sz) s.heap N ad (mg g ad y cr dr 0 kn rf pl pz mc) H locs := by rw [← mg_up_md]; exact B
  refine lv_aload_n hx hb dX4_knock_5 rfl (lv_at hl 0 rfl) ?_
  refine lv_dup hx hb dX4_knock_6 rfl ?_
  refine b_get (q := 24) (k := 4) hb0 X hK B rfl in_X4 (by omega) mg_24 (by decide) lk_X4_246 rfl rfl dX4_knock_7 ?_
  refine lv_iconst (v := 1) hx hb dX4_knock_10 (by decide) ?_
  refine lv_iadd hx hb dX4_knock_11 ?_
  refine b_put (q := 24) (k := 4) hb0 X hK B rfl in_X4 tyX4_ok nmX4 (by omega) mg_24 (by decide) lk_X4_246 rfl rfl rfl rfl rfl (Nat.le_of_ble_eq_true rfl) dX4_knock_12 (fun H locs B => ?_)
  have B : WB g (aw N ad sz) s.heap N ad (mg g ad y cr dr 0 (kn + 1) rf pl pz mc) H locs := by rw [← mg_up_md]; exact B
  refine lv_aload_n hx hb dX4_knock_15 rfl (lv_at hl 0 rfl) ?_
  refine b_get (q := 24) (k := 4) hb0 X hK B rfl in_X4 (by omega) mg_24 (by decide) lk_X4_246 rfl rfl dX4_knock_16 ?_
  have ev := (show v_X4_knock kn = (kn + 1, 0, kn + 1) from rfl)
  exact rt_i X hr (ad, mg g ad y cr dr 0 (kn + 1) rf pl pz mc) B (PO_of B) ⟨rfl, by rw [ev], by rw [ev]⟩ rfl (Nat.le_of_ble_eq_true rfl) (Nat.le_of_ble_eq_true rfl) dX4_knock_19
