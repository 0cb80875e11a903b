def v_X4_apart (tj0 : TR) (tj1 : TR) : Option TR := if (v_X4_number tj0) ≤ (v_X4_number tj1) then (if tj0.2.2 ≤ tj1.2.2 then (om (v_X4_onByMonths tj0 ((((12 * (tj1.1 - tj0.1)) + tj1.2.1) - tj0.2.1).toInt64)) none (fun t4 => some ((((12 * (tj1.1 - tj0.1)) + tj1.2.1) - tj0.2.1) / 12, (((12 * (tj1.1 - tj0.1)) + tj1.2.1) - tj0.2.1) - (((12 * (tj1.1 - tj0.1)) + tj1.2.1) - tj0.2.1) / 12 * 12, (v_X4_number tj1) - (v_X4_number t4)))) else (om (v_X4_onByMonths tj0 (((((12 * (tj1.1 - tj0.1)) + tj1.2.1) - tj0.2.1) + (-1)).toInt64)) none (fun t6 => some (((((12 * (tj1.1 - tj0.1)) + tj1.2.1) - tj0.2.1) + (-1)) / 12, ((((12 * (tj1.1 - tj0.1)) + tj1.2.1) - tj0.2.1) + (-1)) - ((((12 * (tj1.1 - tj0.1)) + tj1.2.1) - tj0.2.1) + (-1)) / 12 * 12, (v_X4_number tj1) - (v_X4_number t6))))) else (if tj0.2.2 ≤ 28 then (if tj1.2.2 ≤ tj0.2.2 then (om (v_X4_onByMonths tj0 ((((12 * (tj1.1 - tj0.1)) + tj1.2.1) - tj0.2.1).toInt64)) none (fun t10 => some ((((12 * (tj1.1 - tj0.1)) + tj1.2.1) - tj0.2.1) / 12, (((12 * (tj1.1 - tj0.1)) + tj1.2.1) - tj0.2.1) - (((12 * (tj1.1 - tj0.1)) + tj1.2.1) - tj0.2.1) / 12 * 12, (v_X4_number tj1) - (v_X4_number t10)))) else (if 0 ≤ (((12 * (tj1.1 - tj0.1)) + tj1.2.1) - tj0.2.1) then (om (v_X4_onByMonths tj0 ((((12 * (tj1.1 - tj0.1)) + tj1.2.1) - tj0.2.1).toInt64)) none (fun t13 => some ((((12 * (tj1.1 - tj0.1)) + tj1.2.1) - tj0.2.1) / 12, (((12 * (tj1.1 - tj0.1)) + tj1.2.1) - tj0.2.1) - (((12 * (tj1.1 - tj0.1)) + tj1.2.1) - tj0.2.1) / 12 * 12, (v_X4_number tj1) - (v_X4_number t13)))) else (om (v_X4_onByMonths tj0 (((((12 * (tj1.1 - tj0.1)) + tj1.2.1) - tj0.2.1) + 1).toInt64)) none (fun t15 => some (((((12 * (tj1.1 - tj0.1)) + tj1.2.1) - tj0.2.1) + 1) / 12, ((((12 * (tj1.1 - tj0.1)) + tj1.2.1) - tj0.2.1) + 1) - ((((12 * (tj1.1 - tj0.1)) + tj1.2.1) - tj0.2.1) + 1) / 12 * 12, (v_X4_number tj1) - (v_X4_number t15)))))) else none)
set_option maxHeartbeats 4000000 in
set_option maxRecDepth 100000 in
theorem c_X4_apart (l : Launch) (g : GG) (N : Nat) (ad : Nat → Nat) (f : Nat → va_E) (j0 bj0 : Nat) (tj0 : TR) (hj0 : j0 < N) (hbj0 : ad j0 = bj0) (hfj0 : f j0 = c_row g tj0) (j1 bj1 : Nat) (tj1 : TR) (hj1 : j1 < N) (hbj1 : ad j1 = bj1) (hfj1 : f j1 = c_row g tj1) (hda : okd tj0) (hdb : okd tj1) : KR l yX4_apart cX4_apart 4 (.array .int) (rm 3 2 6) g [.ref bj0, .ref bj1] N ad f (N + nz (v_X4_apart tj0 tj1)) (fun r ad' f' => pw g (v_X4_apart tj0 tj1) N ad f r ad' f') := by
  intro sz
  refine mt_start (by decide) (Nat.le_of_ble_eq_true rfl) ?_
  intro p e s m args below meth c hsz X hr hnam hA hK hT H locs B ls hl
  obtain ⟨hx, hb, hml, hown, hts, hlocks⟩ := id X
  have hl : lv_has ls 4 [(0, .ref bj0), (1, .ref bj1)] := hl
  refine lv_bipush (v := 12) hx hb dX4_apart_0 (by decide) ?_
  refine lv_aload_n hx hb dX4_apart_2 rfl (lv_at hl 1 rfl) ?_
  refine lv_iconst (v := 0) hx hb dX4_apart_3 (by decide) ?_
  refine h_ld0 X hK B hj1 hbj1 hfj1 dX4_apart_4 ?_
  refine lv_aload_n hx hb dX4_apart_5 rfl (lv_at hl 0 rfl) ?_
  refine lv_iconst (v := 0) hx hb dX4_apart_6 (by decide) ?_
  refine h_ld0 X hK B hj0 hbj0 hfj0 dX4_apart_7 ?_
  refine lv_isub hx hb dX4_apart_8 ?_
  refine lv_imul hx hb dX4_apart_9 ?_
  refine lv_aload_n hx hb dX4_apart_10 rfl (lv_at hl 1 rfl) ?_
  refine lv_iconst (v := 1) hx hb dX4_apart_11 (by decide) ?_
  refine h_ld1 X hK B hj1 hbj1 hfj1 dX4_apart_12 ?_
  refine lv_iadd hx hb dX4_apart_13 ?_
  refine lv_aload_n hx hb dX4_apart_14 rfl (lv_at hl 0 rfl) ?_
  refine lv_iconst (v := 1) hx hb dX4_apart_15 (by decide) ?_
  refine h_ld1 X hK B hj0 hbj0 hfj0 dX4_apart_16 ?_
  refine lv_isub hx hb dX4_apart_17 ?_
  refine lv_istore_n (lv' := [(2, .int (((12 * (tj1.1 - tj0.1)) + tj1.2.1) - tj0.2.1)), (0, .ref bj0), (1, .ref bj1)]) hx hb dX4_apart_18 rfl hl (by decide) rfl (fun ls hl => ?_)
  refine lv_aload_n hx hb dX4_apart_19 rfl (lv_at hl 2 rfl) ?_
  refine k_i (k := 0) (n := 0) hA B (u_S (rest := []) X (c_X4_number l g N ad f j1 bj1 tj1 hj1 hbj1 hfj1 (okd_mo hdb) H.size) mw_X4_number md_X4_number rfl lk_X4_198 ⟨Nat.le_of_ble_eq_true rfl, Nat.le_of_ble_eq_true rfl⟩ hA hK hT B hl.1 rfl (Nat.le_of_ble_eq_true rfl) dX4_apart_20 ⟨Nat.le_of_ble_eq_true rfl, Nat.le_of_ble_eq_true rfl⟩) (Nat.le_of_ble_eq_true rfl) (Nat.le_of_ble_eq_true rfl) (fun r ad' f' H locs hw B => ?_)
  obtain ⟨rfl, rfl, rfl⟩ := hw
  refine lv_aload_n hx hb dX4_apart_23 rfl (lv_at hl 1 rfl) ?_
  refine k_i (k := 0) (n := 0) hA B (u_S (rest := [.int (v_X4_number tj1)]) X (c_X4_number l g N ad f j0 bj0 tj0 hj0 hbj0 hfj0 (okd_mo hda) H.size) mw_X4_number md_X4_number rfl lk_X4_198 ⟨Nat.le_of_ble_eq_true rfl, Nat.le_of_ble_eq_true rfl⟩ hA hK hT B hl.1 rfl (Nat.le_of_ble_eq_true rfl) dX4_apart_24 ⟨Nat.le_of_ble_eq_true rfl, Nat.le_of_ble_eq_true rfl⟩) (Nat.le_of_ble_eq_true rfl) (Nat.le_of_ble_eq_true rfl) (fun r ad' f' H locs hw B => ?_)
  obtain ⟨rfl, rfl, rfl⟩ := hw
  refine lv_icmp_ge (tgt := 34) hx hb dX4_apart_27 (by decide) (fun c1 => ?_) (fun c1 => ?_)
  · refine lv_iconst (v := 0) hx hb dX4_apart_34 (by decide) ?_
    refine lv_istore_n (lv' := [(3, .int 0), (2, .int (((12 * (tj1.1 - tj0.1)) + tj1.2.1) - tj0.2.1)), (0, .ref bj0), (1, .ref bj1)]) hx hb dX4_apart_35 rfl hl (by decide) rfl (fun ls hl => ?_)
    refine lv_iload_n hx hb dX4_apart_36 rfl (lv_at hl 0 rfl) ?_
    refine lv_if_eq (tgt := 50) hx hb dX4_apart_37 (by decide) (fun _ => ?_) (fun z => absurd z (by decide))
    refine lv_iload_n hx hb dX4_apart_50 rfl (lv_at hl 0 rfl) ?_
    refine lv_if_ne (tgt := 66) hx hb dX4_apart_51 (by decide) (fun z => absurd z (by decide)) (fun _ => ?_)
    refine lv_aload_n hx hb dX4_apart_54 rfl (lv_at hl 3 rfl) ?_
    refine lv_iconst (v := 2) hx hb dX4_apart_55 (by decide) ?_
    refine h_ld2 X hK B hj1 hbj1 hfj1 dX4_apart_56 ?_
    refine lv_aload_n hx hb dX4_apart_57 rfl (lv_at hl 2 rfl) ?_
    refine lv_iconst (v := 2) hx hb dX4_apart_58 (by decide) ?_
    refine h_ld2 X hK B hj0 hbj0 hfj0 dX4_apart_59 ?_
    refine lv_icmp_ge (tgt := 66) hx hb dX4_apart_60 (by decide) (fun c2 => ?_) (fun c2 => ?_)
    · refine lv_iload_n hx hb dX4_apart_66 rfl (lv_at hl 0 rfl) ?_
      refine lv_if_eq (tgt := 86) hx hb dX4_apart_67 (by decide) (fun _ => ?_) (fun z => absurd z (by decide))
      refine lv_iconst (v := 3) hx hb dX4_apart_86 (by decide) ?_
      refine h_new3 (cz := 1) (sz := 3) X hA hK B (Nat.le_of_ble_eq_true rfl) (Nat.le_of_ble_eq_true rfl) (Nat.le_of_ble_eq_true rfl) (Nat.le_of_ble_eq_true rfl) dX4_apart_87 (fun z3 H B => ?_)
      refine lv_dup hx hb dX4_apart_89 rfl ?_
      refine lv_iconst (v := 0) hx hb dX4_apart_90 (by decide) ?_
      refine lv_iload_n hx hb dX4_apart_91 rfl (lv_at hl 1 rfl) ?_
      refine lv_bipush (v := 12) hx hb dX4_apart_92 (by decide) ?_
      refine lv_idiv hx hb dX4_apart_94 (by decide) ?_
      refine h_st (t := (0, 0, 0)) (t' := ((((12 * (tj1.1 - tj0.1)) + tj1.2.1) - tj0.2.1) / 12, 0, 0)) X hK B (Nat.lt_succ_self _) up_eq up_eq (by unfold vp_in; decide) (rw3_s0 _ _) dX4_apart_95 (fun H locs B => ?_)
      rw [bx_uu] at B
      refine lv_dup hx hb dX4_apart_96 rfl ?_
      refine lv_iconst (v := 1) hx hb dX4_apart_97 (by decide) ?_
      refine lv_iload_n hx hb dX4_apart_98 rfl (lv_at hl 1 rfl) ?_
      refine lv_bipush (v := 12) hx hb dX4_apart_99 (by decide) ?_
      refine lv_irem hx hb dX4_apart_101 (by decide) ?_
      refine h_st (t := ((((12 * (tj1.1 - tj0.1)) + tj1.2.1) - tj0.2.1) / 12, 0, 0)) (t' := ((((12 * (tj1.1 - tj0.1)) + tj1.2.1) - tj0.2.1) / 12, (((12 * (tj1.1 - tj0.1)) + tj1.2.1) - tj0.2.1) - (((12 * (tj1.1 - tj0.1)) + tj1.2.1) - tj0.2.1) / 12 * 12, 0)) X hK B (Nat.lt_succ_self _) up_eq up_eq (by unfold vp_in; decide) (rw3_s1 _ _) dX4_apart_102 (fun H locs B => ?_)
      rw [bx_uu] at B
      refine lv_dup hx hb dX4_apart_103 rfl ?_
      refine lv_iconst (v := 2) hx hb dX4_apart_104 (by decide) ?_
      refine lv_aload_n hx hb dX4_apart_105 rfl (lv_at hl 3 rfl) ?_
      refine k_i (k := 1) (n := 3) hA B (u_S (rest := [.int 2, .ref z3, .ref z3]) X (c_X4_number l g (N + 1) (va_up ad N z3) (va_up f N (c_row g ((((12 * (tj1.1 - tj0.1)) + tj1.2.1) - tj0.2.1) / 12, (((12 * (tj1.1 - tj0.1)) + tj1.2.1) - tj0.2.1) - (((12 * (tj1.1 - tj0.1)) + tj1.2.1) - tj0.2.1) / 12 * 12, 0))) j1 bj1 tj1 (Nat.lt_succ_of_lt hj1) ((up_lt hj1).trans hbj1) ((up_lt hj1).trans hfj1) (okd_mo hdb) H.size) mw_X4_number md_X4_number rfl lk_X4_198 ⟨Nat.le_of_ble_eq_true rfl, Nat.le_of_ble_eq_true rfl⟩ hA hK hT B hl.1 rfl (Nat.le_of_ble_eq_true rfl) dX4_apart_106 ⟨Nat.le_of_ble_eq_true rfl, Nat.le_of_ble_eq_true rfl⟩) (Nat.le_of_ble_eq_true rfl) (Nat.le_of_ble_eq_true rfl) (fun r ad' f' H locs hw B => ?_)
      obtain ⟨rfl, rfl, rfl⟩ := hw
      refine lv_aload_n hx hb dX4_apart_109 rfl (lv_at hl 2 rfl) ?_
      refine lv_iload_n hx hb dX4_apart_110 rfl (lv_at hl 1 rfl) ?_
      refine lv_i2l (v := (((12 * (tj1.1 - tj0.1)) + tj1.2.1) - tj0.2.1).toInt64) hx hb dX4_apart_111 rfl ?_
      refine k_r (k := 2) (n := 6) hA B (u_S (rest := [.int (v_X4_number tj1), .int 2, .ref z3, .ref z3]) X (c_X4_onByMonths l g (N + 1) (va_up ad N z3) (va_up f N (c_row g ((((12 * (tj1.1 - tj0.1)) + tj1.2.1) - tj0.2.1) / 12, (((12 * (tj1.1 - tj0.1)) + tj1.2.1) - tj0.2.1) - (((12 * (tj1.1 - tj0.1)) + tj1.2.1) - tj0.2.1) / 12 * 12, 0))) j0 bj0 tj0 (Nat.lt_succ_of_lt hj0) ((up_lt hj0).trans hbj0) ((up_lt hj0).trans hfj0) ((((12 * (tj1.1 - tj0.1)) + tj1.2.1) - tj0.2.1).toInt64) H.size) mw_X4_onByMonths md_X4_onByMonths rfl lk_X4_194 ⟨Nat.le_of_ble_eq_true rfl, Nat.le_of_ble_eq_true rfl⟩ hA hK hT B hl.1 rfl (Nat.le_of_ble_eq_true rfl) dX4_apart_112 ⟨Nat.le_of_ble_eq_true rfl, Nat.le_of_ble_eq_true rfl⟩) (Nat.le_of_ble_eq_true rfl) (Nat.le_of_ble_eq_true rfl) (fun r ad' f' H locs hw B => ?_)
      generalize o4 : (v_X4_onByMonths tj0 ((((12 * (tj1.1 - tj0.1)) + tj1.2.1) - tj0.2.1).toInt64)) = v9 at hw B
      obtain ⟨t4, rfl⟩ : ∃ t, v9 = some t := by cases v9 with | none => exact absurd o4 (ap_0 hda hdb) | some t => exact ⟨t, rfl⟩
      obtain ⟨z4, rfl, rfl, rfl⟩ := pw_s hw
      refine k_i (k := 2) (n := 6) hA B (u_S (rest := [.int (v_X4_number tj1), .int 2, .ref z3, .ref z3]) X (c_X4_number l g (N + 1 + 1) (va_up (va_up ad N z3) (N + 1) z4) (va_up (va_up f N (c_row g ((((12 * (tj1.1 - tj0.1)) + tj1.2.1) - tj0.2.1) / 12, (((12 * (tj1.1 - tj0.1)) + tj1.2.1) - tj0.2.1) - (((12 * (tj1.1 - tj0.1)) + tj1.2.1) - tj0.2.1) / 12 * 12, 0))) (N + 1) (c_row g t4)) (N + 1) z4 t4 (Nat.lt_succ_self _) up_eq up_eq (onb_mo o4) H.size) mw_X4_number md_X4_number rfl lk_X4_198 ⟨Nat.le_of_ble_eq_true rfl, Nat.le_of_ble_eq_true rfl⟩ hA hK hT B hl.1 rfl (Nat.le_of_ble_eq_true rfl) dX4_apart_115 ⟨Nat.le_of_ble_eq_true rfl, Nat.le_of_ble_eq_true rfl⟩) (Nat.le_of_ble_eq_true rfl) (Nat.le_of_ble_eq_true rfl) (fun r ad' f' H locs hw B => ?_)
      obtain ⟨rfl, rfl, rfl⟩ := hw
      refine lv_isub hx hb dX4_apart_118 ?_
      have B : WB g (aw N ad sz) s.heap (N + 1) (va_up ad N z3) (va_up f N (c_row g ((((12 * (tj1.1 - tj0.1)) + tj1.2.1) - tj0.2.1) / 12, (((12 * (tj1.1 - tj0.1)) + tj1.2.1) - tj0.2.1) - (((12 * (tj1.1 - tj0.1)) + tj1.2.1) - tj0.2.1) / 12 * 12, 0))) H locs := B.drop (by omega) (fun _ hk => (up_lt hk)) (fun _ hk => (up_lt hk))
      refine h_st (t := ((((12 * (tj1.1 - tj0.1)) + tj1.2.1) - tj0.2.1) / 12, (((12 * (tj1.1 - tj0.1)) + tj1.2.1) - tj0.2.1) - (((12 * (tj1.1 - tj0.1)) + tj1.2.1) - tj0.2.1) / 12 * 12, 0)) (t' := ((((12 * (tj1.1 - tj0.1)) + tj1.2.1) - tj0.2.1) / 12, (((12 * (tj1.1 - tj0.1)) + tj1.2.1) - tj0.2.1) - (((12 * (tj1.1 - tj0.1)) + tj1.2.1) - tj0.2.1) / 12 * 12, (v_X4_number tj1) - (v_X4_number t4))) X hK B (Nat.lt_succ_self _) up_eq up_eq (by unfold vp_in; decide) (rw3_s2 _ _) dX4_apart_119 (fun H locs B => ?_)
      rw [bx_uu] at B
      have ev := (show v_X4_apart tj0 tj1 = some ((((12 * (tj1.1 - tj0.1)) + tj1.2.1) - tj0.2.1) / 12, (((12 * (tj1.1 - tj0.1)) + tj1.2.1) - tj0.2.1) - (((12 * (tj1.1 - tj0.1)) + tj1.2.1) - tj0.2.1) / 12 * 12, (v_X4_number tj1) - (v_X4_number t4)) from by unfold v_X4_apart; rw [if_pos c1, if_pos c2, om_some o4])
      have B : WB g (aw N ad sz) s.heap (N + 1) (va_up ad N z3) (va_up f N (c_row g ((((12 * (tj1.1 - tj0.1)) + tj1.2.1) - tj0.2.1) / 12, (((12 * (tj1.1 - tj0.1)) + tj1.2.1) - tj0.2.1) - (((12 * (tj1.1 - tj0.1)) + tj1.2.1) - tj0.2.1) / 12 * 12, (v_X4_number tj1) - (v_X4_number t4)))) H locs := WB_pick B (by omega) (Nat.lt_succ_self _) (fun _ hk => (up_lt hk)) (fun _ hk => (up_lt hk)) up_eq up_eq
      exact rt_r (r := some z3) rfl X hr (Or.inr ⟨_, rfl⟩) (va_up ad N z3, va_up f N (c_row g ((((12 * (tj1.1 - tj0.1)) + tj1.2.1) - tj0.2.1) / 12, (((12 * (tj1.1 - tj0.1)) + tj1.2.1) - tj0.2.1) - (((12 * (tj1.1 - tj0.1)) + tj1.2.1) - tj0.2.1) / 12 * 12, (v_X4_number tj1) - (v_X4_number t4)))) B (by rw [ev]; exact PO_of B) (by rw [ev]; exact pw_is) (Nat.le_of_ble_eq_true rfl) (Nat.le_of_ble_eq_true rfl) dX4_apart_120
    · refine lv_iinc (v := (((12 * (tj1.1 - tj0.1)) + tj1.2.1) - tj0.2.1) + (-1)) (lv' := [(2, .int ((((12 * (tj1.1 - tj0.1)) + tj1.2.1) - tj0.2.1) + (-1))), (3, .int 0), (0, .ref bj0), (1, .ref bj1)]) hx hb dX4_apart_63 hl (k := 1) rfl rfl (by decide) rfl (fun ls hl => ?_)
      refine lv_iload_n hx hb dX4_apart_66 rfl (lv_at hl 1 rfl) ?_
      refine lv_if_eq (tgt := 86) hx hb dX4_apart_67 (by decide) (fun _ => ?_) (fun z => absurd z (by decide))
      refine lv_iconst (v := 3) hx hb dX4_apart_86 (by decide) ?_
      refine h_new3 (cz := 1) (sz := 3) X hA hK B (Nat.le_of_ble_eq_true rfl) (Nat.le_of_ble_eq_true rfl) (Nat.le_of_ble_eq_true rfl) (Nat.le_of_ble_eq_true rfl) dX4_apart_87 (fun z5 H B => ?_)
      refine lv_dup hx hb dX4_apart_89 rfl ?_
      refine lv_iconst (v := 0) hx hb dX4_apart_90 (by decide) ?_
      refine lv_iload_n hx hb dX4_apart_91 rfl (lv_at hl 0 rfl) ?_
      refine lv_bipush (v := 12) hx hb dX4_apart_92 (by decide) ?_
      refine lv_idiv hx hb dX4_apart_94 (by decide) ?_
      refine h_st (t := (0, 0, 0)) (t' := (((((12 * (tj1.1 - tj0.1)) + tj1.2.1) - tj0.2.1) + (-1)) / 12, 0, 0)) X hK B (Nat.lt_succ_self _) up_eq up_eq (by unfold vp_in; decide) (rw3_s0 _ _) dX4_apart_95 (fun H locs B => ?_)
      rw [bx_uu] at B
      refine lv_dup hx hb dX4_apart_96 rfl ?_
      refine lv_iconst (v := 1) hx hb dX4_apart_97 (by decide) ?_
      refine lv_iload_n hx hb dX4_apart_98 rfl (lv_at hl 0 rfl) ?_
      refine lv_bipush (v := 12) hx hb dX4_apart_99 (by decide) ?_
      refine lv_irem hx hb dX4_apart_101 (by decide) ?_
      refine h_st (t := (((((12 * (tj1.1 - tj0.1)) + tj1.2.1) - tj0.2.1) + (-1)) / 12, 0, 0)) (t' := (((((12 * (tj1.1 - tj0.1)) + tj1.2.1) - tj0.2.1) + (-1)) / 12, ((((12 * (tj1.1 - tj0.1)) + tj1.2.1) - tj0.2.1) + (-1)) - ((((12 * (tj1.1 - tj0.1)) + tj1.2.1) - tj0.2.1) + (-1)) / 12 * 12, 0)) X hK B (Nat.lt_succ_self _) up_eq up_eq (by unfold vp_in; decide) (rw3_s1 _ _) dX4_apart_102 (fun H locs B => ?_)
      rw [bx_uu] at B
      refine lv_dup hx hb dX4_apart_103 rfl ?_
      refine lv_iconst (v := 2) hx hb dX4_apart_104 (by decide) ?_
      refine lv_aload_n hx hb dX4_apart_105 rfl (lv_at hl 3 rfl) ?_
      refine k_i (k := 1) (n := 3) hA B (u_S (rest := [.int 2, .ref z5, .ref z5]) X (c_X4_number l g (N + 1) (va_up ad N z5) (va_up f N (c_row g (((((12 * (tj1.1 - tj0.1)) + tj1.2.1) - tj0.2.1) + (-1)) / 12, ((((12 * (tj1.1 - tj0.1)) + tj1.2.1) - tj0.2.1) + (-1)) - ((((12 * (tj1.1 - tj0.1)) + tj1.2.1) - tj0.2.1) + (-1)) / 12 * 12, 0))) j1 bj1 tj1 (Nat.lt_succ_of_lt hj1) ((up_lt hj1).trans hbj1) ((up_lt hj1).trans hfj1) (okd_mo hdb) H.size) mw_X4_number md_X4_number rfl lk_X4_198 ⟨Nat.le_of_ble_eq_true rfl, Nat.le_of_ble_eq_true rfl⟩ hA hK hT B hl.1 rfl (Nat.le_of_ble_eq_true rfl) dX4_apart_106 ⟨Nat.le_of_ble_eq_true rfl, Nat.le_of_ble_eq_true rfl⟩) (Nat.le_of_ble_eq_true rfl) (Nat.le_of_ble_eq_true rfl) (fun r ad' f' H locs hw B => ?_)
      obtain ⟨rfl, rfl, rfl⟩ := hw
      refine lv_aload_n hx hb dX4_apart_109 rfl (lv_at hl 2 rfl) ?_
      refine lv_iload_n hx hb dX4_apart_110 rfl (lv_at hl 0 rfl) ?_
      refine lv_i2l (v := ((((12 * (tj1.1 - tj0.1)) + tj1.2.1) - tj0.2.1) + (-1)).toInt64) hx hb dX4_apart_111 rfl ?_
      refine k_r (k := 2) (n := 6) hA B (u_S (rest := [.int (v_X4_number tj1), .int 2, .ref z5, .ref z5]) X (c_X4_onByMonths l g (N + 1) (va_up ad N z5) (va_up f N (c_row g (((((12 * (tj1.1 - tj0.1)) + tj1.2.1) - tj0.2.1) + (-1)) / 12, ((((12 * (tj1.1 - tj0.1)) + tj1.2.1) - tj0.2.1) + (-1)) - ((((12 * (tj1.1 - tj0.1)) + tj1.2.1) - tj0.2.1) + (-1)) / 12 * 12, 0))) j0 bj0 tj0 (Nat.lt_succ_of_lt hj0) ((up_lt hj0).trans hbj0) ((up_lt hj0).trans hfj0) (((((12 * (tj1.1 - tj0.1)) + tj1.2.1) - tj0.2.1) + (-1)).toInt64) H.size) mw_X4_onByMonths md_X4_onByMonths rfl lk_X4_194 ⟨Nat.le_of_ble_eq_true rfl, Nat.le_of_ble_eq_true rfl⟩ hA hK hT B hl.1 rfl (Nat.le_of_ble_eq_true rfl) dX4_apart_112 ⟨Nat.le_of_ble_eq_true rfl, Nat.le_of_ble_eq_true rfl⟩) (Nat.le_of_ble_eq_true rfl) (Nat.le_of_ble_eq_true rfl) (fun r ad' f' H locs hw B => ?_)
      generalize o6 : (v_X4_onByMonths tj0 (((((12 * (tj1.1 - tj0.1)) + tj1.2.1) - tj0.2.1) + (-1)).toInt64)) = v9 at hw B
      obtain ⟨t6, rfl⟩ : ∃ t, v9 = some t := by cases v9 with | none => exact absurd o6 (ap_m hda hdb c1 c2) | some t => exact ⟨t, rfl⟩
      obtain ⟨z6, rfl, rfl, rfl⟩ := pw_s hw
      refine k_i (k := 2) (n := 6) hA B (u_S (rest := [.int (v_X4_number tj1), .int 2, .ref z5, .ref z5]) X (c_X4_number l g (N + 1 + 1) (va_up (va_up ad N z5) (N + 1) z6) (va_up (va_up f N (c_row g (((((12 * (tj1.1 - tj0.1)) + tj1.2.1) - tj0.2.1) + (-1)) / 12, ((((12 * (tj1.1 - tj0.1)) + tj1.2.1) - tj0.2.1) + (-1)) - ((((12 * (tj1.1 - tj0.1)) + tj1.2.1) - tj0.2.1) + (-1)) / 12 * 12, 0))) (N + 1) (c_row g t6)) (N + 1) z6 t6 (Nat.lt_succ_self _) up_eq up_eq (onb_mo o6) H.size) mw_X4_number md_X4_number rfl lk_X4_198 ⟨Nat.le_of_ble_eq_true rfl, Nat.le_of_ble_eq_true rfl⟩ hA hK hT B hl.1 rfl (Nat.le_of_ble_eq_true rfl) dX4_apart_115 ⟨Nat.le_of_ble_eq_true rfl, Nat.le_of_ble_eq_true rfl⟩) (Nat.le_of_ble_eq_true rfl) (Nat.le_of_ble_eq_true rfl) (fun r ad' f' H locs hw B => ?_)
      obtain ⟨rfl, rfl, rfl⟩ := hw
      refine lv_isub hx hb dX4_apart_118 ?_
      have B : WB g (aw N ad sz) s.heap (N + 1) (va_up ad N z5) (va_up f N (c_row g (((((12 * (tj1.1 - tj0.1)) + tj1.2.1) - tj0.2.1) + (-1)) / 12, ((((12 * (tj1.1 - tj0.1)) + tj1.2.1) - tj0.2.1) + (-1)) - ((((12 * (tj1.1 - tj0.1)) + tj1.2.1) - tj0.2.1) + (-1)) / 12 * 12, 0))) H locs := B.drop (by omega) (fun _ hk => (up_lt hk)) (fun _ hk => (up_lt hk))
      refine h_st (t := (((((12 * (tj1.1 - tj0.1)) + tj1.2.1) - tj0.2.1) + (-1)) / 12, ((((12 * (tj1.1 - tj0.1)) + tj1.2.1) - tj0.2.1) + (-1)) - ((((12 * (tj1.1 - tj0.1)) + tj1.2.1) - tj0.2.1) + (-1)) / 12 * 12, 0)) (t' := (((((12 * (tj1.1 - tj0.1)) + tj1.2.1) - tj0.2.1) + (-1)) / 12, ((((12 * (tj1.1 - tj0.1)) + tj1.2.1) - tj0.2.1) + (-1)) - ((((12 * (tj1.1 - tj0.1)) + tj1.2.1) - tj0.2.1) + (-1)) / 12 * 12, (v_X4_number tj1) - (v_X4_number t6))) X hK B (Nat.lt_succ_self _) up_eq up_eq (by unfold vp_in; decide) (rw3_s2 _ _) dX4_apart_119 (fun H locs B => ?_)
      rw [bx_uu] at B
      have ev := (show v_X4_apart tj0 tj1 = some (((((12 * (tj1.1 - tj0.1)) + tj1.2.1) - tj0.2.1) + (-1)) / 12, ((((12 * (tj1.1 - tj0.1)) + tj1.2.1) - tj0.2.1) + (-1)) - ((((12 * (tj1.1 - tj0.1)) + tj1.2.1) - tj0.2.1) + (-1)) / 12 * 12, (v_X4_number tj1) - (v_X4_number t6)) from by unfold v_X4_apart; rw [if_pos c1, if_neg c2, om_some o6])
      have B : WB g (aw N ad sz) s.heap (N + 1) (va_up ad N z5) (va_up f N (c_row g (((((12 * (tj1.1 - tj0.1)) + tj1.2.1) - tj0.2.1) + (-1)) / 12, ((((12 * (tj1.1 - tj0.1)) + tj1.2.1) - tj0.2.1) + (-1)) - ((((12 * (tj1.1 - tj0.1)) + tj1.2.1) - tj0.2.1) + (-1)) / 12 * 12, (v_X4_number tj1) - (v_X4_number t6)))) H locs := WB_pick B (by omega) (Nat.lt_succ_self _) (fun _ hk => (up_lt hk)) (fun _ hk => (up_lt hk)) up_eq up_eq
      exact rt_r (r := some z5) rfl X hr (Or.inr ⟨_, rfl⟩) (va_up ad N z5, va_up f N (c_row g (((((12 * (tj1.1 - tj0.1)) + tj1.2.1) - tj0.2.1) + (-1)) / 12, ((((12 * (tj1.1 - tj0.1)) + tj1.2.1) - tj0.2.1) + (-1)) - ((((12 * (tj1.1 - tj0.1)) + tj1.2.1) - tj0.2.1) + (-1)) / 12 * 12, (v_X4_number tj1) - (v_X4_number t6)))) B (by rw [ev]; exact PO_of B) (by rw [ev]; exact pw_is) (Nat.le_of_ble_eq_true rfl) (Nat.le_of_ble_eq_true rfl) dX4_apart_120
  · refine lv_iconst (v := 1) hx hb dX4_apart_30 (by decide) ?_
    refine lv_goto (tgt := 35) hx hb dX4_apart_31 (by decide) ?_
    refine lv_istore_n (lv' := [(3, .int 1), (2, .int (((12 * (tj1.1 - tj0.1)) + tj1.2.1) - tj0.2.1)), (0, .ref bj0), (1, .ref bj1)]) hx hb dX4_apart_35 rfl hl (by decide) rfl (fun ls hl => ?_)
    refine lv_iload_n hx hb dX4_apart_36 rfl (lv_at hl 0 rfl) ?_
    refine lv_if_eq (tgt := 50) hx hb dX4_apart_37 (by decide) (fun z => absurd z (by decide)) (fun _ => ?_)
    refine lv_aload_n hx hb dX4_apart_40 rfl (lv_at hl 2 rfl) ?_
    refine lv_iconst (v := 2) hx hb dX4_apart_41 (by decide) ?_
    refine h_ld2 X hK B hj0 hbj0 hfj0 dX4_apart_42 ?_
    refine lv_bipush (v := 28) hx hb dX4_apart_43 (by decide) ?_
    refine lv_icmp_le (tgt := 50) hx hb dX4_apart_45 (by decide) (fun c7 => ?_) (fun c7 => ?_)
    · refine lv_iload_n hx hb dX4_apart_50 rfl (lv_at hl 0 rfl) ?_
      refine lv_if_ne (tgt := 66) hx hb dX4_apart_51 (by decide) (fun _ => ?_) (fun z => absurd z (by decide))
      refine lv_iload_n hx hb dX4_apart_66 rfl (lv_at hl 0 rfl) ?_
      refine lv_if_eq (tgt := 86) hx hb dX4_apart_67 (by decide) (fun z => absurd z (by decide)) (fun _ => ?_)
      refine lv_aload_n hx hb dX4_apart_70 rfl (lv_at hl 3 rfl) ?_
      refine lv_iconst (v := 2) hx hb dX4_apart_71 (by decide) ?_
      refine h_ld2 X hK B hj1 hbj1 hfj1 dX4_apart_72 ?_
      refine lv_aload_n hx hb dX4_apart_73 rfl (lv_at hl 2 rfl) ?_
      refine lv_iconst (v := 2) hx hb dX4_apart_74 (by decide) ?_
      refine h_ld2 X hK B hj0 hbj0 hfj0 dX4_apart_75 ?_
      refine lv_icmp_le (tgt := 86) hx hb dX4_apart_76 (by decide) (fun c8 => ?_) (fun c8 => ?_)
      · refine lv_iconst (v := 3) hx hb dX4_apart_86 (by decide) ?_
        refine h_new3 (cz := 1) (sz := 3) X hA hK B (Nat.le_of_ble_eq_true rfl) (Nat.le_of_ble_eq_true rfl) (Nat.le_of_ble_eq_true rfl) (Nat.le_of_ble_eq_true rfl) dX4_apart_87 (fun z9 H B => ?_)
        refine lv_dup hx hb dX4_apart_89 rfl ?_
        refine lv_iconst (v := 0) hx hb dX4_apart_90 (by decide) ?_
        refine lv_iload_n hx hb dX4_apart_91 rfl (lv_at hl 1 rfl) ?_
        refine lv_bipush (v := 12) hx hb dX4_apart_92 (by decide) ?_
        refine lv_idiv hx hb dX4_apart_94 (by decide) ?_
        refine h_st (t := (0, 0, 0)) (t' := ((((12 * (tj1.1 - tj0.1)) + tj1.2.1) - tj0.2.1) / 12, 0, 0)) X hK B (Nat.lt_succ_self _) up_eq up_eq (by unfold vp_in; decide) (rw3_s0 _ _) dX4_apart_95 (fun H locs B => ?_)
        rw [bx_uu] at B
        refine lv_dup hx hb dX4_apart_96 rfl ?_
        refine lv_iconst (v := 1) hx hb dX4_apart_97 (by decide) ?_
        refine lv_iload_n hx hb dX4_apart_98 rfl (lv_at hl 1 rfl) ?_
        refine lv_bipush (v := 12) hx hb dX4_apart_99 (by decide) ?_
        refine lv_irem hx hb dX4_apart_101 (by decide) ?_
        refine h_st (t := ((((12 * (tj1.1 - tj0.1)) + tj1.2.1) - tj0.2.1) / 12, 0, 0)) (t' := ((((12 * (tj1.1 - tj0.1)) + tj1.2.1) - tj0.2.1) / 12, (((12 * (tj1.1 - tj0.1)) + tj1.2.1) - tj0.2.1) - (((12 * (tj1.1 - tj0.1)) + tj1.2.1) - tj0.2.1) / 12 * 12, 0)) X hK B (Nat.lt_succ_self _) up_eq up_eq (by unfold vp_in; decide) (rw3_s1 _ _) dX4_apart_102 (fun H locs B => ?_)
        rw [bx_uu] at B
        refine lv_dup hx hb dX4_apart_103 rfl ?_
        refine lv_iconst (v := 2) hx hb dX4_apart_104 (by decide) ?_
        refine lv_aload_n hx hb dX4_apart_105 rfl (lv_at hl 3 rfl) ?_
        refine k_i (k := 1) (n := 3) hA B (u_S (rest := [.int 2, .ref z9, .ref z9]) X (c_X4_number l g (N + 1) (va_up ad N z9) (va_up f N (c_row g ((((12 * (tj1.1 - tj0.1)) + tj1.2.1) - tj0.2.1) / 12, (((12 * (tj1.1 - tj0.1)) + tj1.2.1) - tj0.2.1) - (((12 * (tj1.1 - tj0.1)) + tj1.2.1) - tj0.2.1) / 12 * 12, 0))) j1 bj1 tj1 (Nat.lt_succ_of_lt hj1) ((up_lt hj1).trans hbj1) ((up_lt hj1).trans hfj1) (okd_mo hdb) H.size) mw_X4_number md_X4_number rfl lk_X4_198 ⟨Nat.le_of_ble_eq_true rfl, Nat.le_of_ble_eq_true rfl⟩ hA hK hT B hl.1 rfl (Nat.le_of_ble_eq_true rfl) dX4_apart_106 ⟨Nat.le_of_ble_eq_true rfl, Nat.le_of_ble_eq_true rfl⟩) (Nat.le_of_ble_eq_true rfl) (Nat.le_of_ble_eq_true rfl) (fun r ad' f' H locs hw B => ?_)
        obtain ⟨rfl, rfl, rfl⟩ := hw
        refine lv_aload_n hx hb dX4_apart_109 rfl (lv_at hl 2 rfl) ?_
        refine lv_iload_n hx hb dX4_apart_110 rfl (lv_at hl 1 rfl) ?_
        refine lv_i2l (v := (((12 * (tj1.1 - tj0.1)) + tj1.2.1) - tj0.2.1).toInt64) hx hb dX4_apart_111 rfl ?_
        refine k_r (k := 2) (n := 6) hA B (u_S (rest := [.int (v_X4_number tj1), .int 2, .ref z9, .ref z9]) X (c_X4_onByMonths l g (N + 1) (va_up ad N z9) (va_up f N (c_row g ((((12 * (tj1.1 - tj0.1)) + tj1.2.1) - tj0.2.1) / 12, (((12 * (tj1.1 - tj0.1)) + tj1.2.1) - tj0.2.1) - (((12 * (tj1.1 - tj0.1)) + tj1.2.1) - tj0.2.1) / 12 * 12, 0))) j0 bj0 tj0 (Nat.lt_succ_of_lt hj0) ((up_lt hj0).trans hbj0) ((up_lt hj0).trans hfj0) ((((12 * (tj1.1 - tj0.1)) + tj1.2.1) - tj0.2.1).toInt64) H.size) mw_X4_onByMonths md_X4_onByMonths rfl lk_X4_194 ⟨Nat.le_of_ble_eq_true rfl, Nat.le_of_ble_eq_true rfl⟩ hA hK hT B hl.1 rfl (Nat.le_of_ble_eq_true rfl) dX4_apart_112 ⟨Nat.le_of_ble_eq_true rfl, Nat.le_of_ble_eq_true rfl⟩) (Nat.le_of_ble_eq_true rfl) (Nat.le_of_ble_eq_true rfl) (fun r ad' f' H locs hw B => ?_)
        generalize o10 : (v_X4_onByMonths tj0 ((((12 * (tj1.1 - tj0.1)) + tj1.2.1) - tj0.2.1).toInt64)) = v9 at hw B
        obtain ⟨t10, rfl⟩ : ∃ t, v9 = some t := by cases v9 with | none => exact absurd o10 (ap_0 hda hdb) | some t => exact ⟨t, rfl⟩
        obtain ⟨z10, rfl, rfl, rfl⟩ := pw_s hw
        refine k_i (k := 2) (n := 6) hA B (u_S (rest := [.int (v_X4_number tj1), .int 2, .ref z9, .ref z9]) X (c_X4_number l g (N + 1 + 1) (va_up (va_up ad N z9) (N + 1) z10) (va_up (va_up f N (c_row g ((((12 * (tj1.1 - tj0.1)) + tj1.2.1) - tj0.2.1) / 12, (((12 * (tj1.1 - tj0.1)) + tj1.2.1) - tj0.2.1) - (((12 * (tj1.1 - tj0.1)) + tj1.2.1) - tj0.2.1) / 12 * 12, 0))) (N + 1) (c_row g t10)) (N + 1) z10 t10 (Nat.lt_succ_self _) up_eq up_eq (onb_mo o10) H.size) mw_X4_number md_X4_number rfl lk_X4_198 ⟨Nat.le_of_ble_eq_true rfl, Nat.le_of_ble_eq_true rfl⟩ hA hK hT B hl.1 rfl (Nat.le_of_ble_eq_true rfl) dX4_apart_115 ⟨Nat.le_of_ble_eq_true rfl, Nat.le_of_ble_eq_true rfl⟩) (Nat.le_of_ble_eq_true rfl) (Nat.le_of_ble_eq_true rfl) (fun r ad' f' H locs hw B => ?_)
        obtain ⟨rfl, rfl, rfl⟩ := hw
        refine lv_isub hx hb dX4_apart_118 ?_
        have B : WB g (aw N ad sz) s.heap (N + 1) (va_up ad N z9) (va_up f N (c_row g ((((12 * (tj1.1 - tj0.1)) + tj1.2.1) - tj0.2.1) / 12, (((12 * (tj1.1 - tj0.1)) + tj1.2.1) - tj0.2.1) - (((12 * (tj1.1 - tj0.1)) + tj1.2.1) - tj0.2.1) / 12 * 12, 0))) H locs := B.drop (by omega) (fun _ hk => (up_lt hk)) (fun _ hk => (up_lt hk))
        refine h_st (t := ((((12 * (tj1.1 - tj0.1)) + tj1.2.1) - tj0.2.1) / 12, (((12 * (tj1.1 - tj0.1)) + tj1.2.1) - tj0.2.1) - (((12 * (tj1.1 - tj0.1)) + tj1.2.1) - tj0.2.1) / 12 * 12, 0)) (t' := ((((12 * (tj1.1 - tj0.1)) + tj1.2.1) - tj0.2.1) / 12, (((12 * (tj1.1 - tj0.1)) + tj1.2.1) - tj0.2.1) - (((12 * (tj1.1 - tj0.1)) + tj1.2.1) - tj0.2.1) / 12 * 12, (v_X4_number tj1) - (v_X4_number t10))) X hK B (Nat.lt_succ_self _) up_eq up_eq (by unfold vp_in; decide) (rw3_s2 _ _) dX4_apart_119 (fun H locs B => ?_)
        rw [bx_uu] at B
        have ev := (show v_X4_apart tj0 tj1 = some ((((12 * (tj1.1 - tj0.1)) + tj1.2.1) - tj0.2.1) / 12, (((12 * (tj1.1 - tj0.1)) + tj1.2.1) - tj0.2.1) - (((12 * (tj1.1 - tj0.1)) + tj1.2.1) - tj0.2.1) / 12 * 12, (v_X4_number tj1) - (v_X4_number t10)) from by unfold v_X4_apart; rw [if_neg c1, if_pos c7, if_pos c8, om_some o10])
        have B : WB g (aw N ad sz) s.heap (N + 1) (va_up ad N z9) (va_up f N (c_row g ((((12 * (tj1.1 - tj0.1)) + tj1.2.1) - tj0.2.1) / 12, (((12 * (tj1.1 - tj0.1)) + tj1.2.1) - tj0.2.1) - (((12 * (tj1.1 - tj0.1)) + tj1.2.1) - tj0.2.1) / 12 * 12, (v_X4_number tj1) - (v_X4_number t10)))) H locs := WB_pick B (by omega) (Nat.lt_succ_self _) (fun _ hk => (up_lt hk)) (fun _ hk => (up_lt hk)) up_eq up_eq
        exact rt_r (r := some z9) rfl X hr (Or.inr ⟨_, rfl⟩) (va_up ad N z9, va_up f N (c_row g ((((12 * (tj1.1 - tj0.1)) + tj1.2.1) - tj0.2.1) / 12, (((12 * (tj1.1 - tj0.1)) + tj1.2.1) - tj0.2.1) - (((12 * (tj1.1 - tj0.1)) + tj1.2.1) - tj0.2.1) / 12 * 12, (v_X4_number tj1) - (v_X4_number t10)))) B (by rw [ev]; exact PO_of B) (by rw [ev]; exact pw_is) (Nat.le_of_ble_eq_true rfl) (Nat.le_of_ble_eq_true rfl) dX4_apart_120
      · refine lv_iload_n hx hb dX4_apart_79 rfl (lv_at hl 1 rfl) ?_
        refine lv_if_ge (tgt := 86) hx hb dX4_apart_80 (by decide) (fun c11 => ?_) (fun c11 => ?_)
        · refine lv_iconst (v := 3) hx hb dX4_apart_86 (by decide) ?_
          refine h_new3 (cz := 1) (sz := 3) X hA hK B (Nat.le_of_ble_eq_true rfl) (Nat.le_of_ble_eq_true rfl) (Nat.le_of_ble_eq_true rfl) (Nat.le_of_ble_eq_true rfl) dX4_apart_87 (fun z12 H B => ?_)
          refine lv_dup hx hb dX4_apart_89 rfl ?_
          refine lv_iconst (v := 0) hx hb dX4_apart_90 (by decide) ?_
          refine lv_iload_n hx hb dX4_apart_91 rfl (lv_at hl 1 rfl) ?_
          refine lv_bipush (v := 12) hx hb dX4_apart_92 (by decide) ?_
          refine lv_idiv hx hb dX4_apart_94 (by decide) ?_
          refine h_st (t := (0, 0, 0)) (t' := ((((12 * (tj1.1 - tj0.1)) + tj1.2.1) - tj0.2.1) / 12, 0, 0)) X hK B (Nat.lt_succ_self _) up_eq up_eq (by unfold vp_in; decide) (rw3_s0 _ _) dX4_apart_95 (fun H locs B => ?_)
          rw [bx_uu] at B
          refine lv_dup hx hb dX4_apart_96 rfl ?_
          refine lv_iconst (v := 1) hx hb dX4_apart_97 (by decide) ?_
          refine lv_iload_n hx hb dX4_apart_98 rfl (lv_at hl 1 rfl) ?_
          refine lv_bipush (v := 12) hx hb dX4_apart_99 (by decide) ?_
          refine lv_irem hx hb dX4_apart_101 (by decide) ?_
          refine h_st (t := ((((12 * (tj1.1 - tj0.1)) + tj1.2.1) - tj0.2.1) / 12, 0, 0)) (t' := ((((12 * (tj1.1 - tj0.1)) + tj1.2.1) - tj0.2.1) / 12, (((12 * (tj1.1 - tj0.1)) + tj1.2.1) - tj0.2.1) - (((12 * (tj1.1 - tj0.1)) + tj1.2.1) - tj0.2.1) / 12 * 12, 0)) X hK B (Nat.lt_succ_self _) up_eq up_eq (by unfold vp_in; decide) (rw3_s1 _ _) dX4_apart_102 (fun H locs B => ?_)
          rw [bx_uu] at B
          refine lv_dup hx hb dX4_apart_103 rfl ?_
          refine lv_iconst (v := 2) hx hb dX4_apart_104 (by decide) ?_
          refine lv_aload_n hx hb dX4_apart_105 rfl (lv_at hl 3 rfl) ?_
          refine k_i (k := 1) (n := 3) hA B (u_S (rest := [.int 2, .ref z12, .ref z12]) X (c_X4_number l g (N + 1) (va_up ad N z12) (va_up f N (c_row g ((((12 * (tj1.1 - tj0.1)) + tj1.2.1) - tj0.2.1) / 12, (((12 * (tj1.1 - tj0.1)) + tj1.2.1) - tj0.2.1) - (((12 * (tj1.1 - tj0.1)) + tj1.2.1) - tj0.2.1) / 12 * 12, 0))) j1 bj1 tj1 (Nat.lt_succ_of_lt hj1) ((up_lt hj1).trans hbj1) ((up_lt hj1).trans hfj1) (okd_mo hdb) H.size) mw_X4_number md_X4_number rfl lk_X4_198 ⟨Nat.le_of_ble_eq_true rfl, Nat.le_of_ble_eq_true rfl⟩ hA hK hT B hl.1 rfl (Nat.le_of_ble_eq_true rfl) dX4_apart_106 ⟨Nat.le_of_ble_eq_true rfl, Nat.le_of_ble_eq_true rfl⟩) (Nat.le_of_ble_eq_true rfl) (Nat.le_of_ble_eq_true rfl) (fun r ad' f' H locs hw B => ?_)
          obtain ⟨rfl, rfl, rfl⟩ := hw
          refine lv_aload_n hx hb dX4_apart_109 rfl (lv_at hl 2 rfl) ?_
          refine lv_iload_n hx hb dX4_apart_110 rfl (lv_at hl 1 rfl) ?_
          refine lv_i2l (v := (((12 * (tj1.1 - tj0.1)) + tj1.2.1) - tj0.2.1).toInt64) hx hb dX4_apart_111 rfl ?_
          refine k_r (k := 2) (n := 6) hA B (u_S (rest := [.int (v_X4_number tj1), .int 2, .ref z12, .ref z12]) X (c_X4_onByMonths l g (N + 1) (va_up ad N z12) (va_up f N (c_row g ((((12 * (tj1.1 - tj0.1)) + tj1.2.1) - tj0.2.1) / 12, (((12 * (tj1.1 - tj0.1)) + tj1.2.1) - tj0.2.1) - (((12 * (tj1.1 - tj0.1)) + tj1.2.1) - tj0.2.1) / 12 * 12, 0))) j0 bj0 tj0 (Nat.lt_succ_of_lt hj0) ((up_lt hj0).trans hbj0) ((up_lt hj0).trans hfj0) ((((12 * (tj1.1 - tj0.1)) + tj1.2.1) - tj0.2.1).toInt64) H.size) mw_X4_onByMonths md_X4_onByMonths rfl lk_X4_194 ⟨Nat.le_of_ble_eq_true rfl, Nat.le_of_ble_eq_true rfl⟩ hA hK hT B hl.1 rfl (Nat.le_of_ble_eq_true rfl) dX4_apart_112 ⟨Nat.le_of_ble_eq_true rfl, Nat.le_of_ble_eq_true rfl⟩) (Nat.le_of_ble_eq_true rfl) (Nat.le_of_ble_eq_true rfl) (fun r ad' f' H locs hw B => ?_)
          generalize o13 : (v_X4_onByMonths tj0 ((((12 * (tj1.1 - tj0.1)) + tj1.2.1) - tj0.2.1).toInt64)) = v9 at hw B
          obtain ⟨t13, rfl⟩ : ∃ t, v9 = some t := by cases v9 with | none => exact absurd o13 (ap_0 hda hdb) | some t => exact ⟨t, rfl⟩
          obtain ⟨z13, rfl, rfl, rfl⟩ := pw_s hw
          refine k_i (k := 2) (n := 6) hA B (u_S (rest := [.int (v_X4_number tj1), .int 2, .ref z12, .ref z12]) X (c_X4_number l g (N + 1 + 1) (va_up (va_up ad N z12) (N + 1) z13) (va_up (va_up f N (c_row g ((((12 * (tj1.1 - tj0.1)) + tj1.2.1) - tj0.2.1) / 12, (((12 * (tj1.1 - tj0.1)) + tj1.2.1) - tj0.2.1) - (((12 * (tj1.1 - tj0.1)) + tj1.2.1) - tj0.2.1) / 12 * 12, 0))) (N + 1) (c_row g t13)) (N + 1) z13 t13 (Nat.lt_succ_self _) up_eq up_eq (onb_mo o13) H.size) mw_X4_number md_X4_number rfl lk_X4_198 ⟨Nat.le_of_ble_eq_true rfl, Nat.le_of_ble_eq_true rfl⟩ hA hK hT B hl.1 rfl (Nat.le_of_ble_eq_true rfl) dX4_apart_115 ⟨Nat.le_of_ble_eq_true rfl, Nat.le_of_ble_eq_true rfl⟩) (Nat.le_of_ble_eq_true rfl) (Nat.le_of_ble_eq_true rfl) (fun r ad' f' H locs hw B => ?_)
          obtain ⟨rfl, rfl, rfl⟩ := hw
          refine lv_isub hx hb dX4_apart_118 ?_
          have B : WB g (aw N ad sz) s.heap (N + 1) (va_up ad N z12) (va_up f N (c_row g ((((12 * (tj1.1 - tj0.1)) + tj1.2.1) - tj0.2.1) / 12, (((12 * (tj1.1 - tj0.1)) + tj1.2.1) - tj0.2.1) - (((12 * (tj1.1 - tj0.1)) + tj1.2.1) - tj0.2.1) / 12 * 12, 0))) H locs := B.drop (by omega) (fun _ hk => (up_lt hk)) (fun _ hk => (up_lt hk))
          refine h_st (t := ((((12 * (tj1.1 - tj0.1)) + tj1.2.1) - tj0.2.1) / 12, (((12 * (tj1.1 - tj0.1)) + tj1.2.1) - tj0.2.1) - (((12 * (tj1.1 - tj0.1)) + tj1.2.1) - tj0.2.1) / 12 * 12, 0)) (t' := ((((12 * (tj1.1 - tj0.1)) + tj1.2.1) - tj0.2.1) / 12, (((12 * (tj1.1 - tj0.1)) + tj1.2.1) - tj0.2.1) - (((12 * (tj1.1 - tj0.1)) + tj1.2.1) - tj0.2.1) / 12 * 12, (v_X4_number tj1) - (v_X4_number t13))) X hK B (Nat.lt_succ_self _) up_eq up_eq (by unfold vp_in; decide) (rw3_s2 _ _) dX4_apart_119 (fun H locs B => ?_)
          rw [bx_uu] at B
          have ev := (show v_X4_apart tj0 tj1 = some ((((12 * (tj1.1 - tj0.1)) + tj1.2.1) - tj0.2.1) / 12, (((12 * (tj1.1 - tj0.1)) + tj1.2.1) - tj0.2.1) - (((12 * (tj1.1 - tj0.1)) + tj1.2.1) - tj0.2.1) / 12 * 12, (v_X4_number tj1) - (v_X4_number t13)) from by unfold v_X4_apart; rw [if_neg c1, if_pos c7, if_neg c8, if_pos c11, om_some o13])
          have B : WB g (aw N ad sz) s.heap (N + 1) (va_up ad N z12) (va_up f N (c_row g ((((12 * (tj1.1 - tj0.1)) + tj1.2.1) - tj0.2.1) / 12, (((12 * (tj1.1 - tj0.1)) + tj1.2.1) - tj0.2.1) - (((12 * (tj1.1 - tj0.1)) + tj1.2.1) - tj0.2.1) / 12 * 12, (v_X4_number tj1) - (v_X4_number t13)))) H locs := WB_pick B (by omega) (Nat.lt_succ_self _) (fun _ hk => (up_lt hk)) (fun _ hk => (up_lt hk)) up_eq up_eq
          exact rt_r (r := some z12) rfl X hr (Or.inr ⟨_, rfl⟩) (va_up ad N z12, va_up f N (c_row g ((((12 * (tj1.1 - tj0.1)) + tj1.2.1) - tj0.2.1) / 12, (((12 * (tj1.1 - tj0.1)) + tj1.2.1) - tj0.2.1) - (((12 * (tj1.1 - tj0.1)) + tj1.2.1) - tj0.2.1) / 12 * 12, (v_X4_number tj1) - (v_X4_number t13)))) B (by rw [ev]; exact PO_of B) (by rw [ev]; exact pw_is) (Nat.le_of_ble_eq_true rfl) (Nat.le_of_ble_eq_true rfl) dX4_apart_120
        · refine lv_iinc (v := (((12 * (tj1.1 - tj0.1)) + tj1.2.1) - tj0.2.1) + 1) (lv' := [(2, .int ((((12 * (tj1.1 - tj0.1)) + tj1.2.1) - tj0.2.1) + 1)), (3, .int 1), (0, .ref bj0), (1, .ref bj1)]) hx hb dX4_apart_83 hl (k := 1) rfl rfl (by decide) rfl (fun ls hl => ?_)
          refine lv_iconst (v := 3) hx hb dX4_apart_86 (by decide) ?_
          refine h_new3 (cz := 1) (sz := 3) X hA hK B (Nat.le_of_ble_eq_true rfl) (Nat.le_of_ble_eq_true rfl) (Nat.le_of_ble_eq_true rfl) (Nat.le_of_ble_eq_true rfl) dX4_apart_87 (fun z14 H B => ?_)
          refine lv_dup hx hb dX4_apart_89 rfl ?_
          refine lv_iconst (v := 0) hx hb dX4_apart_90 (by decide) ?_
          refine lv_iload_n hx hb dX4_apart_91 rfl (lv_at hl 0 rfl) ?_
          refine lv_bipush (v := 12) hx hb dX4_apart_92 (by decide) ?_
          refine lv_idiv hx hb dX4_apart_94 (by decide) ?_
          refine h_st (t := (0, 0, 0)) (t' := (((((12 * (tj1.1 - tj0.1)) + tj1.2.1) - tj0.2.1) + 1) / 12, 0, 0)) X hK B (Nat.lt_succ_self _) up_eq up_eq (by unfold vp_in; decide) (rw3_s0 _ _) dX4_apart_95 (fun H locs B => ?_)
          rw [bx_uu] at B
          refine lv_dup hx hb dX4_apart_96 rfl ?_
          refine lv_iconst (v := 1) hx hb dX4_apart_97 (by decide) ?_
          refine lv_iload_n hx hb dX4_apart_98 rfl (lv_at hl 0 rfl) ?_
          refine lv_bipush (v := 12) hx hb dX4_apart_99 (by decide) ?_
          refine lv_irem hx hb dX4_apart_101 (by decide) ?_
          refine h_st (t := (((((12 * (tj1.1 - tj0.1)) + tj1.2.1) - tj0.2.1) + 1) / 12, 0, 0)) (t' := (((((12 * (tj1.1 - tj0.1)) + tj1.2.1) - tj0.2.1) + 1) / 12, ((((12 * (tj1.1 - tj0.1)) + tj1.2.1) - tj0.2.1) + 1) - ((((12 * (tj1.1 - tj0.1)) + tj1.2.1) - tj0.2.1) + 1) / 12 * 12, 0)) X hK B (Nat.lt_succ_self _) up_eq up_eq (by unfold vp_in; decide) (rw3_s1 _ _) dX4_apart_102 (fun H locs B => ?_)
          rw [bx_uu] at B
          refine lv_dup hx hb dX4_apart_103 rfl ?_
          refine lv_iconst (v := 2) hx hb dX4_apart_104 (by decide) ?_
          refine lv_aload_n hx hb dX4_apart_105 rfl (lv_at hl 3 rfl) ?_
          refine k_i (k := 1) (n := 3) hA B (u_S (rest := [.int 2, .ref z14, .ref z14]) X (c_X4_number l g (N + 1) (va_up ad N z14) (va_up f N (c_row g (((((12 * (tj1.1 - tj0.1)) + tj1.2.1) - tj0.2.1) + 1) / 12, ((((12 * (tj1.1 - tj0.1)) + tj1.2.1) - tj0.2.1) + 1) - ((((12 * (tj1.1 - tj0.1)) + tj1.2.1) - tj0.2.1) + 1) / 12 * 12, 0))) j1 bj1 tj1 (Nat.lt_succ_of_lt hj1) ((up_lt hj1).trans hbj1) ((up_lt hj1).trans hfj1) (okd_mo hdb) H.size) mw_X4_number md_X4_number rfl lk_X4_198 ⟨Nat.le_of_ble_eq_true rfl, Nat.le_of_ble_eq_true rfl⟩ hA hK hT B hl.1 rfl (Nat.le_of_ble_eq_true rfl) dX4_apart_106 ⟨Nat.le_of_ble_eq_true rfl, Nat.le_of_ble_eq_true rfl⟩) (Nat.le_of_ble_eq_true rfl) (Nat.le_of_ble_eq_true rfl) (fun r ad' f' H locs hw B => ?_)
          obtain ⟨rfl, rfl, rfl⟩ := hw
          refine lv_aload_n hx hb dX4_apart_109 rfl (lv_at hl 2 rfl) ?_
          refine lv_iload_n hx hb dX4_apart_110 rfl (lv_at hl 0 rfl) ?_
          refine lv_i2l (v := ((((12 * (tj1.1 - tj0.1)) + tj1.2.1) - tj0.2.1) + 1).toInt64) hx hb dX4_apart_111 rfl ?_
          refine k_r (k := 2) (n := 6) hA B (u_S (rest := [.int (v_X4_number tj1), .int 2, .ref z14, .ref z14]) X (c_X4_onByMonths l g (N + 1) (va_up ad N z14) (va_up f N (c_row g (((((12 * (tj1.1 - tj0.1)) + tj1.2.1) - tj0.2.1) + 1) / 12, ((((12 * (tj1.1 - tj0.1)) + tj1.2.1) - tj0.2.1) + 1) - ((((12 * (tj1.1 - tj0.1)) + tj1.2.1) - tj0.2.1) + 1) / 12 * 12, 0))) j0 bj0 tj0 (Nat.lt_succ_of_lt hj0) ((up_lt hj0).trans hbj0) ((up_lt hj0).trans hfj0) (((((12 * (tj1.1 - tj0.1)) + tj1.2.1) - tj0.2.1) + 1).toInt64) H.size) mw_X4_onByMonths md_X4_onByMonths rfl lk_X4_194 ⟨Nat.le_of_ble_eq_true rfl, Nat.le_of_ble_eq_true rfl⟩ hA hK hT B hl.1 rfl (Nat.le_of_ble_eq_true rfl) dX4_apart_112 ⟨Nat.le_of_ble_eq_true rfl, Nat.le_of_ble_eq_true rfl⟩) (Nat.le_of_ble_eq_true rfl) (Nat.le_of_ble_eq_true rfl) (fun r ad' f' H locs hw B => ?_)
          generalize o15 : (v_X4_onByMonths tj0 (((((12 * (tj1.1 - tj0.1)) + tj1.2.1) - tj0.2.1) + 1).toInt64)) = v9 at hw B
          obtain ⟨t15, rfl⟩ : ∃ t, v9 = some t := by cases v9 with | none => exact absurd o15 (ap_p hda hdb c11) | some t => exact ⟨t, rfl⟩
          obtain ⟨z15, rfl, rfl, rfl⟩ := pw_s hw
          refine k_i (k := 2) (n := 6) hA B (u_S (rest := [.int (v_X4_number tj1), .int 2, .ref z14, .ref z14]) X (c_X4_number l g (N + 1 + 1) (va_up (va_up ad N z14) (N + 1) z15) (va_up (va_up f N (c_row g (((((12 * (tj1.1 - tj0.1)) + tj1.2.1) - tj0.2.1) + 1) / 12, ((((12 * (tj1.1 - tj0.1)) + tj1.2.1) - tj0.2.1) + 1) - ((((12 * (tj1.1 - tj0.1)) + tj1.2.1) - tj0.2.1) + 1) / 12 * 12, 0))) (N + 1) (c_row g t15)) (N + 1) z15 t15 (Nat.lt_succ_self _) up_eq up_eq (onb_mo o15) H.size) mw_X4_number md_X4_number rfl lk_X4_198 ⟨Nat.le_of_ble_eq_true rfl, Nat.le_of_ble_eq_true rfl⟩ hA hK hT B hl.1 rfl (Nat.le_of_ble_eq_true rfl) dX4_apart_115 ⟨Nat.le_of_ble_eq_true rfl, Nat.le_of_ble_eq_true rfl⟩) (Nat.le_of_ble_eq_true rfl) (Nat.le_of_ble_eq_true rfl) (fun r ad' f' H locs hw B => ?_)
          obtain ⟨rfl, rfl, rfl⟩ := hw
          refine lv_isub hx hb dX4_apart_118 ?_
          have B : WB g (aw N ad sz) s.heap (N + 1) (va_up ad N z14) (va_up f N (c_row g (((((12 * (tj1.1 - tj0.1)) + tj1.2.1) - tj0.2.1) + 1) / 12, ((((12 * (tj1.1 - tj0.1)) + tj1.2.1) - tj0.2.1) + 1) - ((((12 * (tj1.1 - tj0.1)) + tj1.2.1) - tj0.2.1) + 1) / 12 * 12, 0))) H locs := B.drop (by omega) (fun _ hk => (up_lt hk)) (fun _ hk => (up_lt hk))
          refine h_st (t := (((((12 * (tj1.1 - tj0.1)) + tj1.2.1) - tj0.2.1) + 1) / 12, ((((12 * (tj1.1 - tj0.1)) + tj1.2.1) - tj0.2.1) + 1) - ((((12 * (tj1.1 - tj0.1)) + tj1.2.1) - tj0.2.1) + 1) / 12 * 12, 0)) (t' := (((((12 * (tj1.1 - tj0.1)) + tj1.2.1) - tj0.2.1) + 1) / 12, ((((12 * (tj1.1 - tj0.1)) + tj1.2.1) - tj0.2.1) + 1) - ((((12 * (tj1.1 - tj0.1)) + tj1.2.1) - tj0.2.1) + 1) / 12 * 12, (v_X4_number tj1) - (v_X4_number t15))) X hK B (Nat.lt_succ_self _) up_eq up_eq (by unfold vp_in; decide) (rw3_s2 _ _) dX4_apart_119 (fun H locs B => ?_)
          rw [bx_uu] at B
          have ev := (show v_X4_apart tj0 tj1 = some (((((12 * (tj1.1 - tj0.1)) + tj1.2.1) - tj0.2.1) + 1) / 12, ((((12 * (tj1.1 - tj0.1)) + tj1.2.1) - tj0.2.1) + 1) - ((((12 * (tj1.1 - tj0.1)) + tj1.2.1) - tj0.2.1) + 1) / 12 * 12, (v_X4_number tj1) - (v_X4_number t15)) from by unfold v_X4_apart; rw [if_neg c1, if_pos c7, if_neg c8, if_neg c11, om_some o15])
          have B : WB g (aw N ad sz) s.heap (N + 1) (va_up ad N z14) (va_up f N (c_row g (((((12 * (tj1.1 - tj0.1)) + tj1.2.1) - tj0.2.1) + 1) / 12, ((((12 * (tj1.1 - tj0.1)) + tj1.2.1) - tj0.2.1) + 1) - ((((12 * (tj1.1 - tj0.1)) + tj1.2.1) - tj0.2.1) + 1) / 12 * 12, (v_X4_number tj1) - (v_X4_number t15)))) H locs := WB_pick B (by omega) (Nat.lt_succ_self _) (fun _ hk => (up_lt hk)) (fun _ hk => (up_lt hk)) up_eq up_eq
          exact rt_r (r := some z14) rfl X hr (Or.inr ⟨_, rfl⟩) (va_up ad N z14, va_up f N (c_row g (((((12 * (tj1.1 - tj0.1)) + tj1.2.1) - tj0.2.1) + 1) / 12, ((((12 * (tj1.1 - tj0.1)) + tj1.2.1) - tj0.2.1) + 1) - ((((12 * (tj1.1 - tj0.1)) + tj1.2.1) - tj0.2.1) + 1) / 12 * 12, (v_X4_number tj1) - (v_X4_number t15)))) B (by rw [ev]; exact PO_of B) (by rw [ev]; exact pw_is) (Nat.le_of_ble_eq_true rfl) (Nat.le_of_ble_eq_true rfl) dX4_apart_120
    · refine lv_null hx hb dX4_apart_48 ?_
      have ev := (show v_X4_apart tj0 tj1 = none from by unfold v_X4_apart; rw [if_neg c1, if_neg c7])
      exact rt_r (r := none) rfl X hr (Or.inr ⟨_, rfl⟩) (ad, f) B (by rw [ev]; exact PO_of B) (by rw [ev]; exact pw_in) (Nat.le_of_ble_eq_true rfl) (Nat.le_of_ble_eq_true rfl) dX4_apart_49
def wX4_addedUp_6 (tj0 : TR) (a1 : Int32) : Nat → Int32 → TR → Option TR
  | 0, kk, tm => none
  | n + 1, kk, tm => if a1 ≤ kk then (some tm) else (om (v_X4_sum tm 1 tj0) (if a1 ≤ (kk + 1) then none else none) (fun t4 => wX4_addedUp_6 tj0 a1 n (kk + 1) t4))
def v_X4_addedUp (tj0 : TR) (a1 : Int32) : Option TR := wX4_addedUp_6 tj0 a1 ((a1.toInt - (0 : Int32).toInt).toNat + 1) 0 (v_X4_nothing)
set_option maxHeartbeats 4000000 in
set_option maxRecDepth 100000 in
theorem c_X4_addedUp (l : Launch) (g : GG) (N : Nat) (ad : Nat → Nat) (f : Nat → va_E) (j0 bj0 : Nat) (tj0 : TR) (hj0 : j0 < N) (hbj0 : ad j0 = bj0) (hfj0 : f j0 = c_row g tj0) (a1 : Int32) (ha : ¬ 9 < a1) : KR l yX4_addedUp cX4_addedUp 4 (.array .int) (rm 3 11 33) g [.ref bj0, .int a1] N ad f (N + nz (v_X4_addedUp tj0 a1)) (fun r ad' f' => pw g (v_X4_addedUp tj0 a1) N ad f r ad' f') := by
  intro sz
  refine mt_start (by decide) (Nat.le_of_ble_eq_true rfl) ?_
  intro p e s m args below meth c hsz X hr hnam hA hK hT H locs B ls hl
  obtain ⟨hx, hb, hml, hown, hts, hlocks⟩ := id X
  have hl : lv_has ls 4 [(0, .ref bj0), (1, .int a1)] := hl
  refine k_r (k := 1) (n := 3) hA B (u_S (rest := []) X (c_X4_nothing l g N ad f H.size) mw_X4_nothing md_X4_nothing rfl lk_X4_51 ⟨Nat.le_of_ble_eq_true rfl, Nat.le_of_ble_eq_true rfl⟩ hA hK hT B hl.1 rfl (Nat.le_of_ble_eq_true rfl) dX4_addedUp_0 ⟨Nat.le_of_ble_eq_true rfl, Nat.le_of_ble_eq_true rfl⟩) (Nat.le_of_ble_eq_true rfl) (Nat.le_of_ble_eq_true rfl) (fun r ad' f' H locs hw B => ?_)
  obtain ⟨z1, rfl, rfl, rfl⟩ := hw
  refine lv_astore_n (lv' := [(2, .ref z1), (0, .ref bj0), (1, .int a1)]) hx hb dX4_addedUp_3 rfl hl (by decide) rfl (fun ls hl => ?_)
  refine lv_iconst (v := 0) hx hb dX4_addedUp_4 (by decide) ?_
  refine lv_istore_n (lv' := [(3, .int 0), (2, .ref z1), (0, .ref bj0), (1, .int a1)]) hx hb dX4_addedUp_5 rfl hl (by decide) rfl (fun ls hl => ?_)
  have loop2 : ∀ (n2 : Nat) (kk : Int32) (tm : TR) (atm : Nat) (C2 : Nat) (S2 : Nat) (H : Heap) (locs : List Loc), C2 + n2 * 1 ≤ 11 → S2 + n2 * 3 ≤ 33 → (a1.toInt - kk.toInt).toNat < n2 → v_X4_addedUp tj0 a1 = wX4_addedUp_6 tj0 a1 n2 kk tm → WB g (aw N ad sz) s.heap (N + 1) (va_up ad N atm) (va_up f N (c_row g tm)) H locs → ∀ ls : Array Slot, lv_has ls 4 [(3, .int kk), (2, .ref atm), (0, .ref bj0), (1, .int a1)] → W p l e (rm 3 11 33) s m args below meth c H locs C2 S2 (MQ below (va_Qq (fun r (u : WS) => (fun r ad' f' => pw g (v_X4_addedUp tj0 a1) N ad f r ad' f') r u.1 u.2) (fun u t => PO g (N + nz (v_X4_addedUp tj0 a1)) u.1 u.2 (aw N ad sz) t) (aw N ad sz)) args s (rm 3 11 33).cells (rm 3 11 33).slots (aw N ad sz)) (F0 m 6 ls []) := by
    intro n2
    induction n2 with
    | zero => intro kk tm atm C2 S2 H locs _ _ hn; exact absurd hn (Nat.not_lt_zero _)
    | succ n2 ih2 =>
      intro kk tm atm C2 S2 H locs hC2 hS2 hn2 he2 B ls hl
      refine lv_iload_n hx hb dX4_addedUp_6 rfl (lv_at hl 0 rfl) ?_
      refine lv_iload_n hx hb dX4_addedUp_7 rfl (lv_at hl 3 rfl) ?_
      refine lv_icmp_ge (tgt := 28) hx hb dX4_addedUp_8 (by decide) (fun c3 => ?_) (fun c3 => ?_)
      · refine W.widen (show (C2 + 0) ≤ 11 by omega) (show (S2 + 0) ≤ 33 by omega) ?_
        refine lv_aload_n hx hb dX4_addedUp_28 rfl (lv_at hl 1 rfl) ?_
        have ev := (show v_X4_addedUp tj0 a1 = some tm from he2.trans (by rw [wX4_addedUp_6, if_pos c3]))
        have B : WB g (aw N ad sz) s.heap (N + 1) (va_up ad N atm) (va_up f N (c_row g tm)) H locs := WB_pick B (by omega) (Nat.lt_succ_self _) (fun _ hk => (up_lt hk)) (fun _ hk => (up_lt hk)) up_eq up_eq
        exact rt_r (r := some atm) rfl X hr (Or.inr ⟨_, rfl⟩) (va_up ad N atm, va_up f N (c_row g tm)) B (by rw [ev]; exact PO_of B) (by rw [ev]; exact pw_is) (Nat.le_of_ble_eq_true rfl) (Nat.le_of_ble_eq_true rfl) dX4_addedUp_29
      · refine lv_aload_n hx hb dX4_addedUp_11 rfl (lv_at hl 1 rfl) ?_
        refine lv_ifnull hx hb dX4_addedUp_12 ?_
        refine lv_aload_n hx hb dX4_addedUp_15 rfl (lv_at hl 1 rfl) ?_
        refine lv_lconst (v := 1) hx hb dX4_addedUp_16 (by decide) ?_
        refine lv_aload_n hx hb dX4_addedUp_17 rfl (lv_at hl 2 rfl) ?_
        refine k_r (k := (C2 + 1)) (n := (S2 + 3)) hA B (u_S (rest := []) X (c_X4_sum l g (N + 1) (va_up ad N atm) (va_up f N (c_row g tm)) N atm tm (Nat.lt_succ_self _) up_eq up_eq 1 j0 bj0 tj0 (Nat.lt_succ_of_lt hj0) ((up_lt hj0).trans hbj0) ((up_lt hj0).trans hfj0) H.size) mw_X4_sum md_X4_sum rfl lk_X4_57 ⟨Nat.le_of_ble_eq_true rfl, Nat.le_of_ble_eq_true rfl⟩ hA hK hT B hl.1 rfl (Nat.le_of_ble_eq_true rfl) dX4_addedUp_18 (by dsimp only [rm]; omega)) (by dsimp only [rm]; omega) (by dsimp only [rm]; omega) (fun r ad' f' H locs hw B => ?_)
        generalize o4 : (v_X4_sum tm 1 tj0) = v9 at hw B
        cases v9 with
        | none =>
          obtain ⟨rfl, rfl, rfl⟩ := pw_n hw
          refine lv_astore_nN (lv' := [(2, .null), (3, .int kk), (0, .ref bj0), (1, .int a1)]) hx hb dX4_addedUp_21 rfl hl (by decide) rfl (fun ls hl => ?_)
          refine lv_iinc (v := kk + 1) (lv' := [(3, .int (kk + 1)), (2, .null), (0, .ref bj0), (1, .int a1)]) hx hb dX4_addedUp_22 hl (k := 1) rfl rfl (by decide) rfl (fun ls hl => ?_)
          refine lv_goto (tgt := 6) hx hb dX4_addedUp_25 (by decide) ?_
          refine lv_iload_n hx hb dX4_addedUp_6 rfl (lv_at hl 0 rfl) ?_
          refine lv_iload_n hx hb dX4_addedUp_7 rfl (lv_at hl 3 rfl) ?_
          refine lv_icmp_ge (tgt := 28) hx hb dX4_addedUp_8 (by decide) (fun c5 => ?_) (fun c5 => ?_)
          · refine W.widen (show (C2 + 1) ≤ 11 by omega) (show (S2 + 3) ≤ 33 by omega) ?_
            refine lv_aload_nN hx hb dX4_addedUp_28 rfl (lv_at hl 1 rfl) ?_
            have ev := (show v_X4_addedUp tj0 a1 = none from he2.trans (by rw [wX4_addedUp_6, if_neg c3, om_none o4, if_pos c5]))
            have B : WB g (aw N ad sz) s.heap N ad f H locs := B.drop (by omega) (fun _ hk => (up_lt hk)) (fun _ hk => (up_lt hk))
            exact rt_r (r := none) rfl X hr (Or.inr ⟨_, rfl⟩) (ad, f) B (by rw [ev]; exact PO_of B) (by rw [ev]; exact pw_in) (Nat.le_of_ble_eq_true rfl) (Nat.le_of_ble_eq_true rfl) dX4_addedUp_29
          · refine lv_aload_nN hx hb dX4_addedUp_11 rfl (lv_at hl 1 rfl) ?_
            refine lv_ifnullN (tgt := 28) hx hb dX4_addedUp_12 (by decide) ?_
            refine W.widen (show (C2 + 1) ≤ 11 by omega) (show (S2 + 3) ≤ 33 by omega) ?_
            refine lv_aload_nN hx hb dX4_addedUp_28 rfl (lv_at hl 1 rfl) ?_
            have ev := (show v_X4_addedUp tj0 a1 = none from he2.trans (by rw [wX4_addedUp_6, if_neg c3, om_none o4, if_neg c5]))
            have B : WB g (aw N ad sz) s.heap N ad f H locs := B.drop (by omega) (fun _ hk => (up_lt hk)) (fun _ hk => (up_lt hk))
            exact rt_r (r := none) rfl X hr (Or.inr ⟨_, rfl⟩) (ad, f) B (by rw [ev]; exact PO_of B) (by rw [ev]; exact pw_in) (Nat.le_of_ble_eq_true rfl) (Nat.le_of_ble_eq_true rfl) dX4_addedUp_29
        | some t4 =>
          obtain ⟨z4, rfl, rfl, rfl⟩ := pw_s hw
          refine lv_astore_n (lv' := [(2, .ref z4), (3, .int kk), (0, .ref bj0), (1, .int a1)]) hx hb dX4_addedUp_21 rfl hl (by decide) rfl (fun ls hl => ?_)
          refine lv_iinc (v := kk + 1) (lv' := [(3, .int (kk + 1)), (2, .ref z4), (0, .ref bj0), (1, .int a1)]) hx hb dX4_addedUp_22 hl (k := 1) rfl rfl (by decide) rfl (fun ls hl => ?_)
          refine lv_goto (tgt := 6) hx hb dX4_addedUp_25 (by decide) ?_
          have B : WB g (aw N ad sz) s.heap (N + 1) (va_up ad N z4) (va_up f N (c_row g t4)) H locs := WB_pick B (by omega) (Nat.lt_succ_self _) (fun _ hk => ((up_lt (Nat.lt_succ_of_lt hk)).trans (up_lt hk))) (fun _ hk => ((up_lt (Nat.lt_succ_of_lt hk)).trans (up_lt hk))) up_eq up_eq
          exact ih2 (kk + 1) t4 z4 (C2 + 1) (S2 + 3) H locs (by omega) (by omega) (fu_le c3 hn2) (show v_X4_addedUp tj0 a1 = wX4_addedUp_6 tj0 a1 n2 (kk + 1) t4 from he2.trans (by rw [wX4_addedUp_6, if_neg c3, om_some o4])) B ls (lv_sub hl [0, 1, 2, 3] rfl)
  have hT2 : (a1.toInt - (0 : Int32).toInt).toNat + 1 ≤ 10 := au_le ha
  exact loop2 ((a1.toInt - (0 : Int32).toInt).toNat + 1) 0 (v_X4_nothing) z1 1 3 H locs (by omega) (by omega) (Nat.lt_succ_self _) (show v_X4_addedUp tj0 a1 = wX4_addedUp_6 tj0 a1 ((a1.toInt - (0 : Int32).toInt).toNat + 1) 0 (v_X4_nothing) from rfl) B ls hl
