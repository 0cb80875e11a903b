set_option maxHeartbeats 4000000 in
theorem c_W_told (l : Launch) (g : GG) (N : Nat) (ad : Nat → Nat) (f : Nat → va_E) (j bj : Nat) (t : TR) (hj : j < N) (hbj : ad j = bj) (hfj : f j = c_row g t) : KR l yX4_told cX4_told 1 (.object "java/lang/String") (rm 6 6 166) g [.ref bj] N ad f (N + 1 + 1) (fun r ad' f' => ∃ (a a2 : Nat) (h' : Nat → Int32), sb_Fit h' ∧ some a = r ∧ va_up (va_up ad N a) (N + 1) a2 = ad' ∧ va_up (va_up f N (c_st a2)) (N + 1) (c_ba g (tlen t) h') = f') := by
  intro sz
  refine mt_start (by decide) (Nat.le_of_ble_eq_true rfl) ?_
  intro p e0 s m9 args below meth c hsz X hr hnam hA hK hT H locs B ls hl
  obtain ⟨hx, hb, hml, hown, hts, hlocks⟩ := id X
  have hl : lv_has ls 1 [(0, .ref bj)] := hl
  have hk11 : st_len.getD 11 0 = 2 := rfl
  have hk12 : st_len.getD 12 0 = 2 := rfl
  have hk13 : st_len.getD 13 0 = 1 := rfl
  have hk14 : st_len.getD 14 0 = 1 := rfl
  have hz1 := ssz_b t.1
  have hz2 := ssz_b t.2.1
  have hz3 := ssz_b t.2.2
  refine lv_aload_n hx hb dX4_told_0 rfl (lv_at hl 0 rfl) ?_
  refine lv_ifnonnull (tgt := 9) hx hb dX4_told_1 (by decide) ?_
  refine g_new (ci := 1) (fs := [.null, .int 0, .int 0, .int 0]) (k1 := ((0) + 1)) (k2 := ((0) + 4)) X hA hK B rfl in_J4 tyJ4_ok lk_X4_63 (tb_in (lw_at 113 (by decide +kernel)) rfl) ii_J4 (by decide +kernel) (by dsimp only [rm]; omega) (by dsimp only [rm]; omega) (Nat.le_refl _) (Nat.le_refl _) dX4_told_9 (fun z1 H B => ?_)
  refine W.widen (show ((0) + 1) ≤ (1) by omega) (show ((0) + 4) ≤ (4) by omega) ?_
  refine lv_dup hx hb dX4_told_12 rfl ?_
  refine k_v (k := (2)) (n := (20)) hA B (b_I (rest := [.ref z1]) X (c_S_new l g (N + 1) (va_up ad N z1) (va_up f N (.inr (1, [.null, .int 0, .int 0, .int 0]))) N z1 (Nat.lt_succ_self _) up_eq up_eq H.size) mw_J4_init_da8c8 rfl md_J4_init_da8c8 rfl lk_X4_65 ⟨Nat.le_of_ble_eq_true rfl, Nat.le_of_ble_eq_true rfl⟩ hA hK hT B hl.1 rfl (Nat.le_of_ble_eq_true rfl) dX4_told_13 (by dsimp only [rm]; omega)) (by dsimp only [rm]; omega) (by dsimp only [rm]; omega) (fun ad' f' H locs hw B => ?_)
  obtain ⟨v2, rfl, rfl⟩ := hw
  rw [bx_uu] at B
  have B : WB g (aw N ad sz) s.heap (N + 1 + 1) (va_up (va_up ad N z1) (N + 1) v2) (va_up (va_up f N (c_sb v2 0 0)) (N + 1) (c_ba g 16 (fun _ => 0))) H locs := B
  have hd0 : (16 = 16 ∧ 2 = 2 ∧ 20 = 20) ∨ (16 = 34 ∧ 2 = 2 + 1 ∧ 20 = 20 + 34) ∨ (16 = 70 ∧ 2 ≤ 2 + 2 ∧ 20 ≤ 20 + 104) := Or.inl ⟨rfl, rfl, rfl⟩
  refine lv_aload_n hx hb dX4_told_16 rfl (lv_at hl 0 rfl) ?_
  refine lv_iconst (v := 0) hx hb dX4_told_17 (by decide) ?_
  refine h_ld0 X hK B (Nat.lt_succ_of_lt (Nat.lt_succ_of_lt hj)) ((up_lt (Nat.lt_succ_of_lt hj)).trans ((up_lt hj).trans hbj)) ((up_lt (Nat.lt_succ_of_lt hj)).trans ((up_lt hj).trans hfj)) dX4_told_18 ?_
  obtain ⟨m3, C3, S3, e3a, e3b, e3c, hd3, hq3⟩ := cap_step (q := (0 + ssz t.1)) hd0 (by omega) (by omega)
  refine k_r (k := (0 + C3)) (n := (0 + S3)) hA B (b_V (q := N) (rest := []) ((up_lt (by omega)).trans up_eq) X (c_S_appI l g (N + 1 + 1) (va_up (va_up ad N z1) (N + 1) v2) (va_up (va_up f N (c_sb v2 0 0)) (N + 1) (c_ba g 16 (fun _ => 0))) N (N + 1) z1 v2 0 16 0 (fun _ => 0) (by omega) (by omega) (by omega) ((up_lt (by omega)).trans up_eq) up_eq ((up_lt (by omega)).trans up_eq) up_eq sb_fit0 (by omega) (by omega) t.1 (by omega) H.size) mw_J4_append_bf812 md_J4_append_bf812 rfl lk_X4_66 ⟨Nat.le_of_ble_eq_true rfl, Nat.le_of_ble_eq_true rfl⟩ hA hK hT B (by omega) ((up_lt (by omega)).trans up_eq) rfl rfl hl.1 rfl (Nat.le_of_ble_eq_true rfl) dX4_told_19 (by dsimp only [rm]; omega)) (by dsimp only [rm]; omega) (by dsimp only [rm]; omega) (fun r ad' f' H locs hw B => ?_)
  obtain ⟨v3, h3, hF3, rfl, rfl, rfl⟩ := hw
  rw [bx_uu, sw_4 (by omega), e3a] at B
  have B : WB g (aw N ad sz) s.heap (N + 1 + 1) (va_up (va_up ad N z1) (N + 1) v3) (va_up (va_up f N (c_sb v3 0 (0 + ssz t.1))) (N + 1) (c_ba g m3 h3)) H locs := B
  refine b_ldc (i := 11) (by decide) rfl rfl X hT dX4_told_22 ?_
  obtain ⟨m4, C4, S4, e4a, e4b, e4c, hd4, hq4⟩ := cap_step (q := ((0 + ssz t.1) + st_len.getD 11 0)) hd3 (by omega) (by omega)
  refine k_r (k := (0 + C4)) (n := (0 + S4)) hA B (b_V (q := N) (rest := []) ((up_lt (by omega)).trans up_eq) X (c_S_appK l g (N + 1 + 1) (va_up (va_up ad N z1) (N + 1) v3) (va_up (va_up f N (c_sb v3 0 (0 + ssz t.1))) (N + 1) (c_ba g m3 h3)) N (N + 1) z1 v3 (0 + ssz t.1) m3 0 h3 (by omega) (by omega) (by omega) ((up_lt (by omega)).trans up_eq) up_eq ((up_lt (by omega)).trans up_eq) up_eq hF3 (by omega) (by omega) 11 (by decide) (by omega) H.size) mw_J4_append_15ec4 md_J4_append_15ec4 rfl lk_X4_72 ⟨Nat.le_of_ble_eq_true rfl, Nat.le_of_ble_eq_true rfl⟩ hA hK hT B (by omega) ((up_lt (by omega)).trans up_eq) rfl rfl hl.1 rfl (Nat.le_of_ble_eq_true rfl) dX4_told_24 (by dsimp only [rm]; omega)) (by dsimp only [rm]; omega) (by dsimp only [rm]; omega) (fun r ad' f' H locs hw B => ?_)
  obtain ⟨v4, h4, hF4, rfl, rfl, rfl⟩ := hw
  rw [bx_uu, sw_4 (by omega), e4a] at B
  have B : WB g (aw N ad sz) s.heap (N + 1 + 1) (va_up (va_up ad N z1) (N + 1) v4) (va_up (va_up f N (c_sb v4 0 ((0 + ssz t.1) + st_len.getD 11 0))) (N + 1) (c_ba g m4 h4)) H locs := B
  refine lv_aload_n hx hb dX4_told_27 rfl (lv_at hl 0 rfl) ?_
  refine lv_iconst (v := 1) hx hb dX4_told_28 (by decide) ?_
  refine h_ld1 X hK B (Nat.lt_succ_of_lt (Nat.lt_succ_of_lt hj)) ((up_lt (Nat.lt_succ_of_lt hj)).trans ((up_lt hj).trans hbj)) ((up_lt (Nat.lt_succ_of_lt hj)).trans ((up_lt hj).trans hfj)) dX4_told_29 ?_
  obtain ⟨m5, C5, S5, e5a, e5b, e5c, hd5, hq5⟩ := cap_step (q := (((0 + ssz t.1) + st_len.getD 11 0) + ssz t.2.1)) hd4 (by omega) (by omega)
  refine k_r (k := (0 + C5)) (n := (0 + S5)) hA B (b_V (q := N) (rest := []) ((up_lt (by omega)).trans up_eq) X (c_S_appI l g (N + 1 + 1) (va_up (va_up ad N z1) (N + 1) v4) (va_up (va_up f N (c_sb v4 0 ((0 + ssz t.1) + st_len.getD 11 0))) (N + 1) (c_ba g m4 h4)) N (N + 1) z1 v4 ((0 + ssz t.1) + st_len.getD 11 0) m4 0 h4 (by omega) (by omega) (by omega) ((up_lt (by omega)).trans up_eq) up_eq ((up_lt (by omega)).trans up_eq) up_eq hF4 (by omega) (by omega) t.2.1 (by omega) H.size) mw_J4_append_bf812 md_J4_append_bf812 rfl lk_X4_66 ⟨Nat.le_of_ble_eq_true rfl, Nat.le_of_ble_eq_true rfl⟩ hA hK hT B (by omega) ((up_lt (by omega)).trans up_eq) rfl rfl hl.1 rfl (Nat.le_of_ble_eq_true rfl) dX4_told_30 (by dsimp only [rm]; omega)) (by dsimp only [rm]; omega) (by dsimp only [rm]; omega) (fun r ad' f' H locs hw B => ?_)
  obtain ⟨v5, h5, hF5, rfl, rfl, rfl⟩ := hw
  rw [bx_uu, sw_4 (by omega), e5a] at B
  have B : WB g (aw N ad sz) s.heap (N + 1 + 1) (va_up (va_up ad N z1) (N + 1) v5) (va_up (va_up f N (c_sb v5 0 (((0 + ssz t.1) + st_len.getD 11 0) + ssz t.2.1))) (N + 1) (c_ba g m5 h5)) H locs := B
  refine b_ldc (i := 12) (by decide) rfl rfl X hT dX4_told_33 ?_
  obtain ⟨m6, C6, S6, e6a, e6b, e6c, hd6, hq6⟩ := cap_step (q := ((((0 + ssz t.1) + st_len.getD 11 0) + ssz t.2.1) + st_len.getD 12 0)) hd5 (by omega) (by omega)
  refine k_r (k := (0 + C6)) (n := (0 + S6)) hA B (b_V (q := N) (rest := []) ((up_lt (by omega)).trans up_eq) X (c_S_appK l g (N + 1 + 1) (va_up (va_up ad N z1) (N + 1) v5) (va_up (va_up f N (c_sb v5 0 (((0 + ssz t.1) + st_len.getD 11 0) + ssz t.2.1))) (N + 1) (c_ba g m5 h5)) N (N + 1) z1 v5 (((0 + ssz t.1) + st_len.getD 11 0) + ssz t.2.1) m5 0 h5 (by omega) (by omega) (by omega) ((up_lt (by omega)).trans up_eq) up_eq ((up_lt (by omega)).trans up_eq) up_eq hF5 (by omega) (by omega) 12 (by decide) (by omega) H.size) mw_J4_append_15ec4 md_J4_append_15ec4 rfl lk_X4_72 ⟨Nat.le_of_ble_eq_true rfl, Nat.le_of_ble_eq_true rfl⟩ hA hK hT B (by omega) ((up_lt (by omega)).trans up_eq) rfl rfl hl.1 rfl (Nat.le_of_ble_eq_true rfl) dX4_told_35 (by dsimp only [rm]; omega)) (by dsimp only [rm]; omega) (by dsimp only [rm]; omega) (fun r ad' f' H locs hw B => ?_)
  obtain ⟨v6, h6, hF6, rfl, rfl, rfl⟩ := hw
  rw [bx_uu, sw_4 (by omega), e6a] at B
  have B : WB g (aw N ad sz) s.heap (N + 1 + 1) (va_up (va_up ad N z1) (N + 1) v6) (va_up (va_up f N (c_sb v6 0 ((((0 + ssz t.1) + st_len.getD 11 0) + ssz t.2.1) + st_len.getD 12 0))) (N + 1) (c_ba g m6 h6)) H locs := B
  refine lv_aload_n hx hb dX4_told_38 rfl (lv_at hl 0 rfl) ?_
  refine lv_iconst (v := 2) hx hb dX4_told_39 (by decide) ?_
  refine h_ld2 X hK B (Nat.lt_succ_of_lt (Nat.lt_succ_of_lt hj)) ((up_lt (Nat.lt_succ_of_lt hj)).trans ((up_lt hj).trans hbj)) ((up_lt (Nat.lt_succ_of_lt hj)).trans ((up_lt hj).trans hfj)) dX4_told_40 ?_
  obtain ⟨m7, C7, S7, e7a, e7b, e7c, hd7, hq7⟩ := cap_step (q := (((((0 + ssz t.1) + st_len.getD 11 0) + ssz t.2.1) + st_len.getD 12 0) + ssz t.2.2)) hd6 (by omega) (by omega)
  refine k_r (k := (0 + C7)) (n := (0 + S7)) hA B (b_V (q := N) (rest := []) ((up_lt (by omega)).trans up_eq) X (c_S_appI l g (N + 1 + 1) (va_up (va_up ad N z1) (N + 1) v6) (va_up (va_up f N (c_sb v6 0 ((((0 + ssz t.1) + st_len.getD 11 0) + ssz t.2.1) + st_len.getD 12 0))) (N + 1) (c_ba g m6 h6)) N (N + 1) z1 v6 ((((0 + ssz t.1) + st_len.getD 11 0) + ssz t.2.1) + st_len.getD 12 0) m6 0 h6 (by omega) (by omega) (by omega) ((up_lt (by omega)).trans up_eq) up_eq ((up_lt (by omega)).trans up_eq) up_eq hF6 (by omega) (by omega) t.2.2 (by omega) H.size) mw_J4_append_bf812 md_J4_append_bf812 rfl lk_X4_66 ⟨Nat.le_of_ble_eq_true rfl, Nat.le_of_ble_eq_true rfl⟩ hA hK hT B (by omega) ((up_lt (by omega)).trans up_eq) rfl rfl hl.1 rfl (Nat.le_of_ble_eq_true rfl) dX4_told_41 (by dsimp only [rm]; omega)) (by dsimp only [rm]; omega) (by dsimp only [rm]; omega) (fun r ad' f' H locs hw B => ?_)
  obtain ⟨v7, h7, hF7, rfl, rfl, rfl⟩ := hw
  rw [bx_uu, sw_4 (by omega), e7a] at B
  have B : WB g (aw N ad sz) s.heap (N + 1 + 1) (va_up (va_up ad N z1) (N + 1) v7) (va_up (va_up f N (c_sb v7 0 (((((0 + ssz t.1) + st_len.getD 11 0) + ssz t.2.1) + st_len.getD 12 0) + ssz t.2.2))) (N + 1) (c_ba g m7 h7)) H locs := B
  refine b_ldc (i := 13) (by decide) rfl rfl X hT dX4_told_44 ?_
  obtain ⟨m8, C8, S8, e8a, e8b, e8c, hd8, hq8⟩ := cap_step (q := ((((((0 + ssz t.1) + st_len.getD 11 0) + ssz t.2.1) + st_len.getD 12 0) + ssz t.2.2) + st_len.getD 13 0)) hd7 (by omega) (by omega)
  refine k_r (k := (0 + C8)) (n := (0 + S8)) hA B (b_V (q := N) (rest := []) ((up_lt (by omega)).trans up_eq) X (c_S_appK l g (N + 1 + 1) (va_up (va_up ad N z1) (N + 1) v7) (va_up (va_up f N (c_sb v7 0 (((((0 + ssz t.1) + st_len.getD 11 0) + ssz t.2.1) + st_len.getD 12 0) + ssz t.2.2))) (N + 1) (c_ba g m7 h7)) N (N + 1) z1 v7 (((((0 + ssz t.1) + st_len.getD 11 0) + ssz t.2.1) + st_len.getD 12 0) + ssz t.2.2) m7 0 h7 (by omega) (by omega) (by omega) ((up_lt (by omega)).trans up_eq) up_eq ((up_lt (by omega)).trans up_eq) up_eq hF7 (by omega) (by omega) 13 (by decide) (by omega) H.size) mw_J4_append_15ec4 md_J4_append_15ec4 rfl lk_X4_72 ⟨Nat.le_of_ble_eq_true rfl, Nat.le_of_ble_eq_true rfl⟩ hA hK hT B (by omega) ((up_lt (by omega)).trans up_eq) rfl rfl hl.1 rfl (Nat.le_of_ble_eq_true rfl) dX4_told_46 (by dsimp only [rm]; omega)) (by dsimp only [rm]; omega) (by dsimp only [rm]; omega) (fun r ad' f' H locs hw B => ?_)
  obtain ⟨v8, h8, hF8, rfl, rfl, rfl⟩ := hw
  rw [bx_uu, sw_4 (by omega), e8a] at B
  have B : WB g (aw N ad sz) s.heap (N + 1 + 1) (va_up (va_up ad N z1) (N + 1) v8) (va_up (va_up f N (c_sb v8 0 ((((((0 + ssz t.1) + st_len.getD 11 0) + ssz t.2.1) + st_len.getD 12 0) + ssz t.2.2) + st_len.getD 13 0))) (N + 1) (c_ba g m8 h8)) H locs := B
  refine k_r (k := (2 + C8)) (n := (0 + S8 + (4 + ((((((0 + ssz t.1) + st_len.getD 11 0) + ssz t.2.1) + st_len.getD 12 0) + ssz t.2.2) + st_len.getD 13 0)))) hA B (b_V (q := N) (rest := []) ((up_lt (by omega)).trans up_eq) X (c_S_toS l g (N + 1 + 1) (va_up (va_up ad N z1) (N + 1) v8) (va_up (va_up f N (c_sb v8 0 ((((((0 + ssz t.1) + st_len.getD 11 0) + ssz t.2.1) + st_len.getD 12 0) + ssz t.2.2) + st_len.getD 13 0))) (N + 1) (c_ba g m8 h8)) N (N + 1) z1 v8 ((((((0 + ssz t.1) + st_len.getD 11 0) + ssz t.2.1) + st_len.getD 12 0) + ssz t.2.2) + st_len.getD 13 0) m8 0 h8 (by omega) (by omega) (by omega) ((up_lt (by omega)).trans up_eq) up_eq ((up_lt (by omega)).trans up_eq) up_eq hF8 (by omega) (by omega) H.size) mw_J4_toString_0e30d md_J4_toString_0e30d rfl lk_X4_79 ⟨Nat.le_of_ble_eq_true rfl, Nat.le_of_ble_eq_true rfl⟩ hA hK hT B (by omega) ((up_lt (by omega)).trans up_eq) rfl rfl hl.1 rfl (Nat.le_of_ble_eq_true rfl) dX4_told_49 (by dsimp only [rm]; omega)) (by dsimp only [rm]; omega) (by dsimp only [rm]; omega) (fun r ad' f' H locs hw B => ?_)
  obtain ⟨a9, a9x, h9, hF9, rfl, rfl, rfl⟩ := hw
  have en : ((((((0 + ssz t.1) + st_len.getD 11 0) + ssz t.2.1) + st_len.getD 12 0) + ssz t.2.2) + st_len.getD 13 0) = tlen t := by unfold tlen; omega
  have B : WB g (aw N ad sz) s.heap (N + 1 + 1) (va_up (va_up ad N a9) (N + 1) a9x) (va_up (va_up f N (c_st a9x)) (N + 1) (c_ba g (tlen t) h9)) H locs := by rw [en] at B; exact WB_pick2 B (by omega) (by omega) (fun _ hk => ((up_lt (Nat.lt_succ_of_lt (Nat.lt_succ_of_lt (Nat.lt_succ_of_lt hk)))).trans ((up_lt (Nat.lt_succ_of_lt (Nat.lt_succ_of_lt hk))).trans ((up_lt (Nat.lt_succ_of_lt hk)).trans (up_lt hk))))) (fun _ hk => ((up_lt (Nat.lt_succ_of_lt (Nat.lt_succ_of_lt (Nat.lt_succ_of_lt hk)))).trans ((up_lt (Nat.lt_succ_of_lt (Nat.lt_succ_of_lt hk))).trans ((up_lt (Nat.lt_succ_of_lt hk)).trans (up_lt hk))))) ((up_lt (by omega)).trans up_eq) up_eq ((up_lt (by omega)).trans up_eq) up_eq
  exact rt_r (r := some a9) rfl X hr (Or.inl ⟨_, rfl⟩) (va_up (va_up ad N a9) (N + 1) a9x, va_up (va_up f N (c_st a9x)) (N + 1) (c_ba g (tlen t) h9)) B (PO_of B) ⟨_, _, _, hF9, rfl, rfl, rfl⟩ (by dsimp only [rm]; omega) (by dsimp only [rm]; omega) dX4_told_52
set_option maxHeartbeats 4000000 in
theorem c_W_toldN (l : Launch) (g : GG) (N : Nat) (ad : Nat → Nat) (f : Nat → va_E) : KR l yX4_told cX4_told 1 (.object "java/lang/String") (rm 0 0 0) g [.null] N ad f N (fun r ad' f' => some (g.2.2 110) = r ∧ ad = ad' ∧ f = f') := by
  intro sz
  refine mt_start (by decide) (Nat.le_of_ble_eq_true rfl) ?_
  intro p e0 s m9 args below meth c hsz X hr hnam hA hK hT H locs B ls hl
  obtain ⟨hx, hb, hml, hown, hts, hlocks⟩ := id X
  have hl : lv_has ls 1 [(0, .null)] := hl
  refine lv_aload_nN hx hb dX4_told_0 rfl (lv_at hl 0 rfl) ?_
  refine lv_ifnonnullN hx hb dX4_told_1 ?_
  refine b_ldc (i := 10) (by decide) rfl rfl X hT dX4_told_4 ?_
  refine lv_goto (tgt := 52) hx hb dX4_told_6 (by decide) ?_
  exact rt_r (r := some (g.2.2 (100 + 10))) rfl X hr (Or.inl ⟨_, rfl⟩) (ad, f) B (PO_of B) ⟨rfl, rfl, rfl⟩ (by dsimp only [rm]; omega) (by dsimp only [rm]; omega) dX4_told_52
set_option maxHeartbeats 4000000 in
theorem c_W_date (l : Launch) (g : GG) (N : Nat) (ad : Nat → Nat) (f : Nat → va_E) (j bj : Nat) (t : TR) (hj : j < N) (hbj : ad j = bj) (hfj : f j = c_row g t) (hok : okd t) : KR l yX4_dateTold cX4_dateTold 1 (.object "java/lang/String") (rm 6 4 34) g [.ref bj] N ad f (N + 1 + 1) (fun r ad' f' => ∃ (a a2 : Nat) (h' : Nat → Int32), sb_Fit h' ∧ some a = r ∧ va_up (va_up ad N a) (N + 1) a2 = ad' ∧ va_up (va_up f N (c_st a2)) (N + 1) (c_ba g (dlen t) h') = f') := by
  intro sz
  refine mt_start (by decide) (Nat.le_of_ble_eq_true rfl) ?_
  intro p e0 s m9 args below meth c hsz X hr hnam hA hK hT H locs B ls hl
  obtain ⟨hx, hb, hml, hown, hts, hlocks⟩ := id X
  have hl : lv_has ls 1 [(0, .ref bj)] := hl
  have hk11 : st_len.getD 11 0 = 2 := rfl
  have hk12 : st_len.getD 12 0 = 2 := rfl
  have hk13 : st_len.getD 13 0 = 1 := rfl
  have hk14 : st_len.getD 14 0 = 1 := rfl
  have hz := okd_sz hok
  refine lv_aload_n hx hb dX4_dateTold_0 rfl (lv_at hl 0 rfl) ?_
  refine lv_ifnonnull (tgt := 9) hx hb dX4_dateTold_1 (by decide) ?_
  refine g_new (ci := 1) (fs := [.null, .int 0, .int 0, .int 0]) (k1 := ((0) + 1)) (k2 := ((0) + 4)) X hA hK B rfl in_J4 tyJ4_ok lk_X4_63 (tb_in (lw_at 113 (by decide +kernel)) rfl) ii_J4 (by decide +kernel) (by dsimp only [rm]; omega) (by dsimp only [rm]; omega) (Nat.le_refl _) (Nat.le_refl _) dX4_dateTold_9 (fun z1 H B => ?_)
  refine W.widen (show ((0) + 1) ≤ (1) by omega) (show ((0) + 4) ≤ (4) by omega) ?_
  refine lv_dup hx hb dX4_dateTold_12 rfl ?_
  refine k_v (k := (2)) (n := (20)) hA B (b_I (rest := [.ref z1]) X (c_S_new l g (N + 1) (va_up ad N z1) (va_up f N (.inr (1, [.null, .int 0, .int 0, .int 0]))) N z1 (Nat.lt_succ_self _) up_eq up_eq H.size) mw_J4_init_da8c8 rfl md_J4_init_da8c8 rfl lk_X4_65 ⟨Nat.le_of_ble_eq_true rfl, Nat.le_of_ble_eq_true rfl⟩ hA hK hT B hl.1 rfl (Nat.le_of_ble_eq_true rfl) dX4_dateTold_13 (by dsimp only [rm]; omega)) (by dsimp only [rm]; omega) (by dsimp only [rm]; omega) (fun ad' f' H locs hw B => ?_)
  obtain ⟨v2, rfl, rfl⟩ := hw
  rw [bx_uu] at B
  have B : WB g (aw N ad sz) s.heap (N + 1 + 1) (va_up (va_up ad N z1) (N + 1) v2) (va_up (va_up f N (c_sb v2 0 0)) (N + 1) (c_ba g 16 (fun _ => 0))) H locs := B
  refine lv_aload_n hx hb dX4_dateTold_16 rfl (lv_at hl 0 rfl) ?_
  refine lv_iconst (v := 0) hx hb dX4_dateTold_17 (by decide) ?_
  refine h_ld0 X hK B (Nat.lt_succ_of_lt (Nat.lt_succ_of_lt hj)) ((up_lt (Nat.lt_succ_of_lt hj)).trans ((up_lt hj).trans hbj)) ((up_lt (Nat.lt_succ_of_lt hj)).trans ((up_lt hj).trans hfj)) dX4_dateTold_18 ?_
  obtain ⟨e3a, e3b, e3c⟩ := g_no (q := (0 + ssz t.1)) (m := 16) (by omega)
  refine k_r (k := (2)) (n := (20)) hA B (b_V (q := N) (rest := []) ((up_lt (by omega)).trans up_eq) X (c_S_appI l g (N + 1 + 1) (va_up (va_up ad N z1) (N + 1) v2) (va_up (va_up f N (c_sb v2 0 0)) (N + 1) (c_ba g 16 (fun _ => 0))) N (N + 1) z1 v2 0 16 0 (fun _ => 0) (by omega) (by omega) (by omega) ((up_lt (by omega)).trans up_eq) up_eq ((up_lt (by omega)).trans up_eq) up_eq sb_fit0 (by omega) (by omega) t.1 (by omega) H.size) mw_J4_append_bf812 md_J4_append_bf812 rfl lk_X4_66 ⟨Nat.le_of_ble_eq_true rfl, Nat.le_of_ble_eq_true rfl⟩ hA hK hT B (by omega) ((up_lt (by omega)).trans up_eq) rfl rfl hl.1 rfl (Nat.le_of_ble_eq_true rfl) dX4_dateTold_19 (by dsimp only [rm]; omega)) (by dsimp only [rm]; omega) (by dsimp only [rm]; omega) (fun r ad' f' H locs hw B => ?_)
  obtain ⟨v3, h3, hF3, rfl, rfl, rfl⟩ := hw
  rw [bx_uu, sw_4 (by omega), e3a] at B
  have B : WB g (aw N ad sz) s.heap (N + 1 + 1) (va_up (va_up ad N z1) (N + 1) v3) (va_up (va_up f N (c_sb v3 0 (0 + ssz t.1))) (N + 1) (c_ba g 16 h3)) H locs := B
  refine b_ldc (i := 14) (by decide) rfl rfl X hT dX4_dateTold_22 ?_
  obtain ⟨e4a, e4b, e4c⟩ := g_no (q := ((0 + ssz t.1) + st_len.getD 14 0)) (m := 16) (by omega)
  refine k_r (k := (2)) (n := (20)) hA B (b_V (q := N) (rest := []) ((up_lt (by omega)).trans up_eq) X (c_S_appK l g (N + 1 + 1) (va_up (va_up ad N z1) (N + 1) v3) (va_up (va_up f N (c_sb v3 0 (0 + ssz t.1))) (N + 1) (c_ba g 16 h3)) N (N + 1) z1 v3 (0 + ssz t.1) 16 0 h3 (by omega) (by omega) (by omega) ((up_lt (by omega)).trans up_eq) up_eq ((up_lt (by omega)).trans up_eq) up_eq hF3 (by omega) (by omega) 14 (by decide) (by omega) H.size) mw_J4_append_15ec4 md_J4_append_15ec4 rfl lk_X4_72 ⟨Nat.le_of_ble_eq_true rfl, Nat.le_of_ble_eq_true rfl⟩ hA hK hT B (by omega) ((up_lt (by omega)).trans up_eq) rfl rfl hl.1 rfl (Nat.le_of_ble_eq_true rfl) dX4_dateTold_24 (by dsimp only [rm]; omega)) (by dsimp only [rm]; omega) (by dsimp only [rm]; omega) (fun r ad' f' H locs hw B => ?_)
  obtain ⟨v4, h4, hF4, rfl, rfl, rfl⟩ := hw
  rw [bx_uu, sw_4 (by omega), e4a] at B
  have B : WB g (aw N ad sz) s.heap (N + 1 + 1) (va_up (va_up ad N z1) (N + 1) v4) (va_up (va_up f N (c_sb v4 0 ((0 + ssz t.1) + st_len.getD 14 0))) (N + 1) (c_ba g 16 h4)) H locs := B
  refine lv_aload_n hx hb dX4_dateTold_27 rfl (lv_at hl 0 rfl) ?_
  refine lv_iconst (v := 1) hx hb dX4_dateTold_28 (by decide) ?_
  refine h_ld1 X hK B (Nat.lt_succ_of_lt (Nat.lt_succ_of_lt hj)) ((up_lt (Nat.lt_succ_of_lt hj)).trans ((up_lt hj).trans hbj)) ((up_lt (Nat.lt_succ_of_lt hj)).trans ((up_lt hj).trans hfj)) dX4_dateTold_29 ?_
  obtain ⟨e5a, e5b, e5c⟩ := g_no (q := (((0 + ssz t.1) + st_len.getD 14 0) + ssz t.2.1)) (m := 16) (by omega)
  refine k_r (k := (2)) (n := (20)) hA B (b_V (q := N) (rest := []) ((up_lt (by omega)).trans up_eq) X (c_S_appI l g (N + 1 + 1) (va_up (va_up ad N z1) (N + 1) v4) (va_up (va_up f N (c_sb v4 0 ((0 + ssz t.1) + st_len.getD 14 0))) (N + 1) (c_ba g 16 h4)) N (N + 1) z1 v4 ((0 + ssz t.1) + st_len.getD 14 0) 16 0 h4 (by omega) (by omega) (by omega) ((up_lt (by omega)).trans up_eq) up_eq ((up_lt (by omega)).trans up_eq) up_eq hF4 (by omega) (by omega) t.2.1 (by omega) H.size) mw_J4_append_bf812 md_J4_append_bf812 rfl lk_X4_66 ⟨Nat.le_of_ble_eq_true rfl, Nat.le_of_ble_eq_true rfl⟩ hA hK hT B (by omega) ((up_lt (by omega)).trans up_eq) rfl rfl hl.1 rfl (Nat.le_of_ble_eq_true rfl) dX4_dateTold_30 (by dsimp only [rm]; omega)) (by dsimp only [rm]; omega) (by dsimp only [rm]; omega) (fun r ad' f' H locs hw B => ?_)
  obtain ⟨v5, h5, hF5, rfl, rfl, rfl⟩ := hw
  rw [bx_uu, sw_4 (by omega), e5a] at B
  have B : WB g (aw N ad sz) s.heap (N + 1 + 1) (va_up (va_up ad N z1) (N + 1) v5) (va_up (va_up f N (c_sb v5 0 (((0 + ssz t.1) + st_len.getD 14 0) + ssz t.2.1))) (N + 1) (c_ba g 16 h5)) H locs := B
  refine b_ldc (i := 14) (by decide) rfl rfl X hT dX4_dateTold_33 ?_
  obtain ⟨e6a, e6b, e6c⟩ := g_no (q := ((((0 + ssz t.1) + st_len.getD 14 0) + ssz t.2.1) + st_len.getD 14 0)) (m := 16) (by omega)
  refine k_r (k := (2)) (n := (20)) hA B (b_V (q := N) (rest := []) ((up_lt (by omega)).trans up_eq) X (c_S_appK l g (N + 1 + 1) (va_up (va_up ad N z1) (N + 1) v5) (va_up (va_up f N (c_sb v5 0 (((0 + ssz t.1) + st_len.getD 14 0) + ssz t.2.1))) (N + 1) (c_ba g 16 h5)) N (N + 1) z1 v5 (((0 + ssz t.1) + st_len.getD 14 0) + ssz t.2.1) 16 0 h5 (by omega) (by omega) (by omega) ((up_lt (by omega)).trans up_eq) up_eq ((up_lt (by omega)).trans up_eq) up_eq hF5 (by omega) (by omega) 14 (by decide) (by omega) H.size) mw_J4_append_15ec4 md_J4_append_15ec4 rfl lk_X4_72 ⟨Nat.le_of_ble_eq_true rfl, Nat.le_of_ble_eq_true rfl⟩ hA hK hT B (by omega) ((up_lt (by omega)).trans up_eq) rfl rfl hl.1 rfl (Nat.le_of_ble_eq_true rfl) dX4_dateTold_35 (by dsimp only [rm]; omega)) (by dsimp only [rm]; omega) (by dsimp only [rm]; omega) (fun r ad' f' H locs hw B => ?_)
  obtain ⟨v6, h6, hF6, rfl, rfl, rfl⟩ := hw
  rw [bx_uu, sw_4 (by omega), e6a] at B
  have B : WB g (aw N ad sz) s.heap (N + 1 + 1) (va_up (va_up ad N z1) (N + 1) v6) (va_up (va_up f N (c_sb v6 0 ((((0 + ssz t.1) + st_len.getD 14 0) + ssz t.2.1) + st_len.getD 14 0))) (N + 1) (c_ba g 16 h6)) H locs := B
  refine lv_aload_n hx hb dX4_dateTold_38 rfl (lv_at hl 0 rfl) ?_
  refine lv_iconst (v := 2) hx hb dX4_dateTold_39 (by decide) ?_
  refine h_ld2 X hK B (Nat.lt_succ_of_lt (Nat.lt_succ_of_lt hj)) ((up_lt (Nat.lt_succ_of_lt hj)).trans ((up_lt hj).trans hbj)) ((up_lt (Nat.lt_succ_of_lt hj)).trans ((up_lt hj).trans hfj)) dX4_dateTold_40 ?_
  obtain ⟨e7a, e7b, e7c⟩ := g_no (q := (((((0 + ssz t.1) + st_len.getD 14 0) + ssz t.2.1) + st_len.getD 14 0) + ssz t.2.2)) (m := 16) (by omega)
  refine k_r (k := (2)) (n := (20)) hA B (b_V (q := N) (rest := []) ((up_lt (by omega)).trans up_eq) X (c_S_appI l g (N + 1 + 1) (va_up (va_up ad N z1) (N + 1) v6) (va_up (va_up f N (c_sb v6 0 ((((0 + ssz t.1) + st_len.getD 14 0) + ssz t.2.1) + st_len.getD 14 0))) (N + 1) (c_ba g 16 h6)) N (N + 1) z1 v6 ((((0 + ssz t.1) + st_len.getD 14 0) + ssz t.2.1) + st_len.getD 14 0) 16 0 h6 (by omega) (by omega) (by omega) ((up_lt (by omega)).trans up_eq) up_eq ((up_lt (by omega)).trans up_eq) up_eq hF6 (by omega) (by omega) t.2.2 (by omega) H.size) mw_J4_append_bf812 md_J4_append_bf812 rfl lk_X4_66 ⟨Nat.le_of_ble_eq_true rfl, Nat.le_of_ble_eq_true rfl⟩ hA hK hT B (by omega) ((up_lt (by omega)).trans up_eq) rfl rfl hl.1 rfl (Nat.le_of_ble_eq_true rfl) dX4_dateTold_41 (by dsimp only [rm]; omega)) (by dsimp only [rm]; omega) (by dsimp only [rm]; omega) (fun r ad' f' H locs hw B => ?_)
  obtain ⟨v7, h7, hF7, rfl, rfl, rfl⟩ := hw
  rw [bx_uu, sw_4 (by omega), e7a] at B
  have B : WB g (aw N ad sz) s.heap (N + 1 + 1) (va_up (va_up ad N z1) (N + 1) v7) (va_up (va_up f N (c_sb v7 0 (((((0 + ssz t.1) + st_len.getD 14 0) + ssz t.2.1) + st_len.getD 14 0) + ssz t.2.2))) (N + 1) (c_ba g 16 h7)) H locs := B
  refine k_r (k := (4)) (n := (20 + (4 + (((((0 + ssz t.1) + st_len.getD 14 0) + ssz t.2.1) + st_len.getD 14 0) + ssz t.2.2)))) hA B (b_V (q := N) (rest := []) ((up_lt (by omega)).trans up_eq) X (c_S_toS l g (N + 1 + 1) (va_up (va_up ad N z1) (N + 1) v7) (va_up (va_up f N (c_sb v7 0 (((((0 + ssz t.1) + st_len.getD 14 0) + ssz t.2.1) + st_len.getD 14 0) + ssz t.2.2))) (N + 1) (c_ba g 16 h7)) N (N + 1) z1 v7 (((((0 + ssz t.1) + st_len.getD 14 0) + ssz t.2.1) + st_len.getD 14 0) + ssz t.2.2) 16 0 h7 (by omega) (by omega) (by omega) ((up_lt (by omega)).trans up_eq) up_eq ((up_lt (by omega)).trans up_eq) up_eq hF7 (by omega) (by omega) H.size) mw_J4_toString_0e30d md_J4_toString_0e30d rfl lk_X4_79 ⟨Nat.le_of_ble_eq_true rfl, Nat.le_of_ble_eq_true rfl⟩ hA hK hT B (by omega) ((up_lt (by omega)).trans up_eq) rfl rfl hl.1 rfl (Nat.le_of_ble_eq_true rfl) dX4_dateTold_44 (by dsimp only [rm]; omega)) (by dsimp only [rm]; omega) (by dsimp only [rm]; omega) (fun r ad' f' H locs hw B => ?_)
  obtain ⟨a8, a8x, h8, hF8, rfl, rfl, rfl⟩ := hw
  have en : (((((0 + ssz t.1) + st_len.getD 14 0) + ssz t.2.1) + st_len.getD 14 0) + ssz t.2.2) = dlen t := by unfold dlen; omega
  have B : WB g (aw N ad sz) s.heap (N + 1 + 1) (va_up (va_up ad N a8) (N + 1) a8x) (va_up (va_up f N (c_st a8x)) (N + 1) (c_ba g (dlen t) h8)) H locs := by rw [en] at B; exact WB_pick2 B (by omega) (by omega) (fun _ hk => ((up_lt (Nat.lt_succ_of_lt (Nat.lt_succ_of_lt (Nat.lt_succ_of_lt hk)))).trans ((up_lt (Nat.lt_succ_of_lt (Nat.lt_succ_of_lt hk))).trans ((up_lt (Nat.lt_succ_of_lt hk)).trans (up_lt hk))))) (fun _ hk => ((up_lt (Nat.lt_succ_of_lt (Nat.lt_succ_of_lt (Nat.lt_succ_of_lt hk)))).trans ((up_lt (Nat.lt_succ_of_lt (Nat.lt_succ_of_lt hk))).trans ((up_lt (Nat.lt_succ_of_lt hk)).trans (up_lt hk))))) ((up_lt (by omega)).trans up_eq) up_eq ((up_lt (by omega)).trans up_eq) up_eq
  exact rt_r (r := some a8) rfl X hr (Or.inl ⟨_, rfl⟩) (va_up (va_up ad N a8) (N + 1) a8x, va_up (va_up f N (c_st a8x)) (N + 1) (c_ba g (dlen t) h8)) B (PO_of B) ⟨_, _, _, hF8, rfl, rfl, rfl⟩ (by dsimp only [rm]; omega) (by dsimp only [rm]; omega) dX4_dateTold_47
set_option maxHeartbeats 4000000 in
theorem c_W_dateN (l : Launch) (g : GG) (N : Nat) (ad : Nat → Nat) (f : Nat → va_E) : KR l yX4_dateTold cX4_dateTold 1 (.object "java/lang/String") (rm 0 0 0) g [.null] N ad f N (fun r ad' f' => some (g.2.2 110) = r ∧ ad = ad' ∧ f = f') := by
  intro sz
  refine mt_start (by decide) (Nat.le_of_ble_eq_true rfl) ?_
  intro p e0 s m9 args below meth c hsz X hr hnam hA hK hT H locs B ls hl
  obtain ⟨hx, hb, hml, hown, hts, hlocks⟩ := id X
  have hl : lv_has ls 1 [(0, .null)] := hl
  refine lv_aload_nN hx hb dX4_dateTold_0 rfl (lv_at hl 0 rfl) ?_
  refine lv_ifnonnullN hx hb dX4_dateTold_1 ?_
  refine b_ldc (i := 10) (by decide) rfl rfl X hT dX4_dateTold_4 ?_
  refine lv_goto (tgt := 47) hx hb dX4_dateTold_6 (by decide) ?_
  exact rt_r (r := some (g.2.2 (100 + 10))) rfl X hr (Or.inl ⟨_, rfl⟩) (ad, f) B (PO_of B) ⟨rfl, rfl, rfl⟩ (by dsimp only [rm]; omega) (by dsimp only [rm]; omega) dX4_dateTold_47
set_option maxHeartbeats 4000000 in
theorem c_W_coder (l : Launch) (g : GG) (N : Nat) (ad : Nat → Nat) (f : Nat → va_E) (qa ba qc ac n : Nat) (h : Nat → Int32) (hqa : qa < N) (hqc : qc < N) (hba : ad qa = ba) (hbc : ad qc = ac) (hfa : f qa = c_st ac) (hfc : f qc = c_ba g n h) : KI l yJ0_coder_7d493 cJ0_coder_7d493 1 (some .byte) (rm 0 0 0) g [.ref ba] N ad f N (fun r ad' f' => ad = ad' ∧ 0 = r ∧ f = f') := by
  intro sz
  refine mt_start (by decide) (Nat.le_of_ble_eq_true rfl) ?_
  intro p e0 s m9 args below meth c hsz X hr hnam hA hK hT H locs B ls hl
  obtain ⟨hx, hb, hml, hown, hts, hlocks⟩ := id X
  have hl : lv_has ls 1 [(0, .ref ba)] := hl
  refine va_gets hx hb hT.2.1.1 B.2.2 hown (hts _ (List.mem_cons_of_mem _ lk_J0_38)) (fun _ h => h) dJ0_coder_7d493_0 ?_
  refine lv_if_eq (tgt := 13) hx hb dJ0_coder_7d493_3 (by decide) (fun z => absurd z (by decide)) (fun _ => ?_)
  refine lv_aload_n hx hb dJ0_coder_7d493_6 rfl (lv_at hl 0 rfl) ?_
  refine b_get (q := qa) (k := 1) hba X hK B rfl in_J0 hqa hfa (by decide) lk_J0_15 rfl rfl dJ0_coder_7d493_7 ?_
  refine lv_goto (tgt := 14) hx hb dJ0_coder_7d493_10 (by decide) ?_
  exact rt_i X hr (ad, f) B (PO_of B) ⟨rfl, rfl, rfl⟩ rfl (by dsimp only [rm]; omega) (by dsimp only [rm]; omega) dJ0_coder_7d493_14
set_option maxHeartbeats 4000000 in
theorem c_W_len (l : Launch) (g : GG) (N : Nat) (ad : Nat → Nat) (f : Nat → va_E) (qa ba qc ac n : Nat) (h : Nat → Int32) (hqa : qa < N) (hqc : qc < N) (hba : ad qa = ba) (hbc : ad qc = ac) (hfa : f qa = c_st ac) (hfc : f qc = c_ba g n h) : KI l yJ0_length_8abf5 cJ0_length_8abf5 1 (some .int) (rm 1 0 0) g [.ref ba] N ad f N (fun r ad' f' => ad = ad' ∧ nI n = r ∧ f = f') := by
  intro sz
  refine mt_start (by decide) (Nat.le_of_ble_eq_true rfl) ?_
  intro p e0 s m9 args below meth c hsz X hr hnam hA hK hT H locs B ls hl
  obtain ⟨hx, hb, hml, hown, hts, hlocks⟩ := id X
  have hl : lv_has ls 1 [(0, .ref ba)] := hl
  refine lv_aload_n hx hb dJ0_length_8abf5_0 rfl (lv_at hl 0 rfl) ?_
  refine b_get (q := qa) (k := 0) hba X hK B rfl in_J0 hqa hfa (by decide) lk_J0_9 rfl rfl dJ0_length_8abf5_1 ?_
  refine b_alen (t0 := 1) (v := nI n) hbc X hK B hqc hfc rfl rfl dJ0_length_8abf5_4 ?_
  refine lv_aload_n hx hb dJ0_length_8abf5_5 rfl (lv_at hl 0 rfl) ?_
  refine k_i (k := (0)) (n := (0)) hA B (b_V (q := qa) (rest := [.int (nI n)]) hba X (c_W_coder l g N ad f qa ba qc ac n h hqa hqc hba hbc hfa hfc H.size) mw_J0_coder_7d493 md_J0_coder_7d493 rfl lk_J0_335 ⟨Nat.le_of_ble_eq_true rfl, Nat.le_of_ble_eq_true rfl⟩ hA hK hT B hqa hfa rfl rfl hl.1 rfl (Nat.le_of_ble_eq_true rfl) dJ0_length_8abf5_6 (by dsimp only [rm]; omega)) (by dsimp only [rm]; omega) (by dsimp only [rm]; omega) (fun r ad' f' H locs hw B => ?_)
  obtain ⟨rfl, rfl, rfl⟩ := hw
  refine lv_ishr hx hb dJ0_length_8abf5_9 ?_
  rw [sb_shr0]
  exact rt_i X hr (ad, f) B (PO_of B) ⟨rfl, rfl, rfl⟩ rfl (by dsimp only [rm]; omega) (by dsimp only [rm]; omega) dJ0_length_8abf5_10
