set_option maxHeartbeats 4000000 in
theorem c_S_appJ5 (l : Launch) (g : GG) (N : Nat) (ad : Nat → Nat) (f : Nat → va_E) (qs qv bs v n m : Nat) (ml : Int32) (h : Nat → Int32) (hqs : qs < N) (hqv : qv < N) (hne : qs ≠ qv) (hbs : ad qs = bs) (hbv : ad qv = v) (hfs : f qs = c_sb v ml n) (hfv : f qv = c_ba g m h) (hF : sb_Fit h) (hnm : n ≤ m) (hm : m ≤ 70) (i : Int64) (hi2 : n + ssl i ≤ 2 * m + 2) : KR l yJ5_append_66267 cJ5_append_66267 5 (.object "java/lang/AbstractStringBuilder") (rm 4 (gC m (sb_cap (n + ssl i) m)) (gS m (sb_cap (n + ssl i) m))) g [.ref bs, .long i] N ad f N (fun r ad' f' => ∃ (v' : Nat) (h' : Nat → Int32), sb_Fit h' ∧ some bs = r ∧ va_up ad qv v' = ad' ∧ va_up (va_up f qs (c_sb v' ml (n + ssl i))) qv (c_ba g (sb_cap (n + ssl i) m) h') = f') := by
  intro sz
  refine mt_start (by decide) (Nat.le_of_ble_eq_true rfl) ?_
  intro p e0 s m9 args below meth c hsz X hr hnam hA hK hT H locs B ls hl
  obtain ⟨hx, hb, hml, hown, hts, hlocks⟩ := id X
  have hl : lv_has ls 5 [(0, .ref bs), (1, .long i)] := hl
  have hsz := ssl_b i
  have hcap := sb_cap_ge (n + ssl i) m
  have hcl : sb_cap (n + ssl i) m ≤ 142 := by unfold sb_cap; split <;> (try split) <;> omega
  refine lv_aload_n hx hb dJ5_append_66267_0 rfl (lv_at hl 0 rfl) ?_
  refine b_get (q := qs) (k := 3) hbs X hK B rfl in_J4 hqs hfs (by decide) lk_J5_79 rfl rfl dJ5_append_66267_1 ?_
  refine lv_istore_n (lv' := [(3, .int (nI n)), (0, .ref bs), (1, .long i)]) hx hb dJ5_append_66267_4 rfl hl (by decide) rfl (fun ls hl => ?_)
  refine lv_iload_n hx hb dJ5_append_66267_5 rfl (lv_at hl 0 rfl) ?_
  refine lv_lload_n hx hb dJ5_append_66267_6 rfl (lv_at hl 2 rfl) ?_
  refine k_i (k := (0)) (n := (0)) hA B (u_S (rest := [.int (nI n)]) X (c_J13_stringSize_95d88 l g N ad f i H.size) mw_J13_stringSize_95d88 md_J13_stringSize_95d88 rfl lk_J5_254 ⟨Nat.le_of_ble_eq_true rfl, Nat.le_of_ble_eq_true rfl⟩ hA hK hT B hl.1 rfl (Nat.le_of_ble_eq_true rfl) dJ5_append_66267_7 (by dsimp only [rm]; omega)) (by dsimp only [rm]; omega) (by dsimp only [rm]; omega) (fun r ad' f' H locs hw B => ?_)
  obtain ⟨rfl, rfl, rfl⟩ := hw
  rw [ssl_ok]
  refine lv_iadd hx hb dJ5_append_66267_10 ?_
  rw [nI_add]
  refine lv_istore (lv' := [(4, .int (nI (n + ssl i))), (3, .int (nI n)), (0, .ref bs), (1, .long i)]) hx hb dJ5_append_66267_11 hl (by decide) rfl (fun ls hl => ?_)
  refine lv_aload_n hx hb dJ5_append_66267_13 rfl (lv_at hl 2 rfl) ?_
  refine lv_iload hx hb dJ5_append_66267_14 (lv_at hl 0 rfl) ?_
  refine k_v (k := (0 + gC m (sb_cap (n + ssl i) m))) (n := (0 + gS m (sb_cap (n + ssl i) m))) hA B (u_P (q := qs) (rest := []) hbs X (c_S_ensure l g N ad f qs qv bs v n m ml h hqs hqv hne hbs hbv hfs hfv hF hnm hm (n + ssl i) (by omega) H.size) mc_J5_ensureCapacityInternal_d00df (lw_at 155 (by decide +kernel)) rfl md_J5_ensureCapacityInternal_d00df rfl lk_J5_100 ⟨Nat.le_of_ble_eq_true rfl, Nat.le_of_ble_eq_true rfl⟩ hA hK hT B hqs hfs hl.1 rfl (Nat.le_of_ble_eq_true rfl) dJ5_append_66267_16 (by dsimp only [rm]; omega)) (by dsimp only [rm]; omega) (by dsimp only [rm]; omega) (fun ad' f' H locs hw B => ?_)
  obtain ⟨v1, h1, hF1, rfl, rfl⟩ := hw
  refine lv_aload_n hx hb dJ5_append_66267_19 rfl (lv_at hl 2 rfl) ?_
  refine k_i (k := (0 + gC m (sb_cap (n + ssl i) m))) (n := (0 + gS m (sb_cap (n + ssl i) m))) hA B (u_H (x := yJ5_isLatin1_aae02) (q := qs) (rest := []) ((va_up_ne _ _ hne).trans hbs) X (c_S_lat l g N (va_up ad qv v1) (va_up (va_up f qs (c_sb v1 ml n)) qv (c_ba g (sb_cap (n + ssl i) m) h1)) qs qv bs v1 n (sb_cap (n + ssl i) m) ml h1 hqs hqv hne ((va_up_ne _ _ hne).trans hbs) (va_up_self _ _ _) ((va_up_ne _ _ hne).trans (va_up_self _ _ _)) (va_up_self _ _ _) hF1 H.size) mc_J5_isLatin1_aae02 ⟨mc_J5_isLatin1_aae02.1, mc_J5_isLatin1_aae02.2.1⟩ (tb_in (lw_at 191 (by decide +kernel)) rfl) (tb_in (lw_at 192 (by decide +kernel)) rfl) md_J5_isLatin1_aae02 rfl lk_J5_83 ⟨Nat.le_of_ble_eq_true rfl, Nat.le_of_ble_eq_true rfl⟩ hA hK hT B hqs ((va_up_ne _ _ hne).trans (va_up_self _ _ _)) hl.1 rfl (Nat.le_of_ble_eq_true rfl) dJ5_append_66267_20 (by dsimp only [rm]; omega)) (by dsimp only [rm]; omega) (by dsimp only [rm]; omega) (fun r ad' f' H locs hw B => ?_)
  obtain ⟨rfl, rfl, rfl⟩ := hw
  refine lv_if_eq (tgt := 40) hx hb dJ5_append_66267_23 (by decide) (fun z => absurd z (by decide)) (fun _ => ?_)
  refine lv_lload_n hx hb dJ5_append_66267_26 rfl (lv_at hl 3 rfl) ?_
  refine lv_iload hx hb dJ5_append_66267_27 (lv_at hl 0 rfl) ?_
  refine lv_aload_n hx hb dJ5_append_66267_29 rfl (lv_at hl 2 rfl) ?_
  refine b_get (q := qs) (k := 0) ((va_up_ne _ _ hne).trans hbs) X hK B rfl in_J4 hqs ((va_up_ne _ _ hne).trans (va_up_self _ _ _)) (by decide) lk_J5_15 rfl rfl dJ5_append_66267_30 ?_
  refine k_i (k := (0 + gC m (sb_cap (n + ssl i) m))) (n := (0 + gS m (sb_cap (n + ssl i) m))) hA B (u_S (rest := []) X (c_J13_getChars_11360 l g N (va_up ad qv v1) (va_up (va_up f qs (c_sb v1 ml n)) qv (c_ba g (sb_cap (n + ssl i) m) h1)) i (nI (n + ssl i)) qv (sb_cap (n + ssl i) m) v1 h1 hqv (va_up_self _ _ _) (va_up_self _ _ _) (gcsl_in hcap (by omega)) H.size) mw_J13_getChars_11360 md_J13_getChars_11360 rfl lk_J5_259 ⟨Nat.le_of_ble_eq_true rfl, Nat.le_of_ble_eq_true rfl⟩ hA hK hT B hl.1 rfl (Nat.le_of_ble_eq_true rfl) dJ5_append_66267_33 (by dsimp only [rm]; omega)) (by dsimp only [rm]; omega) (by dsimp only [rm]; omega) (fun r ad' f' H locs hw B => ?_)
  obtain ⟨rfl, rfl, rfl⟩ := hw
  rw [bx_uu] at B
  have B : WB g (aw N ad sz) s.heap N (va_up ad qv v1) (va_up (va_up f qs (c_sb v1 ml n)) qv (c_ba g (sb_cap (n + ssl i) m) ((v_J13_getChars_11360 h1 i (nI (n + ssl i))).2))) H locs := B
  refine lv_pop hx hb dJ5_append_66267_36 rfl ?_
  refine lv_goto (tgt := 52) hx hb dJ5_append_66267_37 (by decide) ?_
  refine lv_aload_n hx hb dJ5_append_66267_52 rfl (lv_at hl 2 rfl) ?_
  refine lv_iload hx hb dJ5_append_66267_53 (lv_at hl 0 rfl) ?_
  refine b_put (q := qs) (k := 3) ((va_up_ne _ _ hne).trans hbs) X hK B rfl in_J4 tyJ4_ok nmJ4 hqs ((va_up_ne _ _ hne).trans (va_up_self _ _ _)) (by decide) lk_J5_79 rfl rfl rfl rfl rfl (Nat.le_of_ble_eq_true rfl) dJ5_append_66267_55 (fun H locs B => ?_)
  rw [sw_s hne] at B
  have B : WB g (aw N ad sz) s.heap N (va_up ad qv v1) (va_up (va_up f qs (c_sb v1 ml (n + ssl i))) qv (c_ba g (sb_cap (n + ssl i) m) ((v_J13_getChars_11360 h1 i (nI (n + ssl i))).2))) H locs := B
  refine lv_aload_n hx hb dJ5_append_66267_58 rfl (lv_at hl 2 rfl) ?_
  exact rt_r (r := some bs) rfl X hr (Or.inl ⟨_, rfl⟩) ((va_up ad qv v1), va_up (va_up f qs (c_sb v1 ml (n + ssl i))) qv (c_ba g (sb_cap (n + ssl i) m) ((v_J13_getChars_11360 h1 i (nI (n + ssl i))).2))) B (PO_of B) ⟨v1, ((v_J13_getChars_11360 h1 i (nI (n + ssl i))).2), (fitL _ _ hF1), rfl, rfl, rfl⟩ (by dsimp only [rm]; omega) (by dsimp only [rm]; omega) dJ5_append_66267_59
set_option maxHeartbeats 4000000 in
theorem c_S_appJ (l : Launch) (g : GG) (N : Nat) (ad : Nat → Nat) (f : Nat → va_E) (qs qv bs v n m : Nat) (ml : Int32) (h : Nat → Int32) (hqs : qs < N) (hqv : qv < N) (hne : qs ≠ qv) (hbs : ad qs = bs) (hbv : ad qv = v) (hfs : f qs = c_sb v ml n) (hfv : f qv = c_ba g m h) (hF : sb_Fit h) (hnm : n ≤ m) (hm : m ≤ 70) (i : Int64) (hi2 : n + ssl i ≤ 2 * m + 2) : KR l yJ4_append_f7089 cJ4_append_f7089 3 (.object "java/lang/StringBuilder") (rm 5 (gC m (sb_cap (n + ssl i) m)) (gS m (sb_cap (n + ssl i) m))) g [.ref bs, .long i] N ad f N (fun r ad' f' => ∃ (v' : Nat) (h' : Nat → Int32), sb_Fit h' ∧ some bs = r ∧ va_up ad qv v' = ad' ∧ va_up (va_up f qs (c_sb v' ml (n + ssl i))) qv (c_ba g (sb_cap (n + ssl i) m) h') = f') := by
  intro sz
  refine mt_start (by decide) (Nat.le_of_ble_eq_true rfl) ?_
  intro p e0 s m9 args below meth c hsz X hr hnam hA hK hT H locs B ls hl
  obtain ⟨hx, hb, hml, hown, hts, hlocks⟩ := id X
  have hl : lv_has ls 3 [(0, .ref bs), (1, .long i)] := hl
  refine lv_aload_n hx hb dJ4_append_f7089_0 rfl (lv_at hl 0 rfl) ?_
  refine lv_lload_n hx hb dJ4_append_f7089_1 rfl (lv_at hl 1 rfl) ?_
  refine k_r (k := (0 + gC m (sb_cap (n + ssl i) m))) (n := (0 + gS m (sb_cap (n + ssl i) m))) hA B (u_U (q := qs) (rest := []) hbs rfl X (c_S_appJ5 l g N ad f qs qv bs v n m ml h hqs hqv hne hbs hbv hfs hfv hF hnm hm i hi2 H.size) mc_J5_append_66267 (by decide) rfl md_J5_append_66267 rfl lk_J4_56 ⟨Nat.le_of_ble_eq_true rfl, Nat.le_of_ble_eq_true rfl⟩ hA hK hT B hqs hfs hl.1 rfl (Nat.le_of_ble_eq_true rfl) dJ4_append_f7089_2 (by dsimp only [rm]; omega)) (by dsimp only [rm]; omega) (by dsimp only [rm]; omega) (fun r ad' f' H locs hw B => ?_)
  obtain ⟨v1, h1, hF1, rfl, rfl, rfl⟩ := hw
  refine lv_pop hx hb dJ4_append_f7089_5 rfl ?_
  refine lv_aload_n hx hb dJ4_append_f7089_6 rfl (lv_at hl 0 rfl) ?_
  exact rt_r (r := some bs) rfl X hr (Or.inl ⟨_, rfl⟩) ((va_up ad qv v1), va_up (va_up f qs (c_sb v1 ml (n + ssl i))) qv (c_ba g (sb_cap (n + ssl i) m) h1)) B (PO_of B) ⟨v1, h1, hF1, rfl, rfl, rfl⟩ (by dsimp only [rm]; omega) (by dsimp only [rm]; omega) dJ4_append_f7089_7
set_option maxHeartbeats 4000000 in
theorem c_W_inS (l : Launch) (g : GG) (N : Nat) (ad : Nat → Nat) (f : Nat → va_E) (j bj : Nat) (t : TR) (hj : j < N) (hbj : ad j = bj) (hfj : f j = c_sp t) : KR l yX1_inSigns cX1_inSigns 2 (.object "java/lang/String") (rm 6 6 166) g [.ref bj] N ad f N (fun r ad' f' => ad = ad' ∧ (∃ a : Nat, some a = r) ∧ f = f') := by
  intro sz
  refine mt_start (by decide) (Nat.le_of_ble_eq_true rfl) ?_
  intro p e0 s m9 args below meth c hsz X hr hnam hA hK hT H locs B ls hl
  obtain ⟨hx, hb, hml, hown, hts, hlocks⟩ := id X
  have hl : lv_has ls 2 [(0, .ref bj)] := hl
  have hk1 : st_len.getD 1 0 = 2 := rfl
  have hk2 : st_len.getD 2 0 = 2 := rfl
  have hz1 := ssz_b t.1
  have hz2 := ssz_b t.2.1
  have hz3 := ssz_b t.2.2
  refine g_new (ci := 1) (fs := [.null, .int 0, .int 0, .int 0]) (k1 := ((0) + 1)) (k2 := ((0) + 4)) X hA hK B rfl in_J4 tyJ4_ok lk_X1_61 (tb_in (lw_at 113 (by decide +kernel)) rfl) ii_J4 (by decide +kernel) (by dsimp only [rm]; omega) (by dsimp only [rm]; omega) (Nat.le_refl _) (Nat.le_refl _) dX1_inSigns_0 (fun z1 H B => ?_)
  refine W.widen (show ((0) + 1) ≤ (1) by omega) (show ((0) + 4) ≤ (4) by omega) ?_
  refine lv_dup hx hb dX1_inSigns_3 rfl ?_
  refine k_v (k := (2)) (n := (20)) hA B (b_I (rest := [.ref z1]) X (c_S_new l g (N + 1) (va_up ad N z1) (va_up f N (.inr (1, [.null, .int 0, .int 0, .int 0]))) N z1 (Nat.lt_succ_self _) up_eq up_eq H.size) mw_J4_init_da8c8 rfl md_J4_init_da8c8 rfl lk_X1_63 ⟨Nat.le_of_ble_eq_true rfl, Nat.le_of_ble_eq_true rfl⟩ hA hK hT B hl.1 rfl (Nat.le_of_ble_eq_true rfl) dX1_inSigns_4 (by dsimp only [rm]; omega)) (by dsimp only [rm]; omega) (by dsimp only [rm]; omega) (fun ad' f' H locs hw B => ?_)
  obtain ⟨v2, rfl, rfl⟩ := hw
  rw [bx_uu] at B
  have B : WB g (aw N ad sz) s.heap (N + 1 + 1) (va_up (va_up ad N z1) (N + 1) v2) (va_up (va_up f N (c_sb v2 0 0)) (N + 1) (c_ba g 16 (fun _ => 0))) H locs := B
  have hd0 : (16 = 16 ∧ 2 = 2 ∧ 20 = 20) ∨ (16 = 34 ∧ 2 = 2 + 1 ∧ 20 = 20 + 34) ∨ (16 = 70 ∧ 2 ≤ 2 + 2 ∧ 20 ≤ 20 + 104) := Or.inl ⟨rfl, rfl, rfl⟩
  refine lv_astore_n (lv' := [(1, .ref z1), (0, .ref bj)]) hx hb dX1_inSigns_7 rfl hl (by decide) rfl (fun ls hl => ?_)
  refine lv_aload_n hx hb dX1_inSigns_8 rfl (lv_at hl 0 rfl) ?_
  refine lv_aload_n hx hb dX1_inSigns_9 rfl (lv_at hl 1 rfl) ?_
  refine b_get (q := j) (k := 0) ((up_lt (Nat.lt_succ_of_lt hj)).trans ((up_lt hj).trans hbj)) X hK B rfl in_X1 (Nat.lt_succ_of_lt (Nat.lt_succ_of_lt hj)) ((up_lt (Nat.lt_succ_of_lt hj)).trans ((up_lt hj).trans hfj)) (by decide) lk_X1_13 rfl rfl dX1_inSigns_10 ?_
  obtain ⟨m3, C3, S3, e3a, e3b, e3c, hd3, hq3⟩ := cap_step (q := (0 + ssz t.1)) hd0 (by omega) (by omega)
  refine k_r (k := (0 + C3)) (n := (0 + S3)) hA B (b_V (q := N) (rest := []) ((up_lt (by omega)).trans up_eq) X (c_S_appI l g (N + 1 + 1) (va_up (va_up ad N z1) (N + 1) v2) (va_up (va_up f N (c_sb v2 0 0)) (N + 1) (c_ba g 16 (fun _ => 0))) N (N + 1) z1 v2 0 16 0 (fun _ => 0) (by omega) (by omega) (by omega) ((up_lt (by omega)).trans up_eq) up_eq ((up_lt (by omega)).trans up_eq) up_eq sb_fit0 (by omega) (by omega) t.1 (by omega) H.size) mw_J4_append_bf812 md_J4_append_bf812 rfl lk_X1_64 ⟨Nat.le_of_ble_eq_true rfl, Nat.le_of_ble_eq_true rfl⟩ hA hK hT B (by omega) ((up_lt (by omega)).trans up_eq) rfl rfl hl.1 rfl (Nat.le_of_ble_eq_true rfl) dX1_inSigns_13 (by dsimp only [rm]; omega)) (by dsimp only [rm]; omega) (by dsimp only [rm]; omega) (fun r ad' f' H locs hw B => ?_)
  obtain ⟨v3, h3, hF3, rfl, rfl, rfl⟩ := hw
  rw [bx_uu, sw_4 (by omega), e3a] at B
  have B : WB g (aw N ad sz) s.heap (N + 1 + 1) (va_up (va_up ad N z1) (N + 1) v3) (va_up (va_up f N (c_sb v3 0 (0 + ssz t.1))) (N + 1) (c_ba g m3 h3)) H locs := B
  refine lv_pop hx hb dX1_inSigns_16 rfl ?_
  refine lv_aload_n hx hb dX1_inSigns_17 rfl (lv_at hl 0 rfl) ?_
  refine b_ldc (i := 1) (by decide) rfl rfl X hT dX1_inSigns_18 ?_
  obtain ⟨m4, C4, S4, e4a, e4b, e4c, hd4, hq4⟩ := cap_step (q := ((0 + ssz t.1) + st_len.getD 1 0)) hd3 (by omega) (by omega)
  refine k_r (k := (0 + C4)) (n := (0 + S4)) hA B (b_V (q := N) (rest := []) ((up_lt (by omega)).trans up_eq) X (c_S_appK l g (N + 1 + 1) (va_up (va_up ad N z1) (N + 1) v3) (va_up (va_up f N (c_sb v3 0 (0 + ssz t.1))) (N + 1) (c_ba g m3 h3)) N (N + 1) z1 v3 (0 + ssz t.1) m3 0 h3 (by omega) (by omega) (by omega) ((up_lt (by omega)).trans up_eq) up_eq ((up_lt (by omega)).trans up_eq) up_eq hF3 (by omega) (by omega) 1 (by decide) (by omega) H.size) mw_J4_append_15ec4 md_J4_append_15ec4 rfl lk_X1_70 ⟨Nat.le_of_ble_eq_true rfl, Nat.le_of_ble_eq_true rfl⟩ hA hK hT B (by omega) ((up_lt (by omega)).trans up_eq) rfl rfl hl.1 rfl (Nat.le_of_ble_eq_true rfl) dX1_inSigns_20 (by dsimp only [rm]; omega)) (by dsimp only [rm]; omega) (by dsimp only [rm]; omega) (fun r ad' f' H locs hw B => ?_)
  obtain ⟨v4, h4, hF4, rfl, rfl, rfl⟩ := hw
  rw [bx_uu, sw_4 (by omega), e4a] at B
  have B : WB g (aw N ad sz) s.heap (N + 1 + 1) (va_up (va_up ad N z1) (N + 1) v4) (va_up (va_up f N (c_sb v4 0 ((0 + ssz t.1) + st_len.getD 1 0))) (N + 1) (c_ba g m4 h4)) H locs := B
  refine lv_pop hx hb dX1_inSigns_23 rfl ?_
  refine lv_aload_n hx hb dX1_inSigns_24 rfl (lv_at hl 0 rfl) ?_
  refine lv_aload_n hx hb dX1_inSigns_25 rfl (lv_at hl 1 rfl) ?_
  refine b_get (q := j) (k := 1) ((up_lt (Nat.lt_succ_of_lt hj)).trans ((up_lt hj).trans hbj)) X hK B rfl in_X1 (Nat.lt_succ_of_lt (Nat.lt_succ_of_lt hj)) ((up_lt (Nat.lt_succ_of_lt hj)).trans ((up_lt hj).trans hfj)) (by decide) lk_X1_19 rfl rfl dX1_inSigns_26 ?_
  obtain ⟨m5, C5, S5, e5a, e5b, e5c, hd5, hq5⟩ := cap_step (q := (((0 + ssz t.1) + st_len.getD 1 0) + ssz t.2.1)) hd4 (by omega) (by omega)
  refine k_r (k := (0 + C5)) (n := (0 + S5)) hA B (b_V (q := N) (rest := []) ((up_lt (by omega)).trans up_eq) X (c_S_appI l g (N + 1 + 1) (va_up (va_up ad N z1) (N + 1) v4) (va_up (va_up f N (c_sb v4 0 ((0 + ssz t.1) + st_len.getD 1 0))) (N + 1) (c_ba g m4 h4)) N (N + 1) z1 v4 ((0 + ssz t.1) + st_len.getD 1 0) m4 0 h4 (by omega) (by omega) (by omega) ((up_lt (by omega)).trans up_eq) up_eq ((up_lt (by omega)).trans up_eq) up_eq hF4 (by omega) (by omega) t.2.1 (by omega) H.size) mw_J4_append_bf812 md_J4_append_bf812 rfl lk_X1_64 ⟨Nat.le_of_ble_eq_true rfl, Nat.le_of_ble_eq_true rfl⟩ hA hK hT B (by omega) ((up_lt (by omega)).trans up_eq) rfl rfl hl.1 rfl (Nat.le_of_ble_eq_true rfl) dX1_inSigns_29 (by dsimp only [rm]; omega)) (by dsimp only [rm]; omega) (by dsimp only [rm]; omega) (fun r ad' f' H locs hw B => ?_)
  obtain ⟨v5, h5, hF5, rfl, rfl, rfl⟩ := hw
  rw [bx_uu, sw_4 (by omega), e5a] at B
  have B : WB g (aw N ad sz) s.heap (N + 1 + 1) (va_up (va_up ad N z1) (N + 1) v5) (va_up (va_up f N (c_sb v5 0 (((0 + ssz t.1) + st_len.getD 1 0) + ssz t.2.1))) (N + 1) (c_ba g m5 h5)) H locs := B
  refine lv_pop hx hb dX1_inSigns_32 rfl ?_
  refine lv_aload_n hx hb dX1_inSigns_33 rfl (lv_at hl 0 rfl) ?_
  refine b_ldc (i := 2) (by decide) rfl rfl X hT dX1_inSigns_34 ?_
  obtain ⟨m6, C6, S6, e6a, e6b, e6c, hd6, hq6⟩ := cap_step (q := ((((0 + ssz t.1) + st_len.getD 1 0) + ssz t.2.1) + st_len.getD 2 0)) hd5 (by omega) (by omega)
  refine k_r (k := (0 + C6)) (n := (0 + S6)) hA B (b_V (q := N) (rest := []) ((up_lt (by omega)).trans up_eq) X (c_S_appK l g (N + 1 + 1) (va_up (va_up ad N z1) (N + 1) v5) (va_up (va_up f N (c_sb v5 0 (((0 + ssz t.1) + st_len.getD 1 0) + ssz t.2.1))) (N + 1) (c_ba g m5 h5)) N (N + 1) z1 v5 (((0 + ssz t.1) + st_len.getD 1 0) + ssz t.2.1) m5 0 h5 (by omega) (by omega) (by omega) ((up_lt (by omega)).trans up_eq) up_eq ((up_lt (by omega)).trans up_eq) up_eq hF5 (by omega) (by omega) 2 (by decide) (by omega) H.size) mw_J4_append_15ec4 md_J4_append_15ec4 rfl lk_X1_70 ⟨Nat.le_of_ble_eq_true rfl, Nat.le_of_ble_eq_true rfl⟩ hA hK hT B (by omega) ((up_lt (by omega)).trans up_eq) rfl rfl hl.1 rfl (Nat.le_of_ble_eq_true rfl) dX1_inSigns_36 (by dsimp only [rm]; omega)) (by dsimp only [rm]; omega) (by dsimp only [rm]; omega) (fun r ad' f' H locs hw B => ?_)
  obtain ⟨v6, h6, hF6, rfl, rfl, rfl⟩ := hw
  rw [bx_uu, sw_4 (by omega), e6a] at B
  have B : WB g (aw N ad sz) s.heap (N + 1 + 1) (va_up (va_up ad N z1) (N + 1) v6) (va_up (va_up f N (c_sb v6 0 ((((0 + ssz t.1) + st_len.getD 1 0) + ssz t.2.1) + st_len.getD 2 0))) (N + 1) (c_ba g m6 h6)) H locs := B
  refine lv_pop hx hb dX1_inSigns_39 rfl ?_
  refine lv_aload_n hx hb dX1_inSigns_40 rfl (lv_at hl 0 rfl) ?_
  refine lv_aload_n hx hb dX1_inSigns_41 rfl (lv_at hl 1 rfl) ?_
  refine b_get (q := j) (k := 2) ((up_lt (Nat.lt_succ_of_lt hj)).trans ((up_lt hj).trans hbj)) X hK B rfl in_X1 (Nat.lt_succ_of_lt (Nat.lt_succ_of_lt hj)) ((up_lt (Nat.lt_succ_of_lt hj)).trans ((up_lt hj).trans hfj)) (by decide) lk_X1_22 rfl rfl dX1_inSigns_42 ?_
  obtain ⟨m7, C7, S7, e7a, e7b, e7c, hd7, hq7⟩ := cap_step (q := (((((0 + ssz t.1) + st_len.getD 1 0) + ssz t.2.1) + st_len.getD 2 0) + ssz t.2.2)) hd6 (by omega) (by omega)
  refine k_r (k := (0 + C7)) (n := (0 + S7)) hA B (b_V (q := N) (rest := []) ((up_lt (by omega)).trans up_eq) X (c_S_appI l g (N + 1 + 1) (va_up (va_up ad N z1) (N + 1) v6) (va_up (va_up f N (c_sb v6 0 ((((0 + ssz t.1) + st_len.getD 1 0) + ssz t.2.1) + st_len.getD 2 0))) (N + 1) (c_ba g m6 h6)) N (N + 1) z1 v6 ((((0 + ssz t.1) + st_len.getD 1 0) + ssz t.2.1) + st_len.getD 2 0) m6 0 h6 (by omega) (by omega) (by omega) ((up_lt (by omega)).trans up_eq) up_eq ((up_lt (by omega)).trans up_eq) up_eq hF6 (by omega) (by omega) t.2.2 (by omega) H.size) mw_J4_append_bf812 md_J4_append_bf812 rfl lk_X1_64 ⟨Nat.le_of_ble_eq_true rfl, Nat.le_of_ble_eq_true rfl⟩ hA hK hT B (by omega) ((up_lt (by omega)).trans up_eq) rfl rfl hl.1 rfl (Nat.le_of_ble_eq_true rfl) dX1_inSigns_45 (by dsimp only [rm]; omega)) (by dsimp only [rm]; omega) (by dsimp only [rm]; omega) (fun r ad' f' H locs hw B => ?_)
  obtain ⟨v7, h7, hF7, rfl, rfl, rfl⟩ := hw
  rw [bx_uu, sw_4 (by omega), e7a] at B
  have B : WB g (aw N ad sz) s.heap (N + 1 + 1) (va_up (va_up ad N z1) (N + 1) v7) (va_up (va_up f N (c_sb v7 0 (((((0 + ssz t.1) + st_len.getD 1 0) + ssz t.2.1) + st_len.getD 2 0) + ssz t.2.2))) (N + 1) (c_ba g m7 h7)) H locs := B
  refine lv_pop hx hb dX1_inSigns_48 rfl ?_
  refine lv_aload_n hx hb dX1_inSigns_49 rfl (lv_at hl 0 rfl) ?_
  refine lv_bipush (v := 100) hx hb dX1_inSigns_50 (by decide) ?_
  obtain ⟨m8, C8, S8, e8a, e8b, e8c, hd8, hq8⟩ := cap_step (q := ((((((0 + ssz t.1) + st_len.getD 1 0) + ssz t.2.1) + st_len.getD 2 0) + ssz t.2.2) + 1)) hd7 (by omega) (by omega)
  refine k_r (k := (0 + C8)) (n := (0 + S8)) hA B (b_V (q := N) (rest := []) ((up_lt (by omega)).trans up_eq) X (c_S_appC l g (N + 1 + 1) (va_up (va_up ad N z1) (N + 1) v7) (va_up (va_up f N (c_sb v7 0 (((((0 + ssz t.1) + st_len.getD 1 0) + ssz t.2.1) + st_len.getD 2 0) + ssz t.2.2))) (N + 1) (c_ba g m7 h7)) N (N + 1) z1 v7 (((((0 + ssz t.1) + st_len.getD 1 0) + ssz t.2.1) + st_len.getD 2 0) + ssz t.2.2) m7 0 h7 (by omega) (by omega) (by omega) ((up_lt (by omega)).trans up_eq) up_eq ((up_lt (by omega)).trans up_eq) up_eq hF7 (by omega) (by omega) 100 (by decide) H.size) mw_J4_append_cf468 md_J4_append_cf468 rfl lk_X1_75 ⟨Nat.le_of_ble_eq_true rfl, Nat.le_of_ble_eq_true rfl⟩ hA hK hT B (by omega) ((up_lt (by omega)).trans up_eq) rfl rfl hl.1 rfl (Nat.le_of_ble_eq_true rfl) dX1_inSigns_52 (by dsimp only [rm]; omega)) (by dsimp only [rm]; omega) (by dsimp only [rm]; omega) (fun r ad' f' H locs hw B => ?_)
  obtain ⟨v8, h8, hF8, rfl, rfl, rfl⟩ := hw
  rw [bx_uu, sw_4 (by omega), e8a] at B
  have B : WB g (aw N ad sz) s.heap (N + 1 + 1) (va_up (va_up ad N z1) (N + 1) v8) (va_up (va_up f N (c_sb v8 0 ((((((0 + ssz t.1) + st_len.getD 1 0) + ssz t.2.1) + st_len.getD 2 0) + ssz t.2.2) + 1))) (N + 1) (c_ba g m8 h8)) H locs := B
  refine lv_pop hx hb dX1_inSigns_55 rfl ?_
  refine lv_aload_n hx hb dX1_inSigns_56 rfl (lv_at hl 0 rfl) ?_
  refine k_r (k := (2 + C8)) (n := (0 + S8 + (4 + ((((((0 + ssz t.1) + st_len.getD 1 0) + ssz t.2.1) + st_len.getD 2 0) + ssz t.2.2) + 1)))) hA B (b_V (q := N) (rest := []) ((up_lt (by omega)).trans up_eq) X (c_S_toS l g (N + 1 + 1) (va_up (va_up ad N z1) (N + 1) v8) (va_up (va_up f N (c_sb v8 0 ((((((0 + ssz t.1) + st_len.getD 1 0) + ssz t.2.1) + st_len.getD 2 0) + ssz t.2.2) + 1))) (N + 1) (c_ba g m8 h8)) N (N + 1) z1 v8 ((((((0 + ssz t.1) + st_len.getD 1 0) + ssz t.2.1) + st_len.getD 2 0) + ssz t.2.2) + 1) m8 0 h8 (by omega) (by omega) (by omega) ((up_lt (by omega)).trans up_eq) up_eq ((up_lt (by omega)).trans up_eq) up_eq hF8 (by omega) (by omega) H.size) mw_J4_toString_0e30d md_J4_toString_0e30d rfl lk_X1_78 ⟨Nat.le_of_ble_eq_true rfl, Nat.le_of_ble_eq_true rfl⟩ hA hK hT B (by omega) ((up_lt (by omega)).trans up_eq) rfl rfl hl.1 rfl (Nat.le_of_ble_eq_true rfl) dX1_inSigns_57 (by dsimp only [rm]; omega)) (by dsimp only [rm]; omega) (by dsimp only [rm]; omega) (fun r ad' f' H locs hw B => ?_)
  obtain ⟨a9, a9x, h9, hF9, rfl, rfl, rfl⟩ := hw
  have B : WB g (aw N ad sz) s.heap N ad f H locs := B.drop (by omega) (fun _ hk => ((up_lt (Nat.lt_succ_of_lt (Nat.lt_succ_of_lt (Nat.lt_succ_of_lt hk)))).trans ((up_lt (Nat.lt_succ_of_lt (Nat.lt_succ_of_lt hk))).trans ((up_lt (Nat.lt_succ_of_lt hk)).trans (up_lt hk))))) (fun _ hk => ((up_lt (Nat.lt_succ_of_lt (Nat.lt_succ_of_lt (Nat.lt_succ_of_lt hk)))).trans ((up_lt (Nat.lt_succ_of_lt (Nat.lt_succ_of_lt hk))).trans ((up_lt (Nat.lt_succ_of_lt hk)).trans (up_lt hk)))))
  exact rt_r (r := some a9) rfl X hr (Or.inl ⟨_, rfl⟩) (ad, f) B (PO_of B) ⟨rfl, ⟨_, rfl⟩, rfl⟩ (by dsimp only [rm]; omega) (by dsimp only [rm]; omega) dX1_inSigns_60
set_option maxHeartbeats 4000000 in
theorem c_W_inD (l : Launch) (g : GG) (N : Nat) (ad : Nat → Nat) (f : Nat → va_E) (j bj : Nat) (t : TR) (hj : j < N) (hbj : ad j = bj) (hfj : f j = c_dy t) : KR l yX0_inSigns cX0_inSigns 2 (.object "java/lang/String") (rm 6 6 166) g [.ref bj] N ad f N (fun r ad' f' => ad = ad' ∧ (∃ a : Nat, some a = r) ∧ f = f') := by
  intro sz
  refine mt_start (by decide) (Nat.le_of_ble_eq_true rfl) ?_
  intro p e0 s m9 args below meth c hsz X hr hnam hA hK hT H locs B ls hl
  obtain ⟨hx, hb, hml, hown, hts, hlocks⟩ := id X
  have hl : lv_has ls 2 [(0, .ref bj)] := hl
  have hk1 : st_len.getD 1 0 = 2 := rfl
  have hk2 : st_len.getD 2 0 = 2 := rfl
  have hz1 := ssz_b t.1
  have hz2 := ssz_b t.2.1
  have hz3 := ssz_b t.2.2
  refine g_new (ci := 1) (fs := [.null, .int 0, .int 0, .int 0]) (k1 := ((0) + 1)) (k2 := ((0) + 4)) X hA hK B rfl in_J4 tyJ4_ok lk_X0_63 (tb_in (lw_at 113 (by decide +kernel)) rfl) ii_J4 (by decide +kernel) (by dsimp only [rm]; omega) (by dsimp only [rm]; omega) (Nat.le_refl _) (Nat.le_refl _) dX0_inSigns_0 (fun z1 H B => ?_)
  refine W.widen (show ((0) + 1) ≤ (1) by omega) (show ((0) + 4) ≤ (4) by omega) ?_
  refine lv_dup hx hb dX0_inSigns_3 rfl ?_
  refine k_v (k := (2)) (n := (20)) hA B (b_I (rest := [.ref z1]) X (c_S_new l g (N + 1) (va_up ad N z1) (va_up f N (.inr (1, [.null, .int 0, .int 0, .int 0]))) N z1 (Nat.lt_succ_self _) up_eq up_eq H.size) mw_J4_init_da8c8 rfl md_J4_init_da8c8 rfl lk_X0_65 ⟨Nat.le_of_ble_eq_true rfl, Nat.le_of_ble_eq_true rfl⟩ hA hK hT B hl.1 rfl (Nat.le_of_ble_eq_true rfl) dX0_inSigns_4 (by dsimp only [rm]; omega)) (by dsimp only [rm]; omega) (by dsimp only [rm]; omega) (fun ad' f' H locs hw B => ?_)
  obtain ⟨v2, rfl, rfl⟩ := hw
  rw [bx_uu] at B
  have B : WB g (aw N ad sz) s.heap (N + 1 + 1) (va_up (va_up ad N z1) (N + 1) v2) (va_up (va_up f N (c_sb v2 0 0)) (N + 1) (c_ba g 16 (fun _ => 0))) H locs := B
  have hd0 : (16 = 16 ∧ 2 = 2 ∧ 20 = 20) ∨ (16 = 34 ∧ 2 = 2 + 1 ∧ 20 = 20 + 34) ∨ (16 = 70 ∧ 2 ≤ 2 + 2 ∧ 20 ≤ 20 + 104) := Or.inl ⟨rfl, rfl, rfl⟩
  refine lv_astore_n (lv' := [(1, .ref z1), (0, .ref bj)]) hx hb dX0_inSigns_7 rfl hl (by decide) rfl (fun ls hl => ?_)
  refine lv_aload_n hx hb dX0_inSigns_8 rfl (lv_at hl 0 rfl) ?_
  refine lv_aload_n hx hb dX0_inSigns_9 rfl (lv_at hl 1 rfl) ?_
  refine b_get (q := j) (k := 0) ((up_lt (Nat.lt_succ_of_lt hj)).trans ((up_lt hj).trans hbj)) X hK B rfl in_X0 (Nat.lt_succ_of_lt (Nat.lt_succ_of_lt hj)) ((up_lt (Nat.lt_succ_of_lt hj)).trans ((up_lt hj).trans hfj)) (by decide) lk_X0_9 rfl rfl dX0_inSigns_10 ?_
  obtain ⟨m3, C3, S3, e3a, e3b, e3c, hd3, hq3⟩ := cap_step (q := (0 + ssz t.1)) hd0 (by omega) (by omega)
  refine k_r (k := (0 + C3)) (n := (0 + S3)) hA B (b_V (q := N) (rest := []) ((up_lt (by omega)).trans up_eq) X (c_S_appI l g (N + 1 + 1) (va_up (va_up ad N z1) (N + 1) v2) (va_up (va_up f N (c_sb v2 0 0)) (N + 1) (c_ba g 16 (fun _ => 0))) N (N + 1) z1 v2 0 16 0 (fun _ => 0) (by omega) (by omega) (by omega) ((up_lt (by omega)).trans up_eq) up_eq ((up_lt (by omega)).trans up_eq) up_eq sb_fit0 (by omega) (by omega) t.1 (by omega) H.size) mw_J4_append_bf812 md_J4_append_bf812 rfl lk_X0_66 ⟨Nat.le_of_ble_eq_true rfl, Nat.le_of_ble_eq_true rfl⟩ hA hK hT B (by omega) ((up_lt (by omega)).trans up_eq) rfl rfl hl.1 rfl (Nat.le_of_ble_eq_true rfl) dX0_inSigns_13 (by dsimp only [rm]; omega)) (by dsimp only [rm]; omega) (by dsimp only [rm]; omega) (fun r ad' f' H locs hw B => ?_)
  obtain ⟨v3, h3, hF3, rfl, rfl, rfl⟩ := hw
  rw [bx_uu, sw_4 (by omega), e3a] at B
  have B : WB g (aw N ad sz) s.heap (N + 1 + 1) (va_up (va_up ad N z1) (N + 1) v3) (va_up (va_up f N (c_sb v3 0 (0 + ssz t.1))) (N + 1) (c_ba g m3 h3)) H locs := B
  refine lv_pop hx hb dX0_inSigns_16 rfl ?_
  refine lv_aload_n hx hb dX0_inSigns_17 rfl (lv_at hl 0 rfl) ?_
  refine lv_bipush (v := 45) hx hb dX0_inSigns_18 (by decide) ?_
  obtain ⟨m4, C4, S4, e4a, e4b, e4c, hd4, hq4⟩ := cap_step (q := ((0 + ssz t.1) + 1)) hd3 (by omega) (by omega)
  refine k_r (k := (0 + C4)) (n := (0 + S4)) hA B (b_V (q := N) (rest := []) ((up_lt (by omega)).trans up_eq) X (c_S_appC l g (N + 1 + 1) (va_up (va_up ad N z1) (N + 1) v3) (va_up (va_up f N (c_sb v3 0 (0 + ssz t.1))) (N + 1) (c_ba g m3 h3)) N (N + 1) z1 v3 (0 + ssz t.1) m3 0 h3 (by omega) (by omega) (by omega) ((up_lt (by omega)).trans up_eq) up_eq ((up_lt (by omega)).trans up_eq) up_eq hF3 (by omega) (by omega) 45 (by decide) H.size) mw_J4_append_cf468 md_J4_append_cf468 rfl lk_X0_70 ⟨Nat.le_of_ble_eq_true rfl, Nat.le_of_ble_eq_true rfl⟩ hA hK hT B (by omega) ((up_lt (by omega)).trans up_eq) rfl rfl hl.1 rfl (Nat.le_of_ble_eq_true rfl) dX0_inSigns_20 (by dsimp only [rm]; omega)) (by dsimp only [rm]; omega) (by dsimp only [rm]; omega) (fun r ad' f' H locs hw B => ?_)
  obtain ⟨v4, h4, hF4, rfl, rfl, rfl⟩ := hw
  rw [bx_uu, sw_4 (by omega), e4a] at B
  have B : WB g (aw N ad sz) s.heap (N + 1 + 1) (va_up (va_up ad N z1) (N + 1) v4) (va_up (va_up f N (c_sb v4 0 ((0 + ssz t.1) + 1))) (N + 1) (c_ba g m4 h4)) H locs := B
  refine lv_pop hx hb dX0_inSigns_23 rfl ?_
  refine lv_aload_n hx hb dX0_inSigns_24 rfl (lv_at hl 0 rfl) ?_
  refine lv_aload_n hx hb dX0_inSigns_25 rfl (lv_at hl 1 rfl) ?_
  refine b_get (q := j) (k := 1) ((up_lt (Nat.lt_succ_of_lt hj)).trans ((up_lt hj).trans hbj)) X hK B rfl in_X0 (Nat.lt_succ_of_lt (Nat.lt_succ_of_lt hj)) ((up_lt (Nat.lt_succ_of_lt hj)).trans ((up_lt hj).trans hfj)) (by decide) lk_X0_15 rfl rfl dX0_inSigns_26 ?_
  obtain ⟨m5, C5, S5, e5a, e5b, e5c, hd5, hq5⟩ := cap_step (q := (((0 + ssz t.1) + 1) + ssz t.2.1)) hd4 (by omega) (by omega)
  refine k_r (k := (0 + C5)) (n := (0 + S5)) hA B (b_V (q := N) (rest := []) ((up_lt (by omega)).trans up_eq) X (c_S_appI l g (N + 1 + 1) (va_up (va_up ad N z1) (N + 1) v4) (va_up (va_up f N (c_sb v4 0 ((0 + ssz t.1) + 1))) (N + 1) (c_ba g m4 h4)) N (N + 1) z1 v4 ((0 + ssz t.1) + 1) m4 0 h4 (by omega) (by omega) (by omega) ((up_lt (by omega)).trans up_eq) up_eq ((up_lt (by omega)).trans up_eq) up_eq hF4 (by omega) (by omega) t.2.1 (by omega) H.size) mw_J4_append_bf812 md_J4_append_bf812 rfl lk_X0_66 ⟨Nat.le_of_ble_eq_true rfl, Nat.le_of_ble_eq_true rfl⟩ hA hK hT B (by omega) ((up_lt (by omega)).trans up_eq) rfl rfl hl.1 rfl (Nat.le_of_ble_eq_true rfl) dX0_inSigns_29 (by dsimp only [rm]; omega)) (by dsimp only [rm]; omega) (by dsimp only [rm]; omega) (fun r ad' f' H locs hw B => ?_)
  obtain ⟨v5, h5, hF5, rfl, rfl, rfl⟩ := hw
  rw [bx_uu, sw_4 (by omega), e5a] at B
  have B : WB g (aw N ad sz) s.heap (N + 1 + 1) (va_up (va_up ad N z1) (N + 1) v5) (va_up (va_up f N (c_sb v5 0 (((0 + ssz t.1) + 1) + ssz t.2.1))) (N + 1) (c_ba g m5 h5)) H locs := B
  refine lv_pop hx hb dX0_inSigns_32 rfl ?_
  refine lv_aload_n hx hb dX0_inSigns_33 rfl (lv_at hl 0 rfl) ?_
  refine lv_bipush (v := 45) hx hb dX0_inSigns_34 (by decide) ?_
  obtain ⟨m6, C6, S6, e6a, e6b, e6c, hd6, hq6⟩ := cap_step (q := ((((0 + ssz t.1) + 1) + ssz t.2.1) + 1)) hd5 (by omega) (by omega)
  refine k_r (k := (0 + C6)) (n := (0 + S6)) hA B (b_V (q := N) (rest := []) ((up_lt (by omega)).trans up_eq) X (c_S_appC l g (N + 1 + 1) (va_up (va_up ad N z1) (N + 1) v5) (va_up (va_up f N (c_sb v5 0 (((0 + ssz t.1) + 1) + ssz t.2.1))) (N + 1) (c_ba g m5 h5)) N (N + 1) z1 v5 (((0 + ssz t.1) + 1) + ssz t.2.1) m5 0 h5 (by omega) (by omega) (by omega) ((up_lt (by omega)).trans up_eq) up_eq ((up_lt (by omega)).trans up_eq) up_eq hF5 (by omega) (by omega) 45 (by decide) H.size) mw_J4_append_cf468 md_J4_append_cf468 rfl lk_X0_70 ⟨Nat.le_of_ble_eq_true rfl, Nat.le_of_ble_eq_true rfl⟩ hA hK hT B (by omega) ((up_lt (by omega)).trans up_eq) rfl rfl hl.1 rfl (Nat.le_of_ble_eq_true rfl) dX0_inSigns_36 (by dsimp only [rm]; omega)) (by dsimp only [rm]; omega) (by dsimp only [rm]; omega) (fun r ad' f' H locs hw B => ?_)
  obtain ⟨v6, h6, hF6, rfl, rfl, rfl⟩ := hw
  rw [bx_uu, sw_4 (by omega), e6a] at B
  have B : WB g (aw N ad sz) s.heap (N + 1 + 1) (va_up (va_up ad N z1) (N + 1) v6) (va_up (va_up f N (c_sb v6 0 ((((0 + ssz t.1) + 1) + ssz t.2.1) + 1))) (N + 1) (c_ba g m6 h6)) H locs := B
  refine lv_pop hx hb dX0_inSigns_39 rfl ?_
  refine lv_aload_n hx hb dX0_inSigns_40 rfl (lv_at hl 0 rfl) ?_
  refine lv_aload_n hx hb dX0_inSigns_41 rfl (lv_at hl 1 rfl) ?_
  refine b_get (q := j) (k := 2) ((up_lt (Nat.lt_succ_of_lt hj)).trans ((up_lt hj).trans hbj)) X hK B rfl in_X0 (Nat.lt_succ_of_lt (Nat.lt_succ_of_lt hj)) ((up_lt (Nat.lt_succ_of_lt hj)).trans ((up_lt hj).trans hfj)) (by decide) lk_X0_18 rfl rfl dX0_inSigns_42 ?_
  obtain ⟨m7, C7, S7, e7a, e7b, e7c, hd7, hq7⟩ := cap_step (q := (((((0 + ssz t.1) + 1) + ssz t.2.1) + 1) + ssz t.2.2)) hd6 (by omega) (by omega)
  refine k_r (k := (0 + C7)) (n := (0 + S7)) hA B (b_V (q := N) (rest := []) ((up_lt (by omega)).trans up_eq) X (c_S_appI l g (N + 1 + 1) (va_up (va_up ad N z1) (N + 1) v6) (va_up (va_up f N (c_sb v6 0 ((((0 + ssz t.1) + 1) + ssz t.2.1) + 1))) (N + 1) (c_ba g m6 h6)) N (N + 1) z1 v6 ((((0 + ssz t.1) + 1) + ssz t.2.1) + 1) m6 0 h6 (by omega) (by omega) (by omega) ((up_lt (by omega)).trans up_eq) up_eq ((up_lt (by omega)).trans up_eq) up_eq hF6 (by omega) (by omega) t.2.2 (by omega) H.size) mw_J4_append_bf812 md_J4_append_bf812 rfl lk_X0_66 ⟨Nat.le_of_ble_eq_true rfl, Nat.le_of_ble_eq_true rfl⟩ hA hK hT B (by omega) ((up_lt (by omega)).trans up_eq) rfl rfl hl.1 rfl (Nat.le_of_ble_eq_true rfl) dX0_inSigns_45 (by dsimp only [rm]; omega)) (by dsimp only [rm]; omega) (by dsimp only [rm]; omega) (fun r ad' f' H locs hw B => ?_)
  obtain ⟨v7, h7, hF7, rfl, rfl, rfl⟩ := hw
  rw [bx_uu, sw_4 (by omega), e7a] at B
  have B : WB g (aw N ad sz) s.heap (N + 1 + 1) (va_up (va_up ad N z1) (N + 1) v7) (va_up (va_up f N (c_sb v7 0 (((((0 + ssz t.1) + 1) + ssz t.2.1) + 1) + ssz t.2.2))) (N + 1) (c_ba g m7 h7)) H locs := B
  refine lv_pop hx hb dX0_inSigns_48 rfl ?_
  refine lv_aload_n hx hb dX0_inSigns_49 rfl (lv_at hl 0 rfl) ?_
  refine k_r (k := (2 + C7)) (n := (0 + S7 + (4 + (((((0 + ssz t.1) + 1) + ssz t.2.1) + 1) + ssz t.2.2)))) hA B (b_V (q := N) (rest := []) ((up_lt (by omega)).trans up_eq) X (c_S_toS l g (N + 1 + 1) (va_up (va_up ad N z1) (N + 1) v7) (va_up (va_up f N (c_sb v7 0 (((((0 + ssz t.1) + 1) + ssz t.2.1) + 1) + ssz t.2.2))) (N + 1) (c_ba g m7 h7)) N (N + 1) z1 v7 (((((0 + ssz t.1) + 1) + ssz t.2.1) + 1) + ssz t.2.2) m7 0 h7 (by omega) (by omega) (by omega) ((up_lt (by omega)).trans up_eq) up_eq ((up_lt (by omega)).trans up_eq) up_eq hF7 (by omega) (by omega) H.size) mw_J4_toString_0e30d md_J4_toString_0e30d rfl lk_X0_73 ⟨Nat.le_of_ble_eq_true rfl, Nat.le_of_ble_eq_true rfl⟩ hA hK hT B (by omega) ((up_lt (by omega)).trans up_eq) rfl rfl hl.1 rfl (Nat.le_of_ble_eq_true rfl) dX0_inSigns_50 (by dsimp only [rm]; omega)) (by dsimp only [rm]; omega) (by dsimp only [rm]; omega) (fun r ad' f' H locs hw B => ?_)
  obtain ⟨a8, a8x, h8, hF8, rfl, rfl, rfl⟩ := hw
  have B : WB g (aw N ad sz) s.heap N ad f H locs := B.drop (by omega) (fun _ hk => ((up_lt (Nat.lt_succ_of_lt (Nat.lt_succ_of_lt (Nat.lt_succ_of_lt hk)))).trans ((up_lt (Nat.lt_succ_of_lt (Nat.lt_succ_of_lt hk))).trans ((up_lt (Nat.lt_succ_of_lt hk)).trans (up_lt hk))))) (fun _ hk => ((up_lt (Nat.lt_succ_of_lt (Nat.lt_succ_of_lt (Nat.lt_succ_of_lt hk)))).trans ((up_lt (Nat.lt_succ_of_lt (Nat.lt_succ_of_lt hk))).trans ((up_lt (Nat.lt_succ_of_lt hk)).trans (up_lt hk)))))
  exact rt_r (r := some a8) rfl X hr (Or.inl ⟨_, rfl⟩) (ad, f) B (PO_of B) ⟨rfl, ⟨_, rfl⟩, rfl⟩ (by dsimp only [rm]; omega) (by dsimp only [rm]; omega) dX0_inSigns_53
