section
theorem fitL86 {ss : Int32} : ∀ (n : Nat) (pq yy : Int32) (bt : Nat → Int32), sb_Fit bt → sb_Fit (wJ13_getChars_11360_86 ss n pq yy bt).2 := by
  intro n
  induction n with
  | zero => intro pq yy bt h; exact h
  | succ n ih =>
    intro pq yy bt h
    rw [wJ13_getChars_11360_86]
    by_cases c1 : (-100) < yy
    · rw [if_pos c1]
      by_cases c2 : (-9) ≤ yy
      · rw [if_pos c2]
        by_cases c3 : ss = 0
        · rw [if_pos c3]; exact sb_fitU h (fit_nar _)
        · rw [if_neg c3]; exact sb_fitU (sb_fitU h (fit_nar _)) (fit_nar _)
      · rw [if_neg c2]
        by_cases c3 : ss = 0
        · rw [if_pos c3]; exact sb_fitU (sb_fitU h (fit_nar _)) (fit_nar _)
        · rw [if_neg c3]; exact sb_fitU (sb_fitU (sb_fitU h (fit_nar _)) (fit_nar _)) (fit_nar _)
    · rw [if_neg c1]
      exact ih _ _ _ (sb_fitU (sb_fitU h (fit_nar _)) (fit_nar _))
theorem fitL24 : ∀ (n : Nat) (xx : Int64) (pp ss : Int32) (bt : Nat → Int32), sb_Fit bt → sb_Fit (wJ13_getChars_11360_24 n xx pp ss bt).2 := by
  intro n
  induction n with
  | zero => intro xx pp ss bt h; exact h
  | succ n ih =>
    intro xx pp ss bt h
    rw [wJ13_getChars_11360_24]
    by_cases c1 : 0 < lg_cmp xx (-2147483648)
    · rw [if_pos c1]; exact fitL86 _ _ _ _ h
    · rw [if_neg c1]
      exact ih _ _ _ _ (sb_fitU (sb_fitU h (fit_nar _)) (fit_nar _))
theorem fitL {bt : Nat → Int32} (a : Int64) (b : Int32) (h : sb_Fit bt) : sb_Fit (v_J13_getChars_11360 bt a b).2 := by
  unfold v_J13_getChars_11360
  by_cases c : 0 ≤ lg_cmp a 0
  · rw [if_pos c]; exact fitL24 _ _ _ _ _ h
  · rw [if_neg c]; exact fitL24 _ _ _ _ _ h
end
section
set_option maxHeartbeats 4000000 in
theorem c_S_appJ5 (l : Launch) (g : GG) (N : Nat) (ad : Nat → Nat) (f : Nat → va_E) (qs qv bs v n m : Nat) (ml : Int32) (h : Nat → Int32) (hqs : qs < N) (hqv : qv < N) (hne : qs ≠ qv) (hbs : ad qs = bs) (hbv : ad qv = v) (hfs : f qs = c_sb v ml n) (hfv : f qv = c_ba g m h) (hF : sb_Fit h) (hnm : n ≤ m) (hm : m ≤ 70) (i : Int64) (hi2 : n + ssl i ≤ 2 * m + 2) : KR l yJ5_append_66267 cJ5_append_66267 5 (.object "java/lang/AbstractStringBuilder") (rm 4 (gC m (sb_cap (n + ssl i) m)) (gS m (sb_cap (n + ssl i) m))) g [.ref bs, .long i] N ad f N (fun r ad' f' => ∃ (v' : Nat) (h' : Nat → Int32), sb_Fit h' ∧ some bs = r ∧ va_up ad qv v' = ad' ∧ va_up (va_up f qs (c_sb v' ml (n + ssl i))) qv (c_ba g (sb_cap (n + ssl i) m) h') = f') := by
  intro sz
  refine mt_start (by decide) (Nat.le_of_ble_eq_true rfl) ?_
  intro p e0 s m9 args below meth c hsz X hr hnam hA hK hT H locs B ls hl
  obtain ⟨hx, hb, hml, hown, hts, hlocks⟩ := id X
  have hl : lv_has ls 5 [(0, .ref bs), (1, .long i)] := hl
  have hsz := ssl_b i
  have hcap := sb_cap_ge (n + ssl i) m
  have hcl : sb_cap (n + ssl i) m ≤ 142 := by unfold sb_cap; split <;> (try split) <;> omega
  refine lv_aload_n hx hb dJ5_append_66267_0 rfl (lv_at hl 0 rfl) ?_
  refine b_get (q := qs) (k := 3) hbs X hK B rfl in_J4 hqs hfs (by decide) lk_J5_79 rfl rfl dJ5_append_66267_1 ?_
  refine lv_istore_n (lv' := [(3, .int (nI n)), (0, .ref bs), (1, .long i)]) hx hb dJ5_append_66267_4 rfl hl (by decide) rfl (fun ls hl => ?_)
  refine lv_iload_n hx hb dJ5_append_66267_5 rfl (lv_at hl 0 rfl) ?_
  refine lv_lload_n hx hb dJ5_append_66267_6 rfl (lv_at hl 2 rfl) ?_
  refine k_i (k := (0)) (n := (0)) hA B (u_S (rest := [.int (nI n)]) X (c_J13_stringSize_95d88 l g N ad f i H.size) mw_J13_stringSize_95d88 md_J13_stringSize_95d88 rfl lk_J5_254 ⟨Nat.le_of_ble_eq_true rfl, Nat.le_of_ble_eq_true rfl⟩ hA hK hT B hl.1 rfl (Nat.le_of_ble_eq_true rfl) dJ5_append_66267_7 (by dsimp only [rm]; omega)) (by dsimp only [rm]; omega) (by dsimp only [rm]; omega) (fun r ad' f' H locs hw B => ?_)
  obtain ⟨rfl, rfl, rfl⟩ := hw
  rw [ssl_ok]
  refine lv_iadd hx hb dJ5_append_66267_10 ?_
  rw [nI_add]
  refine lv_istore (lv' := [(4, .int (nI (n + ssl i))), (3, .int (nI n)), (0, .ref bs), (1, .long i)]) hx hb dJ5_append_66267_11 hl (by decide) rfl (fun ls hl => ?_)
  refine lv_aload_n hx hb dJ5_append_66267_13 rfl (lv_at hl 2 rfl) ?_
  refine lv_iload hx hb dJ5_append_66267_14 (lv_at hl 0 rfl) ?_
  refine k_v (k := (0 + gC m (sb_cap (n + ssl i) m))) (n := (0 + gS m (sb_cap (n + ssl i) m))) hA B (u_P (q := qs) (rest := []) hbs X (c_S_ensure l g N ad f qs qv bs v n m ml h hqs hqv hne hbs hbv hfs hfv hF hnm hm (n + ssl i) (by omega) H.size) mc_J5_ensureCapacityInternal_d00df (lw_at 155 (by decide +kernel)) rfl md_J5_ensureCapacityInternal_d00df rfl lk_J5_100 ⟨Nat.le_of_ble_eq_true rfl, Nat.le_of_ble_eq_true rfl⟩ hA hK hT B hqs hfs hl.1 rfl (Nat.le_of_ble_eq_true rfl) dJ5_append_66267_16 (by dsimp only [rm]; omega)) (by dsimp only [rm]; omega) (by dsimp only [rm]; omega) (fun ad' f' H locs hw B => ?_)
  obtain ⟨v1, h1, hF1, rfl, rfl⟩ := hw
  refine lv_aload_n hx hb dJ5_append_66267_19 rfl (lv_at hl 2 rfl) ?_
  refine k_i (k := (0 + gC m (sb_cap (n + ssl i) m))) (n := (0 + gS m (sb_cap (n + ssl i) m))) hA B (u_H (x := yJ5_isLatin1_aae02) (q := qs) (rest := []) ((va_up_ne _ _ hne).trans hbs) X (c_S_lat l g N (va_up ad qv v1) (va_up (va_up f qs (c_sb v1 ml n)) qv (c_ba g (sb_cap (n + ssl i) m) h1)) qs qv bs v1 n (sb_cap (n + ssl i) m) ml h1 hqs hqv hne ((va_up_ne _ _ hne).trans hbs) (va_up_self _ _ _) ((va_up_ne _ _ hne).trans (va_up_self _ _ _)) (va_up_self _ _ _) hF1 H.size) mc_J5_isLatin1_aae02 ⟨mc_J5_isLatin1_aae02.1, mc_J5_isLatin1_aae02.2.1⟩ (tb_in (lw_at 191 (by decide +kernel)) rfl) (tb_in (lw_at 192 (by decide +kernel)) rfl) md_J5_isLatin1_aae02 rfl lk_J5_83 ⟨Nat.le_of_ble_eq_true rfl, Nat.le_of_ble_eq_true rfl⟩ hA hK hT B hqs ((va_up_ne _ _ hne).trans (va_up_self _ _ _)) hl.1 rfl (Nat.le_of_ble_eq_true rfl) dJ5_append_66267_20 (by dsimp only [rm]; omega)) (by dsimp only [rm]; omega) (by dsimp only [rm]; omega) (fun r ad' f' H locs hw B => ?_)
  obtain ⟨rfl, rfl, rfl⟩ := hw
  refine lv_if_eq (tgt := 40) hx hb dJ5_append_66267_23 (by decide) (fun z => absurd z (by decide)) (fun _ => ?_)
  refine lv_lload_n hx hb dJ5_append_66267_26 rfl (lv_at hl 3 rfl) ?_
  refine lv_iload hx hb dJ5_append_66267_27 (lv_at hl 0 rfl) ?_
  refine lv_aload_n hx hb dJ5_append_66267_29 rfl (lv_at hl 2 rfl) ?_
  refine b_get (q := qs) (k := 0) ((va_up_ne _ _ hne).trans hbs) X hK B rfl in_J4 hqs ((va_up_ne _ _ hne).trans (va_up_self _ _ _)) (by decide) lk_J5_15 rfl rfl dJ5_append_66267_30 ?_
  refine k_i (k := (0 + gC m (sb_cap (n + ssl i) m))) (n := (0 + gS m (sb_cap (n + ssl i) m))) hA B (u_S (rest := []) X (c_J13_getChars_11360 l g N (va_up ad qv v1) (va_up (va_up f qs (c_sb v1 ml n)) qv (c_ba g (sb_cap (n + ssl i) m) h1)) i (nI (n + ssl i)) qv (sb_cap (n + ssl i) m) v1 h1 hqv (va_up_self _ _ _) (va_up_self _ _ _) (gcsl_in hcap (by omega)) H.size) mw_J13_getChars_11360 md_J13_getChars_11360 rfl lk_J5_259 ⟨Nat.le_of_ble_eq_true rfl, Nat.le_of_ble_eq_true rfl⟩ hA hK hT B hl.1 rfl (Nat.le_of_ble_eq_true rfl) dJ5_append_66267_33 (by dsimp only [rm]; omega)) (by dsimp only [rm]; omega) (by dsimp only [rm]; omega) (fun r ad' f' H locs hw B => ?_)
  obtain ⟨rfl, rfl, rfl⟩ := hw
  rw [bx_uu] at B
  have B : WB g (aw N ad sz) s.heap N (va_up ad qv v1) (va_up (va_up f qs (c_sb v1 ml n)) qv (c_ba g (sb_cap (n + ssl i) m) ((v_J13_getChars_11360 h1 i (nI (n + ssl i))).2))) H locs := B
  refine lv_pop hx hb dJ5_append_66267_36 rfl ?_
  refine lv_goto (tgt := 52) hx hb dJ5_append_66267_37 (by decide) ?_
  refine lv_aload_n hx hb dJ5_append_66267_52 rfl (lv_at hl 2 rfl) ?_
  refine lv_iload hx hb dJ5_append_66267_53 (lv_at hl 0 rfl) ?_
  refine b_put (q := qs) (k := 3) ((va_up_ne _ _ hne).trans hbs) X hK B rfl in_J4 tyJ4_ok nmJ4 hqs ((va_up_ne _ _ hne).trans (va_up_self _ _ _)) (by decide) lk_J5_79 rfl rfl rfl rfl rfl (Nat.le_of_ble_eq_true rfl) dJ5_append_66267_55 (fun H locs B => ?_)
  rw [sw_s hne] at B
  have B : WB g (aw N ad sz) s.heap N (va_up ad qv v1) (va_up (va_up f qs (c_sb v1 ml (n + ssl i))) qv (c_ba g (sb_cap (n + ssl i) m) ((v_J13_getChars_11360 h1 i (nI (n + ssl i))).2))) H locs := B
  refine lv_aload_n hx hb dJ5_append_66267_58 rfl (lv_at hl 2 rfl) ?_
  exact rt_r (r := some bs) rfl X hr (Or.inl ⟨_, rfl⟩) ((va_up ad qv v1), va_up (va_up f qs (c_sb v1 ml (n + ssl i))) qv (c_ba g (sb_cap (n + ssl i) m) ((v_J13_getChars_11360 h1 i (nI (n + ssl i))).2))) B (PO_of B) ⟨v1, ((v_J13_getChars_11360 h1 i (nI (n + ssl i))).2), (fitL _ _ hF1), rfl, rfl, rfl⟩ (by dsimp only [rm]; omega) (by dsimp only [rm]; omega) dJ5_append_66267_59
set_option maxHeartbeats 4000000 in
theorem c_S_appJ (l : Launch) (g : GG) (N : Nat) (ad : Nat → Nat) (f : Nat → va_E) (qs qv bs v n m : Nat) (ml : Int32) (h : Nat → Int32) (hqs : qs < N) (hqv : qv < N) (hne : qs ≠ qv) (hbs : ad qs = bs) (hbv : ad qv = v) (hfs : f qs = c_sb v ml n) (hfv : f qv = c_ba g m h) (hF : sb_Fit h) (hnm : n ≤ m) (hm : m ≤ 70) (i : Int64) (hi2 : n + ssl i ≤ 2 * m + 2) : KR l yJ4_append_f7089 cJ4_append_f7089 3 (.object "java/lang/StringBuilder") (rm 5 (gC m (sb_cap (n + ssl i) m)) (gS m (sb_cap (n + ssl i) m))) g [.ref bs, .long i] N ad f N (fun r ad' f' => ∃ (v' : Nat) (h' : Nat → Int32), sb_Fit h' ∧ some bs = r ∧ va_up ad qv v' = ad' ∧ va_up (va_up f qs (c_sb v' ml (n + ssl i))) qv (c_ba g (sb_cap (n + ssl i) m) h') = f') := by
  intro sz
  refine mt_start (by decide) (Nat.le_of_ble_eq_true rfl) ?_
  intro p e0 s m9 args below meth c hsz X hr hnam hA hK hT H locs B ls hl
  obtain ⟨hx, hb, hml, hown, hts, hlocks⟩ := id X
  have hl : lv_has ls 3 [(0, .ref bs), (1, .long i)] := hl
  refine lv_aload_n hx hb dJ4_append_f7089_0 rfl (lv_at hl 0 rfl) ?_
  refine lv_lload_n hx hb dJ4_append_f7089_1 rfl (lv_at hl 1 rfl) ?_
  refine k_r (k := (0 + gC m (sb_cap (n + ssl i) m))) (n := (0 + gS m (sb_cap (n + ssl i) m))) hA B (u_U (q := qs) (rest := []) hbs rfl X (c_S_appJ5 l g N ad f qs qv bs v n m ml h hqs hqv hne hbs hbv hfs hfv hF hnm hm i hi2 H.size) mc_J5_append_66267 (by decide) rfl md_J5_append_66267 rfl lk_J4_56 ⟨Nat.le_of_ble_eq_true rfl, Nat.le_of_ble_eq_true rfl⟩ hA hK hT B hqs hfs hl.1 rfl (Nat.le_of_ble_eq_true rfl) dJ4_append_f7089_2 (by dsimp only [rm]; omega)) (by dsimp only [rm]; omega) (by dsimp only [rm]; omega) (fun r ad' f' H locs hw B => ?_)
  obtain ⟨v1, h1, hF1, rfl, rfl, rfl⟩ := hw
  refine lv_pop hx hb dJ4_append_f7089_5 rfl ?_
  refine lv_aload_n hx hb dJ4_append_f7089_6 rfl (lv_at hl 0 rfl) ?_
  exact rt_r (r := some bs) rfl X hr (Or.inl ⟨_, rfl⟩) ((va_up ad qv v1), va_up (va_up f qs (c_sb v1 ml (n + ssl i))) qv (c_ba g (sb_cap (n + ssl i) m) h1)) B (PO_of B) ⟨v1, h1, hF1, rfl, rfl, rfl⟩ (by dsimp only [rm]; omega) (by dsimp only [rm]; omega) dJ4_append_f7089_7
set_option maxHeartbeats 4000000 in
theorem c_W_inS (l : Launch) (g : GG) (N : Nat) (ad : Nat → Nat) (f : Nat → va_E) (j bj : Nat) (t : TR) (hj : j < N) (hbj : ad j = bj) (hfj : f j = c_sp t) : KR l yX1_inSigns cX1_inSigns 2 (.object "java/lang/String") (rm 6 6 166) g [.ref bj] N ad f N (fun r ad' f' => ad = ad' ∧ (∃ a : Nat, some a = r) ∧ f = f') := by
  intro sz
  refine mt_start (by decide) (Nat.le_of_ble_eq_true rfl) ?_
  intro p e0 s m9 args below meth c hsz X hr hnam hA hK hT H locs B ls hl
  obtain ⟨hx, hb, hml, hown, hts, hlocks⟩ := id X
  have hl : lv_has ls 2 [(0, .ref bj)] := hl
  have hk1 : st_len.getD 1 0 = 2 := rfl
  have hk2 : st_len.getD 2 0 = 2 := rfl
  have hz1 := ssz_b t.1
  have hz2 := ssz_b t.2.1
  have hz3 := ssz_b t.2.2
  refine g_new (ci := 1) (fs := [.null, .int 0, .int 0, .int 0]) (k1 := ((0) + 1)) (k2 := ((0) + 4)) X hA hK B rfl in_J4 tyJ4_ok lk_X1_61 (tb_in (lw_at 113 (by decide +kernel)) rfl) ii_J4 (by decide +kernel) (by dsimp only [rm]; omega) (by dsimp only [rm]; omega) (Nat.le_refl _) (Nat.le_refl _) dX1_inSigns_0 (fun z1 H B => ?_)
  refine W.widen (show ((0) + 1) ≤ (1) by omega) (show ((0) + 4) ≤ (4) by omega) ?_
  refine lv_dup hx hb dX1_inSigns_3 rfl ?_
  refine k_v (k := (2)) (n := (20)) hA B (b_I (rest := [.ref z1]) X (c_S_new l g (N + 1) (va_up ad N z1) (va_up f N (.inr (1, [.null, .int 0, .int 0, .int 0]))) N z1 (Nat.lt_succ_self _) up_eq up_eq H.size) mw_J4_init_da8c8 rfl md_J4_init_da8c8 rfl lk_X1_63 ⟨Nat.le_of_ble_eq_true rfl, Nat.le_of_ble_eq_true rfl⟩ hA hK hT B hl.1 rfl (Nat.le_of_ble_eq_true rfl) dX1_inSigns_4 (by dsimp only [rm]; omega)) (by dsimp only [rm]; omega) (by dsimp only [rm]; omega) (fun ad' f' H locs hw B => ?_)
  obtain ⟨v2, rfl, rfl⟩ := hw
  rw [bx_uu] at B
  have B : WB g (aw N ad sz) s.heap (N + 1 + 1) (va_up (va_up ad N z1) (N + 1) v2) (va_up (va_up f N (c_sb v2 0 0)) (N + 1) (c_ba g 16 (fun _ => 0))) H locs := B
  have hd0 : (16 = 16 ∧ 2 = 2 ∧ 20 = 20) ∨ (16 = 34 ∧ 2 = 2 + 1 ∧ 20 = 20 + 34) ∨ (16 = 70 ∧ 2 ≤ 2 + 2 ∧ 20 ≤ 20 + 104) := Or.inl ⟨rfl, rfl, rfl⟩
  refine lv_astore_n (lv' := [(1, .ref z1), (0, .ref bj)]) hx hb dX1_inSigns_7 rfl hl (by decide) rfl (fun ls hl => ?_)
  refine lv_aload_n hx hb dX1_inSigns_8 rfl (lv_at hl 0 rfl) ?_
  refine lv_aload_n hx hb dX1_inSigns_9 rfl (lv_at hl 1 rfl) ?_
  refine b_get (q := j) (k := 0) ((up_lt (Nat.lt_succ_of_lt hj)).trans ((up_lt hj).trans hbj)) X hK B rfl in_X1 (Nat.lt_succ_of_lt (Nat.lt_succ_of_lt hj)) ((up_lt (Nat.lt_succ_of_lt hj)).trans ((up_lt hj).trans hfj)) (by decide) lk_X1_13 rfl rfl dX1_inSigns_10 ?_
  obtain ⟨m3, C3, S3, e3a, e3b, e3c, hd3, hq3⟩ := cap_step (q := (0 + ssz t.1)) hd0 (by omega) (by omega)
  refine k_r (k := (0 + C3)) (n := (0 + S3)) hA B (b_V (q := N) (rest := []) ((up_lt (by omega)).trans up_eq) X (c_S_appI l g (N + 1 + 1) (va_up (va_up ad N z1) (N + 1) v2) (va_up (va_up f N (c_sb v2 0 0)) (N + 1) (c_ba g 16 (fun _ => 0))) N (N + 1) z1 v2 0 16 0 (fun _ => 0) (by omega) (by omega) (by omega) ((up_lt (by omega)).trans up_eq) up_eq ((up_lt (by omega)).trans up_eq) up_eq sb_fit0 (by omega) (by omega) t.1 (by omega) H.size) mw_J4_append_bf812 md_J4_append_bf812 rfl lk_X1_64 ⟨Nat.le_of_ble_eq_true rfl, Nat.le_of_ble_eq_true rfl⟩ hA hK hT B (by omega) ((up_lt (by omega)).trans up_eq) rfl rfl hl.1 rfl (Nat.le_of_ble_eq_true rfl) dX1_inSigns_13 (by dsimp only [rm]; omega)) (by dsimp only [rm]; omega) (by dsimp only [rm]; omega) (fun r ad' f' H locs hw B => ?_)
  obtain ⟨v3, h3, hF3, rfl, rfl, rfl⟩ := hw
  rw [bx_uu, sw_4 (by omega), e3a] at B
  have B : WB g (aw N ad sz) s.heap (N + 1 + 1) (va_up (va_up ad N z1) (N + 1) v3) (va_up (va_up f N (c_sb v3 0 (0 + ssz t.1))) (N + 1) (c_ba g m3 h3)) H locs := B
  refine lv_pop hx hb dX1_inSigns_16 rfl ?_
  refine lv_aload_n hx hb dX1_inSigns_17 rfl (lv_at hl 0 rfl) ?_
  refine b_ldc (i := 1) (by decide) rfl rfl X hT dX1_inSigns_18 ?_
  obtain ⟨m4, C4, S4, e4a, e4b, e4c, hd4, hq4⟩ := cap_step (q := ((0 + ssz t.1) + st_len.getD 1 0)) hd3 (by omega) (by omega)
  refine k_r (k := (0 + C4)) (n := (0 + S4)) hA B (b_V (q := N) (rest := []) ((up_lt (by omega)).trans up_eq) X (c_S_appK l g (N + 1 + 1) (va_up (va_up ad N z1) (N + 1) v3) (va_up (va_up f N (c_sb v3 0 (0 + ssz t.1))) (N + 1) (c_ba g m3 h3)) N (N + 1) z1 v3 (0 + ssz t.1) m3 0 h3 (by omega) (by omega) (by omega) ((up_lt (by omega)).trans up_eq) up_eq ((up_lt (by omega)).trans up_eq) up_eq hF3 (by omega) (by omega) 1 (by decide) (by omega) H.size) mw_J4_append_15ec4 md_J4_append_15ec4 rfl lk_X1_70 ⟨Nat.le_of_ble_eq_true rfl, Nat.le_of_ble_eq_true rfl⟩ hA hK hT B (by omega) ((up_lt (by omega)).trans up_eq) rfl rfl hl.1 rfl (Nat.le_of_ble_eq_true rfl) dX1_inSigns_20 (by dsimp only [rm]; omega)) (by dsimp only [rm]; omega) (by dsimp only [rm]; omega) (fun r ad' f' H locs hw B => ?_)
  obtain ⟨v4, h4, hF4, rfl, rfl, rfl⟩ := hw
  rw [bx_uu, sw_4 (by omega), e4a] at B
  have B : WB g (aw N ad sz) s.heap (N + 1 + 1) (va_up (va_up ad N z1) (N + 1) v4) (va_up (va_up f N (c_sb v4 0 ((0 + ssz t.1) + st_len.getD 1 0))) (N + 1) (c_ba g m4 h4)) H locs := B
  refine lv_pop hx hb dX1_inSigns_23 rfl ?_
  refine lv_aload_n hx hb dX1_inSigns_24 rfl (lv_at hl 0 rfl) ?_
  refine lv_aload_n hx hb dX1_inSigns_25 rfl (lv_at hl 1 rfl) ?_
  refine b_get (q := j) (k := 1) ((up_lt (Nat.lt_succ_of_lt hj)).trans ((up_lt hj).trans hbj)) X hK B rfl in_X1 (Nat.lt_succ_of_lt (Nat.lt_succ_of_lt hj)) ((up_lt (Nat.lt_succ_of_lt hj)).trans ((up_lt hj).trans hfj)) (by decide) lk_X1_19 rfl rfl dX1_inSigns_26 ?_
  obtain ⟨m5, C5, S5, e5a, e5b, e5c, hd5, hq5⟩ := cap_step (q := (((0 + ssz t.1) + st_len.getD 1 0) + ssz t.2.1)) hd4 (by omega) (by omega)
  refine k_r (k := (0 + C5)) (n := (0 + S5)) hA B (b_V (q := N) (rest := []) ((up_lt (by omega)).trans up_eq) X (c_S_appI l g (N + 1 + 1) (va_up (va_up ad N z1) (N + 1) v4) (va_up (va_up f N (c_sb v4 0 ((0 + ssz t.1) + st_len.getD 1 0))) (N + 1) (c_ba g m4 h4)) N (N + 1) z1 v4 ((0 + ssz t.1) + st_len.getD 1 0) m4 0 h4 (by omega) (by omega) (by omega) ((up_lt (by omega)).trans up_eq) up_eq ((up_lt (by omega)).trans up_eq) up_eq hF4 (by omega) (by omega) t.2.1 (by omega) H.size) mw_J4_append_bf812 md_J4_append_bf812 rfl lk_X1_64 ⟨Nat.le_of_ble_eq_true rfl, Nat.le_of_ble_eq_true rfl⟩ hA hK hT B (by omega) ((up_lt (by omega)).trans up_eq) rfl rfl hl.1 rfl (Nat.le_of_ble_eq_true rfl) dX1_inSigns_29 (by dsimp only [rm]; omega)) (by dsimp only [rm]; omega) (by dsimp only [rm]; omega) (fun r ad' f' H locs hw B => ?_)
  obtain ⟨v5, h5, hF5, rfl, rfl, rfl⟩ := hw
  rw [bx_uu, sw_4 (by omega), e5a] at B
  have B : WB g (aw N ad sz) s.heap (N + 1 + 1) (va_up (va_up ad N z1) (N + 1) v5) (va_up (va_up f N (c_sb v5 0 (((0 + ssz t.1) + st_len.getD 1 0) + ssz t.2.1))) (N + 1) (c_ba g m5 h5)) H locs := B
  refine lv_pop hx hb dX1_inSigns_32 rfl ?_
  refine lv_aload_n hx hb dX1_inSigns_33 rfl (lv_at hl 0 rfl) ?_
  refine b_ldc (i := 2) (by decide) rfl rfl X hT dX1_inSigns_34 ?_
  obtain ⟨m6, C6, S6, e6a, e6b, e6c, hd6, hq6⟩ := cap_step (q := ((((0 + ssz t.1) + st_len.getD 1 0) + ssz t.2.1) + st_len.getD 2 0)) hd5 (by omega) (by omega)
  refine k_r (k := (0 + C6)) (n := (0 + S6)) hA B (b_V (q := N) (rest := []) ((up_lt (by omega)).trans up_eq) X (c_S_appK l g (N + 1 + 1) (va_up (va_up ad N z1) (N + 1) v5) (va_up (va_up f N (c_sb v5 0 (((0 + ssz t.1) + st_len.getD 1 0) + ssz t.2.1))) (N + 1) (c_ba g m5 h5)) N (N + 1) z1 v5 (((0 + ssz t.1) + st_len.getD 1 0) + ssz t.2.1) m5 0 h5 (by omega) (by omega) (by omega) ((up_lt (by omega)).trans up_eq) up_eq ((up_lt (by omega)).trans up_eq) up_eq hF5 (by omega) (by omega) 2 (by decide) (by omega) H.size) mw_J4_append_15ec4 md_J4_append_15ec4 rfl lk_X1_70 ⟨Nat.le_of_ble_eq_true rfl, Nat.le_of_ble_eq_true rfl⟩ hA hK hT B (by omega) ((up_lt (by omega)).trans up_eq) rfl rfl hl.1 rfl (Nat.le_of_ble_eq_true rfl) dX1_inSigns_36 (by dsimp only [rm]; omega)) (by dsimp only [rm]; omega) (by dsimp only [rm]; omega) (fun r ad' f' H locs hw B => ?_)
  obtain ⟨v6, h6, hF6, rfl, rfl, rfl⟩ := hw
  rw [bx_uu, sw_4 (by omega), e6a] at B
  have B : WB g (aw N ad sz) s.heap (N + 1 + 1) (va_up (va_up ad N z1) (N + 1) v6) (va_up (va_up f N (c_sb v6 0 ((((0 + ssz t.1) + st_len.getD 1 0) + ssz t.2.1) + st_len.getD 2 0))) (N + 1) (c_ba g m6 h6)) H locs := B
  refine lv_pop hx hb dX1_inSigns_39 rfl ?_
  refine lv_aload_n hx hb dX1_inSigns_40 rfl (lv_at hl 0 rfl) ?_
  refine lv_aload_n hx hb dX1_inSigns_41 rfl (lv_at hl 1 rfl) ?_
  refine b_get (q := j) (k := 2) ((up_lt (Nat.lt_succ_of_lt hj)).trans ((up_lt hj).trans hbj)) X hK B rfl in_X1 (Nat.lt_succ_of_lt (Nat.lt_succ_of_lt hj)) ((up_lt (Nat.lt_succ_of_lt hj)).trans ((up_lt hj).trans hfj)) (by decide) lk_X1_22 rfl rfl dX1_inSigns_42 ?_
  obtain ⟨m7, C7, S7, e7a, e7b, e7c, hd7, hq7⟩ := cap_step (q := (((((0 + ssz t.1) + st_len.getD 1 0) + ssz t.2.1) + st_len.getD 2 0) + ssz t.2.2)) hd6 (by omega) (by omega)
  refine k_r (k := (0 + C7)) (n := (0 + S7)) hA B (b_V (q := N) (rest := []) ((up_lt (by omega)).trans up_eq) X (c_S_appI l g (N + 1 + 1) (va_up (va_up ad N z1) (N + 1) v6) (va_up (va_up f N (c_sb v6 0 ((((0 + ssz t.1) + st_len.getD 1 0) + ssz t.2.1) + st_len.getD 2 0))) (N + 1) (c_ba g m6 h6)) N (N + 1) z1 v6 ((((0 + ssz t.1) + st_len.getD 1 0) + ssz t.2.1) + st_len.getD 2 0) m6 0 h6 (by omega) (by omega) (by omega) ((up_lt (by omega)).trans up_eq) up_eq ((up_lt (by omega)).trans up_eq) up_eq hF6 (by omega) (by omega) t.2.2 (by omega) H.size) mw_J4_append_bf812 md_J4_append_bf812 rfl lk_X1_64 ⟨Nat.le_of_ble_eq_true rfl, Nat.le_of_ble_eq_true rfl⟩ hA hK hT B (by omega) ((up_lt (by omega)).trans up_eq) rfl rfl hl.1 rfl (Nat.le_of_ble_eq_true rfl) dX1_inSigns_45 (by dsimp only [rm]; omega)) (by dsimp only [rm]; omega) (by dsimp only [rm]; omega) (fun r ad' f' H locs hw B => ?_)
  obtain ⟨v7, h7, hF7, rfl, rfl, rfl⟩ := hw
  rw [bx_uu, sw_4 (by omega), e7a] at B
  have B : WB g (aw N ad sz) s.heap (N + 1 + 1) (va_up (va_up ad N z1) (N + 1) v7) (va_up (va_up f N (c_sb v7 0 (((((0 + ssz t.1) + st_len.getD 1 0) + ssz t.2.1) + st_len.getD 2 0) + ssz t.2.2))) (N + 1) (c_ba g m7 h7)) H locs := B
  refine lv_pop hx hb dX1_inSigns_48 rfl ?_
  refine lv_aload_n hx hb dX1_inSigns_49 rfl (lv_at hl 0 rfl) ?_
  refine lv_bipush (v := 100) hx hb dX1_inSigns_50 (by decide) ?_
  obtain ⟨m8, C8, S8, e8a, e8b, e8c, hd8, hq8⟩ := cap_step (q := ((((((0 + ssz t.1) + st_len.getD 1 0) + ssz t.2.1) + st_len.getD 2 0) + ssz t.2.2) + 1)) hd7 (by omega) (by omega)
  refine k_r (k := (0 + C8)) (n := (0 + S8)) hA B (b_V (q := N) (rest := []) ((up_lt (by omega)).trans up_eq) X (c_S_appC l g (N + 1 + 1) (va_up (va_up ad N z1) (N + 1) v7) (va_up (va_up f N (c_sb v7 0 (((((0 + ssz t.1) + st_len.getD 1 0) + ssz t.2.1) + st_len.getD 2 0) + ssz t.2.2))) (N + 1) (c_ba g m7 h7)) N (N + 1) z1 v7 (((((0 + ssz t.1) + st_len.getD 1 0) + ssz t.2.1) + st_len.getD 2 0) + ssz t.2.2) m7 0 h7 (by omega) (by omega) (by omega) ((up_lt (by omega)).trans up_eq) up_eq ((up_lt (by omega)).trans up_eq) up_eq hF7 (by omega) (by omega) 100 (by decide) H.size) mw_J4_append_cf468 md_J4_append_cf468 rfl lk_X1_75 ⟨Nat.le_of_ble_eq_true rfl, Nat.le_of_ble_eq_true rfl⟩ hA hK hT B (by omega) ((up_lt (by omega)).trans up_eq) rfl rfl hl.1 rfl (Nat.le_of_ble_eq_true rfl) dX1_inSigns_52 (by dsimp only [rm]; omega)) (by dsimp only [rm]; omega) (by dsimp only [rm]; omega) (fun r ad' f' H locs hw B => ?_)
  obtain ⟨v8, h8, hF8, rfl, rfl, rfl⟩ := hw
  rw [bx_uu, sw_4 (by omega), e8a] at B
  have B : WB g (aw N ad sz) s.heap (N + 1 + 1) (va_up (va_up ad N z1) (N + 1) v8) (va_up (va_up f N (c_sb v8 0 ((((((0 + ssz t.1) + st_len.getD 1 0) + ssz t.2.1) + st_len.getD 2 0) + ssz t.2.2) + 1))) (N + 1) (c_ba g m8 h8)) H locs := B
  refine lv_pop hx hb dX1_inSigns_55 rfl ?_
  refine lv_aload_n hx hb dX1_inSigns_56 rfl (lv_at hl 0 rfl) ?_
  refine k_r (k := (2 + C8)) (n := (0 + S8 + (4 + ((((((0 + ssz t.1) + st_len.getD 1 0) + ssz t.2.1) + st_len.getD 2 0) + ssz t.2.2) + 1)))) hA B (b_V (q := N) (rest := []) ((up_lt (by omega)).trans up_eq) X (c_S_toS l g (N + 1 + 1) (va_up (va_up ad N z1) (N + 1) v8) (va_up (va_up f N (c_sb v8 0 ((((((0 + ssz t.1) + st_len.getD 1 0) + ssz t.2.1) + st_len.getD 2 0) + ssz t.2.2) + 1))) (N + 1) (c_ba g m8 h8)) N (N + 1) z1 v8 ((((((0 + ssz t.1) + st_len.getD 1 0) + ssz t.2.1) + st_len.getD 2 0) + ssz t.2.2) + 1) m8 0 h8 (by omega) (by omega) (by omega) ((up_lt (by omega)).trans up_eq) up_eq ((up_lt (by omega)).trans up_eq) up_eq hF8 (by omega) (by omega) H.size) mw_J4_toString_0e30d md_J4_toString_0e30d rfl lk_X1_78 ⟨Nat.le_of_ble_eq_true rfl, Nat.le_of_ble_eq_true rfl⟩ hA hK hT B (by omega) ((up_lt (by omega)).trans up_eq) rfl rfl hl.1 rfl (Nat.le_of_ble_eq_true rfl) dX1_inSigns_57 (by dsimp only [rm]; omega)) (by dsimp only [rm]; omega) (by dsimp only [rm]; omega) (fun r ad' f' H locs hw B => ?_)
  obtain ⟨a9, a9x, h9, hF9, rfl, rfl, rfl⟩ := hw
  have B : WB g (aw N ad sz) s.heap N ad f H locs := B.drop (by omega) (fun _ hk => ((up_lt (Nat.lt_succ_of_lt (Nat.lt_succ_of_lt (Nat.lt_succ_of_lt hk)))).trans ((up_lt (Nat.lt_succ_of_lt (Nat.lt_succ_of_lt hk))).trans ((up_lt (Nat.lt_succ_of_lt hk)).trans (up_lt hk))))) (fun _ hk => ((up_lt (Nat.lt_succ_of_lt (Nat.lt_succ_of_lt (Nat.lt_succ_of_lt hk)))).trans ((up_lt (Nat.lt_succ_of_lt (Nat.lt_succ_of_lt hk))).trans ((up_lt (Nat.lt_succ_of_lt hk)).trans (up_lt hk)))))
  exact rt_r (r := some a9) rfl X hr (Or.inl ⟨_, rfl⟩) (ad, f) B (PO_of B) ⟨rfl, ⟨_, rfl⟩, rfl⟩ (by dsimp only [rm]; omega) (by dsimp only [rm]; omega) dX1_inSigns_60
set_option maxHeartbeats 4000000 in
theorem c_W_inD (l : Launch) (g : GG) (N : Nat) (ad : Nat → Nat) (f : Nat → va_E) (j bj : Nat) (t : TR) (hj : j < N) (hbj : ad j = bj) (hfj : f j = c_dy t) : KR l yX0_inSigns cX0_inSigns 2 (.object "java/lang/String") (rm 6 6 166) g [.ref bj] N ad f N (fun r ad' f' => ad = ad' ∧ (∃ a : Nat, some a = r) ∧ f = f') := by
  intro sz
  refine mt_start (by decide) (Nat.le_of_ble_eq_true rfl) ?_
  intro p e0 s m9 args below meth c hsz X hr hnam hA hK hT H locs B ls hl
  obtain ⟨hx, hb, hml, hown, hts, hlocks⟩ := id X
  have hl : lv_has ls 2 [(0, .ref bj)] := hl
  have hk1 : st_len.getD 1 0 = 2 := rfl
  have hk2 : st_len.getD 2 0 = 2 := rfl
  have hz1 := ssz_b t.1
  have hz2 := ssz_b t.2.1
  have hz3 := ssz_b t.2.2
  refine g_new (ci := 1) (fs := [.null, .int 0, .int 0, .int 0]) (k1 := ((0) + 1)) (k2 := ((0) + 4)) X hA hK B rfl in_J4 tyJ4_ok lk_X0_63 (tb_in (lw_at 113 (by decide +kernel)) rfl) ii_J4 (by decide +kernel) (by dsimp only [rm]; omega) (by dsimp only [rm]; omega) (Nat.le_refl _) (Nat.le_refl _) dX0_inSigns_0 (fun z1 H B => ?_)
  refine W.widen (show ((0) + 1) ≤ (1) by omega) (show ((0) + 4) ≤ (4) by omega) ?_
  refine lv_dup hx hb dX0_inSigns_3 rfl ?_
  refine k_v (k := (2)) (n := (20)) hA B (b_I (rest := [.ref z1]) X (c_S_new l g (N + 1) (va_up ad N z1) (va_up f N (.inr (1, [.null, .int 0, .int 0, .int 0]))) N z1 (Nat.lt_succ_self _) up_eq up_eq H.size) mw_J4_init_da8c8 rfl md_J4_init_da8c8 rfl lk_X0_65 ⟨Nat.le_of_ble_eq_true rfl, Nat.le_of_ble_eq_true rfl⟩ hA hK hT B hl.1 rfl (Nat.le_of_ble_eq_true rfl) dX0_inSigns_4 (by dsimp only [rm]; omega)) (by dsimp only [rm]; omega) (by dsimp only [rm]; omega) (fun ad' f' H locs hw B => ?_)
  obtain ⟨v2, rfl, rfl⟩ := hw
  rw [bx_uu] at B
  have B : WB g (aw N ad sz) s.heap (N + 1 + 1) (va_up (va_up ad N z1) (N + 1) v2) (va_up (va_up f N (c_sb v2 0 0)) (N + 1) (c_ba g 16 (fun _ => 0))) H locs := B
  have hd0 : (16 = 16 ∧ 2 = 2 ∧ 20 = 20) ∨ (16 = 34 ∧ 2 = 2 + 1 ∧ 20 = 20 + 34) ∨ (16 = 70 ∧ 2 ≤ 2 + 2 ∧ 20 ≤ 20 + 104) := Or.inl ⟨rfl, rfl, rfl⟩
  refine lv_astore_n (lv' := [(1, .ref z1), (0, .ref bj)]) hx hb dX0_inSigns_7 rfl hl (by decide) rfl (fun ls hl => ?_)
  refine lv_aload_n hx hb dX0_inSigns_8 rfl (lv_at hl 0 rfl) ?_
  refine lv_aload_n hx hb dX0_inSigns_9 rfl (lv_at hl 1 rfl) ?_
  refine b_get (q := j) (k := 0) ((up_lt (Nat.lt_succ_of_lt hj)).trans ((up_lt hj).trans hbj)) X hK B rfl in_X0 (Nat.lt_succ_of_lt (Nat.lt_succ_of_lt hj)) ((up_lt (Nat.lt_succ_of_lt hj)).trans ((up_lt hj).trans hfj)) (by decide) lk_X0_9 rfl rfl dX0_inSigns_10 ?_
  obtain ⟨m3, C3, S3, e3a, e3b, e3c, hd3, hq3⟩ := cap_step (q := (0 + ssz t.1)) hd0 (by omega) (by omega)
  refine k_r (k := (0 + C3)) (n := (0 + S3)) hA B (b_V (q := N) (rest := []) ((up_lt (by omega)).trans up_eq) X (c_S_appI l g (N + 1 + 1) (va_up (va_up ad N z1) (N + 1) v2) (va_up (va_up f N (c_sb v2 0 0)) (N + 1) (c_ba g 16 (fun _ => 0))) N (N + 1) z1 v2 0 16 0 (fun _ => 0) (by omega) (by omega) (by omega) ((up_lt (by omega)).trans up_eq) up_eq ((up_lt (by omega)).trans up_eq) up_eq sb_fit0 (by omega) (by omega) t.1 (by omega) H.size) mw_J4_append_bf812 md_J4_append_bf812 rfl lk_X0_66 ⟨Nat.le_of_ble_eq_true rfl, Nat.le_of_ble_eq_true rfl⟩ hA hK hT B (by omega) ((up_lt (by omega)).trans up_eq) rfl rfl hl.1 rfl (Nat.le_of_ble_eq_true rfl) dX0_inSigns_13 (by dsimp only [rm]; omega)) (by dsimp only [rm]; omega) (by dsimp only [rm]; omega) (fun r ad' f' H locs hw B => ?_)
  obtain ⟨v3, h3, hF3, rfl, rfl, rfl⟩ := hw
  rw [bx_uu, sw_4 (by omega), e3a] at B
  have B : WB g (aw N ad sz) s.heap (N + 1 + 1) (va_up (va_up ad N z1) (N + 1) v3) (va_up (va_up f N (c_sb v3 0 (0 + ssz t.1))) (N + 1) (c_ba g m3 h3)) H locs := B
  refine lv_pop hx hb dX0_inSigns_16 rfl ?_
  refine lv_aload_n hx hb dX0_inSigns_17 rfl (lv_at hl 0 rfl) ?_
  refine lv_bipush (v := 45) hx hb dX0_inSigns_18 (by decide) ?_
  obtain ⟨m4, C4, S4, e4a, e4b, e4c, hd4, hq4⟩ := cap_step (q := ((0 + ssz t.1) + 1)) hd3 (by omega) (by omega)
  refine k_r (k := (0 + C4)) (n := (0 + S4)) hA B (b_V (q := N) (rest := []) ((up_lt (by omega)).trans up_eq) X (c_S_appC l g (N + 1 + 1) (va_up (va_up ad N z1) (N + 1) v3) (va_up (va_up f N (c_sb v3 0 (0 + ssz t.1))) (N + 1) (c_ba g m3 h3)) N (N + 1) z1 v3 (0 + ssz t.1) m3 0 h3 (by omega) (by omega) (by omega) ((up_lt (by omega)).trans up_eq) up_eq ((up_lt (by omega)).trans up_eq) up_eq hF3 (by omega) (by omega) 45 (by decide) H.size) mw_J4_append_cf468 md_J4_append_cf468 rfl lk_X0_70 ⟨Nat.le_of_ble_eq_true rfl, Nat.le_of_ble_eq_true rfl⟩ hA hK hT B (by omega) ((up_lt (by omega)).trans up_eq) rfl rfl hl.1 rfl (Nat.le_of_ble_eq_true rfl) dX0_inSigns_20 (by dsimp only [rm]; omega)) (by dsimp only [rm]; omega) (by dsimp only [rm]; omega) (fun r ad' f' H locs hw B => ?_)
  obtain ⟨v4, h4, hF4, rfl, rfl, rfl⟩ := hw
  rw [bx_uu, sw_4 (by omega), e4a] at B
  have B : WB g (aw N ad sz) s.heap (N + 1 + 1) (va_up (va_up ad N z1) (N + 1) v4) (va_up (va_up f N (c_sb v4 0 ((0 + ssz t.1) + 1))) (N + 1) (c_ba g m4 h4)) H locs := B
  refine lv_pop hx hb dX0_inSigns_23 rfl ?_
  refine lv_aload_n hx hb dX0_inSigns_24 rfl (lv_at hl 0 rfl) ?_
  refine lv_aload_n hx hb dX0_inSigns_25 rfl (lv_at hl 1 rfl) ?_
  refine b_get (q := j) (k := 1) ((up_lt (Nat.lt_succ_of_lt hj)).trans ((up_lt hj).trans hbj)) X hK B rfl in_X0 (Nat.lt_succ_of_lt (Nat.lt_succ_of_lt hj)) ((up_lt (Nat.lt_succ_of_lt hj)).trans ((up_lt hj).trans hfj)) (by decide) lk_X0_15 rfl rfl dX0_inSigns_26 ?_
  obtain ⟨m5, C5, S5, e5a, e5b, e5c, hd5, hq5⟩ := cap_step (q := (((0 + ssz t.1) + 1) + ssz t.2.1)) hd4 (by omega) (by omega)
  refine k_r (k := (0 + C5)) (n := (0 + S5)) hA B (b_V (q := N) (rest := []) ((up_lt (by omega)).trans up_eq) X (c_S_appI l g (N + 1 + 1) (va_up (va_up ad N z1) (N + 1) v4) (va_up (va_up f N (c_sb v4 0 ((0 + ssz t.1) + 1))) (N + 1) (c_ba g m4 h4)) N (N + 1) z1 v4 ((0 + ssz t.1) + 1) m4 0 h4 (by omega) (by omega) (by omega) ((up_lt (by omega)).trans up_eq) up_eq ((up_lt (by omega)).trans up_eq) up_eq hF4 (by omega) (by omega) t.2.1 (by omega) H.size) mw_J4_append_bf812 md_J4_append_bf812 rfl lk_X0_66 ⟨Nat.le_of_ble_eq_true rfl, Nat.le_of_ble_eq_true rfl⟩ hA hK hT B (by omega) ((up_lt (by omega)).trans up_eq) rfl rfl hl.1 rfl (Nat.le_of_ble_eq_true rfl) dX0_inSigns_29 (by dsimp only [rm]; omega)) (by dsimp only [rm]; omega) (by dsimp only [rm]; omega) (fun r ad' f' H locs hw B => ?_)
  obtain ⟨v5, h5, hF5, rfl, rfl, rfl⟩ := hw
  rw [bx_uu, sw_4 (by omega), e5a] at B
  have B : WB g (aw N ad sz) s.heap (N + 1 + 1) (va_up (va_up ad N z1) (N + 1) v5) (va_up (va_up f N (c_sb v5 0 (((0 + ssz t.1) + 1) + ssz t.2.1))) (N + 1) (c_ba g m5 h5)) H locs := B
  refine lv_pop hx hb dX0_inSigns_32 rfl ?_
  refine lv_aload_n hx hb dX0_inSigns_33 rfl (lv_at hl 0 rfl) ?_
  refine lv_bipush (v := 45) hx hb dX0_inSigns_34 (by decide) ?_
  obtain ⟨m6, C6, S6, e6a, e6b, e6c, hd6, hq6⟩ := cap_step (q := ((((0 + ssz t.1) + 1) + ssz t.2.1) + 1)) hd5 (by omega) (by omega)
  refine k_r (k := (0 + C6)) (n := (0 + S6)) hA B (b_V (q := N) (rest := []) ((up_lt (by omega)).trans up_eq) X (c_S_appC l g (N + 1 + 1) (va_up (va_up ad N z1) (N + 1) v5) (va_up (va_up f N (c_sb v5 0 (((0 + ssz t.1) + 1) + ssz t.2.1))) (N + 1) (c_ba g m5 h5)) N (N + 1) z1 v5 (((0 + ssz t.1) + 1) + ssz t.2.1) m5 0 h5 (by omega) (by omega) (by omega) ((up_lt (by omega)).trans up_eq) up_eq ((up_lt (by omega)).trans up_eq) up_eq hF5 (by omega) (by omega) 45 (by decide) H.size) mw_J4_append_cf468 md_J4_append_cf468 rfl lk_X0_70 ⟨Nat.le_of_ble_eq_true rfl, Nat.le_of_ble_eq_true rfl⟩ hA hK hT B (by omega) ((up_lt (by omega)).trans up_eq) rfl rfl hl.1 rfl (Nat.le_of_ble_eq_true rfl) dX0_inSigns_36 (by dsimp only [rm]; omega)) (by dsimp only [rm]; omega) (by dsimp only [rm]; omega) (fun r ad' f' H locs hw B => ?_)
  obtain ⟨v6, h6, hF6, rfl, rfl, rfl⟩ := hw
  rw [bx_uu, sw_4 (by omega), e6a] at B
  have B : WB g (aw N ad sz) s.heap (N + 1 + 1) (va_up (va_up ad N z1) (N + 1) v6) (va_up (va_up f N (c_sb v6 0 ((((0 + ssz t.1) + 1) + ssz t.2.1) + 1))) (N + 1) (c_ba g m6 h6)) H locs := B
  refine lv_pop hx hb dX0_inSigns_39 rfl ?_
  refine lv_aload_n hx hb dX0_inSigns_40 rfl (lv_at hl 0 rfl) ?_
  refine lv_aload_n hx hb dX0_inSigns_41 rfl (lv_at hl 1 rfl) ?_
  refine b_get (q := j) (k := 2) ((up_lt (Nat.lt_succ_of_lt hj)).trans ((up_lt hj).trans hbj)) X hK B rfl in_X0 (Nat.lt_succ_of_lt (Nat.lt_succ_of_lt hj)) ((up_lt (Nat.lt_succ_of_lt hj)).trans ((up_lt hj).trans hfj)) (by decide) lk_X0_18 rfl rfl dX0_inSigns_42 ?_
  obtain ⟨m7, C7, S7, e7a, e7b, e7c, hd7, hq7⟩ := cap_step (q := (((((0 + ssz t.1) + 1) + ssz t.2.1) + 1) + ssz t.2.2)) hd6 (by omega) (by omega)
  refine k_r (k := (0 + C7)) (n := (0 + S7)) hA B (b_V (q := N) (rest := []) ((up_lt (by omega)).trans up_eq) X (c_S_appI l g (N + 1 + 1) (va_up (va_up ad N z1) (N + 1) v6) (va_up (va_up f N (c_sb v6 0 ((((0 + ssz t.1) + 1) + ssz t.2.1) + 1))) (N + 1) (c_ba g m6 h6)) N (N + 1) z1 v6 ((((0 + ssz t.1) + 1) + ssz t.2.1) + 1) m6 0 h6 (by omega) (by omega) (by omega) ((up_lt (by omega)).trans up_eq) up_eq ((up_lt (by omega)).trans up_eq) up_eq hF6 (by omega) (by omega) t.2.2 (by omega) H.size) mw_J4_append_bf812 md_J4_append_bf812 rfl lk_X0_66 ⟨Nat.le_of_ble_eq_true rfl, Nat.le_of_ble_eq_true rfl⟩ hA hK hT B (by omega) ((up_lt (by omega)).trans up_eq) rfl rfl hl.1 rfl (Nat.le_of_ble_eq_true rfl) dX0_inSigns_45 (by dsimp only [rm]; omega)) (by dsimp only [rm]; omega) (by dsimp only [rm]; omega) (fun r ad' f' H locs hw B => ?_)
  obtain ⟨v7, h7, hF7, rfl, rfl, rfl⟩ := hw
  rw [bx_uu, sw_4 (by omega), e7a] at B
  have B : WB g (aw N ad sz) s.heap (N + 1 + 1) (va_up (va_up ad N z1) (N + 1) v7) (va_up (va_up f N (c_sb v7 0 (((((0 + ssz t.1) + 1) + ssz t.2.1) + 1) + ssz t.2.2))) (N + 1) (c_ba g m7 h7)) H locs := B
  refine lv_pop hx hb dX0_inSigns_48 rfl ?_
  refine lv_aload_n hx hb dX0_inSigns_49 rfl (lv_at hl 0 rfl) ?_
  refine k_r (k := (2 + C7)) (n := (0 + S7 + (4 + (((((0 + ssz t.1) + 1) + ssz t.2.1) + 1) + ssz t.2.2)))) hA B (b_V (q := N) (rest := []) ((up_lt (by omega)).trans up_eq) X (c_S_toS l g (N + 1 + 1) (va_up (va_up ad N z1) (N + 1) v7) (va_up (va_up f N (c_sb v7 0 (((((0 + ssz t.1) + 1) + ssz t.2.1) + 1) + ssz t.2.2))) (N + 1) (c_ba g m7 h7)) N (N + 1) z1 v7 (((((0 + ssz t.1) + 1) + ssz t.2.1) + 1) + ssz t.2.2) m7 0 h7 (by omega) (by omega) (by omega) ((up_lt (by omega)).trans up_eq) up_eq ((up_lt (by omega)).trans up_eq) up_eq hF7 (by omega) (by omega) H.size) mw_J4_toString_0e30d md_J4_toString_0e30d rfl lk_X0_73 ⟨Nat.le_of_ble_eq_true rfl, Nat.le_of_ble_eq_true rfl⟩ hA hK hT B (by omega) ((up_lt (by omega)).trans up_eq) rfl rfl hl.1 rfl (Nat.le_of_ble_eq_true rfl) dX0_inSigns_50 (by dsimp only [rm]; omega)) (by dsimp only [rm]; omega) (by dsimp only [rm]; omega) (fun r ad' f' H locs hw B => ?_)
  obtain ⟨a8, a8x, h8, hF8, rfl, rfl, rfl⟩ := hw
  have B : WB g (aw N ad sz) s.heap N ad f H locs := B.drop (by omega) (fun _ hk => ((up_lt (Nat.lt_succ_of_lt (Nat.lt_succ_of_lt (Nat.lt_succ_of_lt hk)))).trans ((up_lt (Nat.lt_succ_of_lt (Nat.lt_succ_of_lt hk))).trans ((up_lt (Nat.lt_succ_of_lt hk)).trans (up_lt hk))))) (fun _ hk => ((up_lt (Nat.lt_succ_of_lt (Nat.lt_succ_of_lt (Nat.lt_succ_of_lt hk)))).trans ((up_lt (Nat.lt_succ_of_lt (Nat.lt_succ_of_lt hk))).trans ((up_lt (Nat.lt_succ_of_lt hk)).trans (up_lt hk)))))
  exact rt_r (r := some a8) rfl X hr (Or.inl ⟨_, rfl⟩) (ad, f) B (PO_of B) ⟨rfl, ⟨_, rfl⟩, rfl⟩ (by dsimp only [rm]; omega) (by dsimp only [rm]; omega) dX0_inSigns_53
end
section
/-! turning a text round -/
def rvi (j : Int32) (c : Nat) : Prop := -1 ≤ j.toInt ∧ j.toInt ≤ (c : Int) - 1
theorem rv_0 {c : Nat} (h : c ≤ 150) : rvi (((nI c - 1) - 1) >>> ((1 : Int32) &&& 31)) c := by
  have k : (List.range 151).all (fun c => decide (-1 ≤ (((nI c - 1) - 1) >>> ((1 : Int32) &&& 31)).toInt ∧ (((nI c - 1) - 1) >>> ((1 : Int32) &&& 31)).toInt ≤ (c : Int) - 1)) = true := by decide +kernel
  unfold rvi
  exact of_decide_eq_true (List.all_eq_true.mp k c (List.mem_range.mpr (by omega)))
theorem rv_nn {j : Int32} (h : ¬ j < 0) : 0 ≤ j.toInt := by
  rw [Int32.lt_iff_toInt_lt, show (0 : Int32).toInt = 0 from rfl] at h
  omega
theorem rv_1 {j : Int32} {c n : Nat} (h : rvi j c) (hj : ¬ j < 0) (hc : c ≤ n) : vp_in j n ∧ j.toNatClampNeg < n := by
  have h1 := rv_nn hj
  have h2 := h.2
  exact in_of (by omega) (by omega)
theorem rv_2 {j : Int32} {c n : Nat} (h : rvi j c) (hj : ¬ j < 0) (hc : c ≤ n) (hn : n ≤ 150) : vp_in ((nI c - 1) - j) n ∧ ((nI c - 1) - j).toNatClampNeg < n := by
  have h1 := rv_nn hj
  have h2 := h.2
  have e1 : (1 : Int32).toInt = 1 := rfl
  have ec : (nI c).toInt = (c : Int) := nI_toInt (by omega)
  have s1 := sub_i (x := nI c) (y := 1) (by omega) (by omega)
  have s2 := sub_i (x := nI c - 1) (y := j) (by omega) (by omega)
  exact in_of (by omega) (by omega)
theorem rv_next {j : Int32} {c : Nat} (h : rvi j c) (hj : ¬ j < 0) : rvi (j + (-1)) c := by
  have h1 := rv_nn hj
  have h2 := h.2
  have e1 : (-1 : Int32).toInt = -1 := rfl
  have hl := Int32.toInt_lt j
  have s1 := add_i (x := j) (y := -1) (by omega) (by omega)
  unfold rvi
  omega
theorem rv_dec {j : Int32} {c k : Nat} (h : rvi j c) (hj : ¬ j < 0) (hn : (j.toInt + 1).toNat < k + 1) : ((j + (-1)).toInt + 1).toNat < k := by
  have h1 := rv_nn hj
  have e1 : (-1 : Int32).toInt = -1 := rfl
  have hl := Int32.toInt_lt j
  have s1 := add_i (x := j) (y := -1) (by omega) (by omega)
  omega
end
section
def wJ5_reverse_278bc_28 (cnt : Nat) : Nat → Int32 → (Nat → Int32) → (Nat → Int32)
  | 0, jj, bt9 => bt9
  | n + 1, jj, bt9 => if jj < 0 then bt9 else (wJ5_reverse_278bc_28 cnt n (jj + (-1)) (upd (upd bt9 jj.toNatClampNeg (vp_nar .byte (bt9 ((((nI cnt) - 1) - jj).toNatClampNeg)))) ((((nI cnt) - 1) - jj).toNatClampNeg) (vp_nar .byte (bt9 jj.toNatClampNeg))))
def v_J5_reverse_278bc (bt : Nat → Int32) (cnt : Nat) : (Nat → Int32) := wJ5_reverse_278bc_28 cnt ((((((nI cnt) - 1) - 1) >>> (1 &&& 31)).toInt + 1).toNat + 1) ((((nI cnt) - 1) - 1) >>> (1 &&& 31)) bt
set_option maxHeartbeats 4000000 in
set_option maxRecDepth 100000 in
theorem c_J5_reverse_278bc (l : Launch) (g : GG) (N : Nat) (ad : Nat → Nat) (f : Nat → va_E) (qs qb bs b cnt n : Nat) (ml : Int32) (bt : Nat → Int32) (hqs : qs < N) (hqb : qb < N) (hne : qs ≠ qb) (hbs : ad qs = bs) (hbb : ad qb = b) (hfs : f qs = c_sb b ml cnt) (hfb : f qb = .inl (g.2.1 1, n, .inl bt)) (hF : sb_Fit bt) (hcn : cnt ≤ n) (hn : n ≤ 150) : KR l yJ5_reverse_278bc cJ5_reverse_278bc 7 (.object "java/lang/AbstractStringBuilder") (rm 1 0 0) g [.ref bs] N ad f N (fun r ad' f' => ad = ad' ∧ some bs = r ∧ va_up f qb (.inl (g.2.1 1, n, .inl (v_J5_reverse_278bc bt cnt))) = f') := by
  intro sz
  refine mt_start (by decide) (Nat.le_of_ble_eq_true rfl) ?_
  intro p e s m args below meth c hsz X hr hnam hA hK hT H locs B ls hl
  obtain ⟨hx, hb, hml, hown, hts, hlocks⟩ := id X
  have hl : lv_has ls 7 [(0, .ref bs)] := hl
  have B : WB g (aw N ad sz) s.heap N ad (va_up f qb (.inl (g.2.1 1, n, .inl bt))) H locs := WB.cast B (fun k _ => up_id hfb k)
  refine lv_aload_n hx hb dJ5_reverse_278bc_0 rfl (lv_at hl 0 rfl) ?_
  refine b_get (q := qs) (k := 0) hbs X hK B rfl in_J4 hqs ((va_up_ne _ _ hne).trans hfs) (by decide) lk_J5_15 rfl rfl dJ5_reverse_278bc_1 ?_
  refine lv_astore_n (lv' := [(1, .ref b), (0, .ref bs)]) hx hb dJ5_reverse_278bc_4 rfl hl (by decide) rfl (fun ls hl => ?_)
  refine lv_aload_n hx hb dJ5_reverse_278bc_5 rfl (lv_at hl 1 rfl) ?_
  refine b_get (q := qs) (k := 3) hbs X hK B rfl in_J4 hqs ((va_up_ne _ _ hne).trans hfs) (by decide) lk_J5_79 rfl rfl dJ5_reverse_278bc_6 ?_
  refine lv_istore_n (lv' := [(2, .int (nI cnt)), (1, .ref b), (0, .ref bs)]) hx hb dJ5_reverse_278bc_9 rfl hl (by decide) rfl (fun ls hl => ?_)
  refine lv_iload_n hx hb dJ5_reverse_278bc_10 rfl (lv_at hl 0 rfl) ?_
  refine lv_iconst (v := 1) hx hb dJ5_reverse_278bc_11 (by decide) ?_
  refine lv_isub hx hb dJ5_reverse_278bc_12 ?_
  refine lv_istore_n (lv' := [(3, .int ((nI cnt) - 1)), (2, .int (nI cnt)), (1, .ref b), (0, .ref bs)]) hx hb dJ5_reverse_278bc_13 rfl hl (by decide) rfl (fun ls hl => ?_)
  refine lv_aload_n hx hb dJ5_reverse_278bc_14 rfl (lv_at hl 3 rfl) ?_
  refine k_i (k := 0) (n := 0) hA B (u_H (x := yJ5_isLatin1_aae02) (q := qs) (rest := []) hbs X (c_S_lat l g N ad (va_up f qb (.inl (g.2.1 1, n, .inl bt))) qs qb bs b cnt n ml bt hqs hqb hne hbs hbb ((va_up_ne _ _ hne).trans hfs) (va_up_self _ _ _) hF H.size) mc_J5_isLatin1_aae02 ⟨mc_J5_isLatin1_aae02.1, mc_J5_isLatin1_aae02.2.1⟩ (tb_in (lw_at 191 (by decide +kernel)) rfl) (tb_in (lw_at 192 (by decide +kernel)) rfl) md_J5_isLatin1_aae02 rfl lk_J5_83 ⟨Nat.le_of_ble_eq_true rfl, Nat.le_of_ble_eq_true rfl⟩ hA hK hT B hqs ((va_up_ne _ _ hne).trans hfs) hl.1 rfl (Nat.le_of_ble_eq_true rfl) dJ5_reverse_278bc_15 ⟨Nat.le_of_ble_eq_true rfl, Nat.le_of_ble_eq_true rfl⟩) (Nat.le_of_ble_eq_true rfl) (Nat.le_of_ble_eq_true rfl) (fun r ad' f' H locs hw B => ?_)
  obtain ⟨rfl, rfl, rfl⟩ := hw
  refine lv_if_eq (tgt := 68) hx hb dJ5_reverse_278bc_18 (by decide) (fun z => absurd z (by decide)) (fun _ => ?_)
  refine lv_iload_n hx hb dJ5_reverse_278bc_21 rfl (lv_at hl 0 rfl) ?_
  refine lv_iconst (v := 1) hx hb dJ5_reverse_278bc_22 (by decide) ?_
  refine lv_isub hx hb dJ5_reverse_278bc_23 ?_
  refine lv_iconst (v := 1) hx hb dJ5_reverse_278bc_24 (by decide) ?_
  refine lv_ishr hx hb dJ5_reverse_278bc_25 ?_
  refine lv_istore (lv' := [(4, .int ((((nI cnt) - 1) - 1) >>> (1 &&& 31))), (3, .int ((nI cnt) - 1)), (2, .int (nI cnt)), (1, .ref b), (0, .ref bs)]) hx hb dJ5_reverse_278bc_26 hl (by decide) rfl (fun ls hl => ?_)
  have hl : lv_has ls 7 [(0, .ref bs), (1, .ref b), (2, .int (nI cnt)), (3, .int ((nI cnt) - 1)), (4, .int ((((nI cnt) - 1) - 1) >>> (1 &&& 31)))] := lv_sub hl [4, 3, 2, 1, 0] rfl
  have loop1 : ∀ (n1 : Nat) (jj : Int32) (bt9 : Nat → Int32) (H : Heap) (locs : List Loc), (jj.toInt + 1).toNat < n1 → v_J5_reverse_278bc bt cnt = wJ5_reverse_278bc_28 cnt n1 jj bt9 → rvi jj cnt → WB g (aw N ad sz) s.heap N ad (va_up f qb (.inl (g.2.1 1, n, .inl bt9))) H locs → ∀ ls : Array Slot, lv_has ls 7 [(0, .ref bs), (1, .ref b), (2, .int (nI cnt)), (3, .int ((nI cnt) - 1)), (4, .int jj)] → W p l e (rm 1 0 0) s m args below meth c H locs 0 0 (MQ below (va_Qq (fun r (u : WS) => (fun r ad' f' => ad = ad' ∧ some bs = r ∧ va_up f qb (.inl (g.2.1 1, n, .inl (v_J5_reverse_278bc bt cnt))) = f') r u.1 u.2) (fun u t => PO g N u.1 u.2 (aw N ad sz) t) (aw N ad sz)) args s (rm 1 0 0).cells (rm 1 0 0).slots (aw N ad sz)) (F0 m 28 ls []) := by
    intro n1
    induction n1 with
    | zero => intro jj bt9 H locs hn; exact absurd hn (Nat.not_lt_zero _)
    | succ n1 ih1 =>
      intro jj bt9 H locs hn1 he1 hj B ls hl
      refine lv_iload hx hb dJ5_reverse_278bc_28 (lv_at hl 4 rfl) ?_
      refine lv_if_lt (tgt := 65) hx hb dJ5_reverse_278bc_30 (by decide) (fun c2 => ?_) (fun c2 => ?_)
      · refine lv_goto (tgt := 73) hx hb dJ5_reverse_278bc_65 (by decide) ?_
        refine lv_aload_n hx hb dJ5_reverse_278bc_73 rfl (lv_at hl 0 rfl) ?_
        have ev := (show v_J5_reverse_278bc bt cnt = bt9 from he1.trans (by rw [wJ5_reverse_278bc_28, if_pos c2]))
        exact rt_r (r := some bs) rfl X hr (Or.inl ⟨_, rfl⟩) (ad, va_up f qb (.inl (g.2.1 1, n, .inl bt9))) B (PO_of B) ⟨rfl, rfl, by rw [ev]⟩ (Nat.le_of_ble_eq_true rfl) (Nat.le_of_ble_eq_true rfl) dJ5_reverse_278bc_74
      · refine lv_iload_n hx hb dJ5_reverse_278bc_33 rfl (lv_at hl 3 rfl) ?_
        refine lv_iload hx hb dJ5_reverse_278bc_34 (lv_at hl 4 rfl) ?_
        refine lv_isub hx hb dJ5_reverse_278bc_36 ?_
        refine lv_istore (lv' := [(5, .int (((nI cnt) - 1) - jj)), (0, .ref bs), (1, .ref b), (2, .int (nI cnt)), (3, .int ((nI cnt) - 1)), (4, .int jj)]) hx hb dJ5_reverse_278bc_37 hl (by decide) rfl (fun ls hl => ?_)
        refine lv_aload_n hx hb dJ5_reverse_278bc_39 rfl (lv_at hl 2 rfl) ?_
        refine lv_iload hx hb dJ5_reverse_278bc_40 (lv_at hl 5 rfl) ?_
        refine b_bald (q := qb) hbb X hK B hqb (va_up_self _ _ _) (rv_1 hj c2 hcn).1 dJ5_reverse_278bc_42 ?_
        refine lv_istore (lv' := [(6, .int (bt9 jj.toNatClampNeg)), (5, .int (((nI cnt) - 1) - jj)), (0, .ref bs), (1, .ref b), (2, .int (nI cnt)), (3, .int ((nI cnt) - 1)), (4, .int jj)]) hx hb dJ5_reverse_278bc_43 hl (by decide) rfl (fun ls hl => ?_)
        refine lv_aload_n hx hb dJ5_reverse_278bc_45 rfl (lv_at hl 3 rfl) ?_
        refine lv_iload hx hb dJ5_reverse_278bc_46 (lv_at hl 6 rfl) ?_
        refine lv_aload_n hx hb dJ5_reverse_278bc_48 rfl (lv_at hl 3 rfl) ?_
        refine lv_iload hx hb dJ5_reverse_278bc_49 (lv_at hl 1 rfl) ?_
        refine b_bald (q := qb) hbb X hK B hqb (va_up_self _ _ _) (rv_2 hj c2 hcn hn).1 dJ5_reverse_278bc_51 ?_
        refine b_bast (q := qb) hbb X hK B hqb (va_up_self _ _ _) (rv_1 hj c2 hcn).1 dJ5_reverse_278bc_52 (fun H locs B => ?_)
        rw [bx_uu] at B
        refine lv_aload_n hx hb dJ5_reverse_278bc_53 rfl (lv_at hl 3 rfl) ?_
        refine lv_iload hx hb dJ5_reverse_278bc_54 (lv_at hl 1 rfl) ?_
        refine lv_iload hx hb dJ5_reverse_278bc_56 (lv_at hl 0 rfl) ?_
        refine b_bast (q := qb) hbb X hK B hqb (va_up_self _ _ _) (rv_2 hj c2 hcn hn).1 dJ5_reverse_278bc_58 (fun H locs B => ?_)
        rw [bx_uu] at B
        refine lv_iinc (v := jj + (-1)) (lv' := [(4, .int (jj + (-1))), (6, .int (bt9 jj.toNatClampNeg)), (5, .int (((nI cnt) - 1) - jj)), (0, .ref bs), (1, .ref b), (2, .int (nI cnt)), (3, .int ((nI cnt) - 1))]) hx hb dJ5_reverse_278bc_59 hl (k := 6) rfl rfl (by decide) rfl (fun ls hl => ?_)
        refine lv_goto (tgt := 28) hx hb dJ5_reverse_278bc_62 (by decide) ?_
        exact ih1 (jj + (-1)) (upd (upd bt9 jj.toNatClampNeg (vp_nar .byte (bt9 ((((nI cnt) - 1) - jj).toNatClampNeg)))) ((((nI cnt) - 1) - jj).toNatClampNeg) (vp_nar .byte (bt9 jj.toNatClampNeg))) H locs (rv_dec hj c2 hn1) (show v_J5_reverse_278bc bt cnt = wJ5_reverse_278bc_28 cnt n1 (jj + (-1)) (upd (upd bt9 jj.toNatClampNeg (vp_nar .byte (bt9 ((((nI cnt) - 1) - jj).toNatClampNeg)))) ((((nI cnt) - 1) - jj).toNatClampNeg) (vp_nar .byte (bt9 jj.toNatClampNeg))) from he1.trans (by rw [wJ5_reverse_278bc_28, if_neg c2])) (rv_next hj c2) B ls (lv_sub hl [3, 4, 5, 6, 0] rfl)
  exact loop1 ((((((nI cnt) - 1) - 1) >>> (1 &&& 31)).toInt + 1).toNat + 1) ((((nI cnt) - 1) - 1) >>> (1 &&& 31)) bt H locs (Nat.lt_succ_self _) (show v_J5_reverse_278bc bt cnt = wJ5_reverse_278bc_28 cnt ((((((nI cnt) - 1) - 1) >>> (1 &&& 31)).toInt + 1).toNat + 1) ((((nI cnt) - 1) - 1) >>> (1 &&& 31)) bt from rfl) (rv_0 (by omega)) B ls hl
end
section
theorem fitR {c : Nat} : ∀ (n : Nat) (j : Int32) (bt : Nat → Int32), sb_Fit bt → sb_Fit (wJ5_reverse_278bc_28 c n j bt) := by
  intro n
  induction n with
  | zero => intro j bt h; exact h
  | succ n ih =>
    intro j bt h
    rw [wJ5_reverse_278bc_28]
    by_cases c1 : j < 0
    · rw [if_pos c1]; exact h
    · rw [if_neg c1]; exact ih _ _ (sb_fitU (sb_fitU h (fit_nar _)) (fit_nar _))
theorem fitRv {bt : Nat → Int32} {c : Nat} (h : sb_Fit bt) : sb_Fit (v_J5_reverse_278bc bt c) := fitR _ _ _ h
/-- a digit is a letter -/
theorem rem_b (x : Int64) : -9 ≤ (x - x / 10 * 10).toInt ∧ (x - x / 10 * 10).toInt ≤ 9 := by
  have hl := Int64.le_toInt x
  have hr := Int64.toInt_lt x
  have e10 : (10 : Int64).toInt = 10 := rfl
  by_cases c : 0 ≤ x.toInt
  · have ed : (x / 10).toInt = x.toInt / 10 := by
      rw [Int64.toInt_div, e10, Int.tdiv_eq_ediv_of_nonneg c, Int.bmod_eq_of_le (by omega) (by omega)]
    have em : (x / 10 * 10).toInt = x.toInt / 10 * 10 := by
      rw [Int64.toInt_mul, ed, e10, Int.bmod_eq_of_le (by omega) (by omega)]
    rw [sub_l (by omega) (by omega), em]
    omega
  · obtain ⟨w, hw⟩ : ∃ w : Nat, x.toInt = -(w : Int) := ⟨x.toInt.natAbs, by omega⟩
    have e : (w : Int).tdiv 10 = (w : Int) / 10 := Int.tdiv_eq_ediv_of_nonneg (by omega)
    have ed : (x / 10).toInt = -((w : Int) / 10) := by
      rw [Int64.toInt_div, e10, hw, Int.neg_tdiv, e, Int.bmod_eq_of_le (by omega) (by omega)]
    have em : (x / 10 * 10).toInt = -((w : Int) / 10) * 10 := by
      rw [Int64.toInt_mul, ed, e10, Int.bmod_eq_of_le (by omega) (by omega)]
    rw [sub_l (by omega) (by omega), em, hw]
    omega
theorem dig_ok (x : Int64) : ¬ 255 < ((48 + (x - x / 10 * 10)).toInt32.toUInt32 % 65536).toInt32 := by
  have b := rem_b x
  generalize x - x / 10 * 10 = y at b
  have e48 : (48 : Int64).toInt = 48 := rfl
  have e : (48 + y).toInt = 48 + y.toInt := by
    rw [add_l (by omega) (by omega), e48]
  have e3 : (48 + y).toInt32.toInt = 48 + y.toInt := by
    rw [Int64.toInt_toInt32, Int.bmod_eq_of_le (by omega) (by omega), e]
  obtain ⟨k, hk⟩ : ∃ k : Nat, 48 + y.toInt = (k : Int) := ⟨(48 + y.toInt).toNat, by omega⟩
  have ek : (48 + y).toInt32 = nI k := Int32.toInt_inj.mp (by rw [e3, nI_toInt (by omega), hk])
  obtain ⟨-, h2, h3⟩ := sb_byte k (by omega)
  rw [ek, h2]
  exact Int32.not_lt.mpr h3
theorem dig_lt {n : Nat} (h : n ≤ 11) (c : ¬ 11 ≤ nI n) : n < 11 := by
  rcases Nat.lt_or_ge n 11 with q | q
  · exact q
  · exact absurd (nI_le (a := 11) (b := n) q (by omega)) c
end
section
set_option maxHeartbeats 4000000 in
theorem c_S_rev (l : Launch) (g : GG) (N : Nat) (ad : Nat → Nat) (f : Nat → va_E) (qs qv bs v n m : Nat) (ml : Int32) (h : Nat → Int32) (hqs : qs < N) (hqv : qv < N) (hne : qs ≠ qv) (hbs : ad qs = bs) (hbv : ad qv = v) (hfs : f qs = c_sb v ml n) (hfv : f qv = c_ba g m h) (hF : sb_Fit h) (hnm : n ≤ m) (hm : m ≤ 150) : KR l yJ4_reverse_43fcb cJ4_reverse_43fcb 1 (.object "java/lang/StringBuilder") (rm 2 0 0) g [.ref bs] N ad f N (fun r ad' f' => ∃ h' : Nat → Int32, sb_Fit h' ∧ some bs = r ∧ ad = ad' ∧ va_up f qv (c_ba g m h') = f') := by
  intro sz
  refine mt_start (by decide) (Nat.le_of_ble_eq_true rfl) ?_
  intro p e0 s m9 args below meth c hsz X hr hnam hA hK hT H locs B ls hl
  obtain ⟨hx, hb, hml, hown, hts, hlocks⟩ := id X
  have hl : lv_has ls 1 [(0, .ref bs)] := hl
  refine lv_aload_n hx hb dJ4_reverse_43fcb_0 rfl (lv_at hl 0 rfl) ?_
  refine k_r (k := (0)) (n := (0)) hA B (u_U (q := qs) (rest := []) hbs rfl X (c_J5_reverse_278bc l g N ad f qs qv bs v n m ml h hqs hqv hne hbs hbv hfs hfv hF hnm hm H.size) mc_J5_reverse_278bc (by decide) rfl md_J5_reverse_278bc rfl lk_J4_127 ⟨Nat.le_of_ble_eq_true rfl, Nat.le_of_ble_eq_true rfl⟩ hA hK hT B hqs hfs hl.1 rfl (Nat.le_of_ble_eq_true rfl) dJ4_reverse_43fcb_1 (by dsimp only [rm]; omega)) (by dsimp only [rm]; omega) (by dsimp only [rm]; omega) (fun r ad' f' H locs hw B => ?_)
  obtain ⟨rfl, rfl, rfl⟩ := hw
  refine lv_pop hx hb dJ4_reverse_43fcb_4 rfl ?_
  refine lv_aload_n hx hb dJ4_reverse_43fcb_5 rfl (lv_at hl 0 rfl) ?_
  exact rt_r (r := some bs) rfl X hr (Or.inl ⟨_, rfl⟩) (ad, va_up f qv (c_ba g m (v_J5_reverse_278bc h n))) B (PO_of B) ⟨_, fitRv hF, rfl, rfl, rfl⟩ (by dsimp only [rm]; omega) (by dsimp only [rm]; omega) dJ4_reverse_43fcb_6
set_option maxHeartbeats 4000000 in
theorem c_W_inN (l : Launch) (g : GG) (N : Nat) (ad : Nat → Nat) (f : Nat → va_E) (b0 : Int64) : KR l yX2_numberInSigns cX2_numberInSigns 6 (.object "java/lang/String") (rm 6 4 40) g [.long b0] N ad f N (fun r ad' f' => ad = ad' ∧ (∃ a : Nat, some a = r) ∧ f = f') := by
  intro sz
  refine mt_start (by decide) (Nat.le_of_ble_eq_true rfl) ?_
  intro p e0 s m9 args below meth c hsz X hr hnam hA hK hT H locs B ls hl
  obtain ⟨hx, hb, hml, hown, hts, hlocks⟩ := id X
  have hl : lv_has ls 6 [(0, .long b0)] := hl
  refine g_new (ci := 1) (fs := [.null, .int 0, .int 0, .int 0]) (k1 := ((0) + 1)) (k2 := ((0) + 4)) X hA hK B rfl in_J4 tyJ4_ok lk_X2_264 (tb_in (lw_at 113 (by decide +kernel)) rfl) ii_J4 (by decide +kernel) (by dsimp only [rm]; omega) (by dsimp only [rm]; omega) (Nat.le_refl _) (Nat.le_refl _) dX2_numberInSigns_0 (fun z1 H B => ?_)
  refine W.widen (show ((0) + 1) ≤ (1) by omega) (show ((0) + 4) ≤ (4) by omega) ?_
  refine lv_dup hx hb dX2_numberInSigns_3 rfl ?_
  refine k_v (k := (2)) (n := (20)) hA B (b_I (rest := [.ref z1]) X (c_S_new l g (N + 1) (va_up ad N z1) (va_up f N (.inr (1, [.null, .int 0, .int 0, .int 0]))) N z1 (Nat.lt_succ_self _) up_eq up_eq H.size) mw_J4_init_da8c8 rfl md_J4_init_da8c8 rfl lk_X2_266 ⟨Nat.le_of_ble_eq_true rfl, Nat.le_of_ble_eq_true rfl⟩ hA hK hT B hl.1 rfl (Nat.le_of_ble_eq_true rfl) dX2_numberInSigns_4 (by dsimp only [rm]; omega)) (by dsimp only [rm]; omega) (by dsimp only [rm]; omega) (fun ad' f' H locs hw B => ?_)
  obtain ⟨v2, rfl, rfl⟩ := hw
  rw [bx_uu] at B
  have B : WB g (aw N ad sz) s.heap (N + 1 + 1) (va_up (va_up ad N z1) (N + 1) v2) (va_up (va_up f N (c_sb v2 0 0)) (N + 1) (c_ba g 16 (fun _ => 0))) H locs := B
  refine lv_astore_n (lv' := [(2, .ref z1), (0, .long b0)]) hx hb dX2_numberInSigns_7 rfl hl (by decide) rfl (fun ls hl => ?_)
  refine lv_lload_n hx hb dX2_numberInSigns_8 rfl (lv_at hl 1 rfl) ?_
  refine lv_lconst (v := 0) hx hb dX2_numberInSigns_9 (by decide) ?_
  refine W.lcmp hx hb dX2_numberInSigns_10 ?_
  refine lv_if_ge (tgt := 19) hx hb dX2_numberInSigns_11 (by decide) (fun c3 => ?_) (fun c3 => ?_)
  · refine lv_lload_n hx hb dX2_numberInSigns_19 rfl (lv_at hl 1 rfl) ?_
    refine lv_lstore_n (lv' := [(3, .long b0), (2, .ref z1), (0, .long b0)]) hx hb dX2_numberInSigns_20 rfl hl (by decide) rfl (fun ls hl => ?_)
    refine lv_iconst (v := 0) hx hb dX2_numberInSigns_21 (by decide) ?_
    refine lv_istore (lv' := [(5, .int 0), (3, .long b0), (2, .ref z1), (0, .long b0)]) hx hb dX2_numberInSigns_22 hl (by decide) rfl (fun ls hl => ?_)
    have loop4 : ∀ (n1 : Nat) (xx : Int64) (n v : Nat) (h : Nat → Int32) (H : Heap) (locs : List Loc), 11 - n < n1 → n ≤ 11 → sb_Fit h → WB g (aw N ad sz) s.heap (N + 1 + 1) (va_up (va_up ad N z1) (N + 1) v) (va_up (va_up f N (c_sb v 0 n)) (N + 1) (c_ba g 16 h)) H locs → ∀ ls : Array Slot, lv_has ls 6 [(0, .long b0), (2, .ref z1), (3, .long xx), (5, .int (nI n))] → W p l e0 (rm 6 4 40) s m9 args below meth c H locs (2) (20) (MQ below (va_Qq (fun r (u : WS) => (fun r ad' f' => ad = ad' ∧ (∃ a : Nat, some a = r) ∧ f = f') r u.1 u.2) (fun u t => PO g N u.1 u.2 (aw N ad sz) t) (aw N ad sz)) args s (rm 6 4 40).cells (rm 6 4 40).slots (aw N ad sz)) (F0 m9 24 ls []) := by
      intro n1
      induction n1 with
      | zero => intro xx n v h H locs hn; exact absurd hn (Nat.not_lt_zero _)
      | succ n1 ih1 =>
        intro xx n v h H locs hn hn11 hF B ls hl
        refine lv_iload hx hb dX2_numberInSigns_24 (lv_at hl 3 rfl) ?_
        refine lv_bipush (v := 11) hx hb dX2_numberInSigns_26 (by decide) ?_
        refine lv_icmp_ge (tgt := 70) hx hb dX2_numberInSigns_28 (by decide) (fun c5 => ?_) (fun c5 => ?_)
        · refine lv_lload_n hx hb dX2_numberInSigns_70 rfl (lv_at hl 0 rfl) ?_
          refine lv_lconst (v := 0) hx hb dX2_numberInSigns_71 (by decide) ?_
          refine W.lcmp hx hb dX2_numberInSigns_72 ?_
          refine lv_if_ge (tgt := 83) hx hb dX2_numberInSigns_73 (by decide) (fun c6 => ?_) (fun c6 => ?_)
          · refine lv_aload_n hx hb dX2_numberInSigns_83 rfl (lv_at hl 1 rfl) ?_
            refine k_r (k := (2)) (n := (20)) hA B (b_V (q := N) (rest := []) ((up_lt (by omega)).trans up_eq) X (c_S_rev l g (N + 1 + 1) (va_up (va_up ad N z1) (N + 1) v) (va_up (va_up f N (c_sb v 0 n)) (N + 1) (c_ba g 16 h)) N (N + 1) z1 v n 16 0 h (by omega) (by omega) (by omega) ((up_lt (by omega)).trans up_eq) up_eq ((up_lt (by omega)).trans up_eq) up_eq hF (by omega) (by omega) H.size) mw_J4_reverse_43fcb md_J4_reverse_43fcb rfl lk_X2_275 ⟨Nat.le_of_ble_eq_true rfl, Nat.le_of_ble_eq_true rfl⟩ hA hK hT B (by omega) ((up_lt (by omega)).trans up_eq) rfl rfl hl.1 rfl (Nat.le_of_ble_eq_true rfl) dX2_numberInSigns_84 (by dsimp only [rm]; omega)) (by dsimp only [rm]; omega) (by dsimp only [rm]; omega) (fun r ad' f' H locs hw B => ?_)
            obtain ⟨h7, hF7, rfl, rfl, rfl⟩ := hw
            rw [bx_uu] at B
            have B : WB g (aw N ad sz) s.heap (N + 1 + 1) (va_up (va_up ad N z1) (N + 1) v) (va_up (va_up f N (c_sb v 0 n)) (N + 1) (c_ba g 16 h7)) H locs := B
            refine lv_pop hx hb dX2_numberInSigns_87 rfl ?_
            refine lv_aload_n hx hb dX2_numberInSigns_88 rfl (lv_at hl 1 rfl) ?_
            refine k_r (k := (4)) (n := (20 + (4 + n))) hA B (b_V (q := N) (rest := []) ((up_lt (by omega)).trans up_eq) X (c_S_toS l g (N + 1 + 1) (va_up (va_up ad N z1) (N + 1) v) (va_up (va_up f N (c_sb v 0 n)) (N + 1) (c_ba g 16 h7)) N (N + 1) z1 v n 16 0 h7 (by omega) (by omega) (by omega) ((up_lt (by omega)).trans up_eq) up_eq ((up_lt (by omega)).trans up_eq) up_eq hF7 (by omega) (by omega) H.size) mw_J4_toString_0e30d md_J4_toString_0e30d rfl lk_X2_279 ⟨Nat.le_of_ble_eq_true rfl, Nat.le_of_ble_eq_true rfl⟩ hA hK hT B (by omega) ((up_lt (by omega)).trans up_eq) rfl rfl hl.1 rfl (Nat.le_of_ble_eq_true rfl) dX2_numberInSigns_89 (by dsimp only [rm]; omega)) (by dsimp only [rm]; omega) (by dsimp only [rm]; omega) (fun r ad' f' H locs hw B => ?_)
            obtain ⟨a8, a8x, h8, hF8, rfl, rfl, rfl⟩ := hw
            have B : WB g (aw N ad sz) s.heap N ad f H locs := B.drop (by omega) (fun _ hk => ((up_lt (Nat.lt_succ_of_lt (Nat.lt_succ_of_lt (Nat.lt_succ_of_lt hk)))).trans ((up_lt (Nat.lt_succ_of_lt (Nat.lt_succ_of_lt hk))).trans ((up_lt (Nat.lt_succ_of_lt hk)).trans (up_lt hk))))) (fun _ hk => ((up_lt (Nat.lt_succ_of_lt (Nat.lt_succ_of_lt (Nat.lt_succ_of_lt hk)))).trans ((up_lt (Nat.lt_succ_of_lt (Nat.lt_succ_of_lt hk))).trans ((up_lt (Nat.lt_succ_of_lt hk)).trans (up_lt hk)))))
            exact rt_r (r := some a8) rfl X hr (Or.inl ⟨_, rfl⟩) (ad, f) B (PO_of B) ⟨rfl, ⟨_, rfl⟩, rfl⟩ (by dsimp only [rm]; omega) (by dsimp only [rm]; omega) dX2_numberInSigns_92
          · refine lv_aload_n hx hb dX2_numberInSigns_76 rfl (lv_at hl 1 rfl) ?_
            refine lv_bipush (v := 45) hx hb dX2_numberInSigns_77 (by decide) ?_
            obtain ⟨e9a, e9b, e9c⟩ := g_no (q := (n + 1)) (m := 16) (by omega)
            refine k_r (k := (2)) (n := (20)) hA B (b_V (q := N) (rest := []) ((up_lt (by omega)).trans up_eq) X (c_S_appC l g (N + 1 + 1) (va_up (va_up ad N z1) (N + 1) v) (va_up (va_up f N (c_sb v 0 n)) (N + 1) (c_ba g 16 h)) N (N + 1) z1 v n 16 0 h (by omega) (by omega) (by omega) ((up_lt (by omega)).trans up_eq) up_eq ((up_lt (by omega)).trans up_eq) up_eq hF (by omega) (by omega) 45 (by decide) H.size) mw_J4_append_cf468 md_J4_append_cf468 rfl lk_X2_271 ⟨Nat.le_of_ble_eq_true rfl, Nat.le_of_ble_eq_true rfl⟩ hA hK hT B (by omega) ((up_lt (by omega)).trans up_eq) rfl rfl hl.1 rfl (Nat.le_of_ble_eq_true rfl) dX2_numberInSigns_79 (by dsimp only [rm]; omega)) (by dsimp only [rm]; omega) (by dsimp only [rm]; omega) (fun r ad' f' H locs hw B => ?_)
            obtain ⟨v9, h9, hF9, rfl, rfl, rfl⟩ := hw
            rw [bx_uu, sw_4 (by omega), e9a] at B
            have B : WB g (aw N ad sz) s.heap (N + 1 + 1) (va_up (va_up ad N z1) (N + 1) v9) (va_up (va_up f N (c_sb v9 0 (n + 1))) (N + 1) (c_ba g 16 h9)) H locs := B
            refine lv_pop hx hb dX2_numberInSigns_82 rfl ?_
            refine lv_aload_n hx hb dX2_numberInSigns_83 rfl (lv_at hl 1 rfl) ?_
            refine k_r (k := (2)) (n := (20)) hA B (b_V (q := N) (rest := []) ((up_lt (by omega)).trans up_eq) X (c_S_rev l g (N + 1 + 1) (va_up (va_up ad N z1) (N + 1) v9) (va_up (va_up f N (c_sb v9 0 (n + 1))) (N + 1) (c_ba g 16 h9)) N (N + 1) z1 v9 (n + 1) 16 0 h9 (by omega) (by omega) (by omega) ((up_lt (by omega)).trans up_eq) up_eq ((up_lt (by omega)).trans up_eq) up_eq hF9 (by omega) (by omega) H.size) mw_J4_reverse_43fcb md_J4_reverse_43fcb rfl lk_X2_275 ⟨Nat.le_of_ble_eq_true rfl, Nat.le_of_ble_eq_true rfl⟩ hA hK hT B (by omega) ((up_lt (by omega)).trans up_eq) rfl rfl hl.1 rfl (Nat.le_of_ble_eq_true rfl) dX2_numberInSigns_84 (by dsimp only [rm]; omega)) (by dsimp only [rm]; omega) (by dsimp only [rm]; omega) (fun r ad' f' H locs hw B => ?_)
            obtain ⟨h10, hF10, rfl, rfl, rfl⟩ := hw
            rw [bx_uu] at B
            have B : WB g (aw N ad sz) s.heap (N + 1 + 1) (va_up (va_up ad N z1) (N + 1) v9) (va_up (va_up f N (c_sb v9 0 (n + 1))) (N + 1) (c_ba g 16 h10)) H locs := B
            refine lv_pop hx hb dX2_numberInSigns_87 rfl ?_
            refine lv_aload_n hx hb dX2_numberInSigns_88 rfl (lv_at hl 1 rfl) ?_
            refine k_r (k := (4)) (n := (20 + (4 + (n + 1)))) hA B (b_V (q := N) (rest := []) ((up_lt (by omega)).trans up_eq) X (c_S_toS l g (N + 1 + 1) (va_up (va_up ad N z1) (N + 1) v9) (va_up (va_up f N (c_sb v9 0 (n + 1))) (N + 1) (c_ba g 16 h10)) N (N + 1) z1 v9 (n + 1) 16 0 h10 (by omega) (by omega) (by omega) ((up_lt (by omega)).trans up_eq) up_eq ((up_lt (by omega)).trans up_eq) up_eq hF10 (by omega) (by omega) H.size) mw_J4_toString_0e30d md_J4_toString_0e30d rfl lk_X2_279 ⟨Nat.le_of_ble_eq_true rfl, Nat.le_of_ble_eq_true rfl⟩ hA hK hT B (by omega) ((up_lt (by omega)).trans up_eq) rfl rfl hl.1 rfl (Nat.le_of_ble_eq_true rfl) dX2_numberInSigns_89 (by dsimp only [rm]; omega)) (by dsimp only [rm]; omega) (by dsimp only [rm]; omega) (fun r ad' f' H locs hw B => ?_)
            obtain ⟨a11, a11x, h11, hF11, rfl, rfl, rfl⟩ := hw
            have B : WB g (aw N ad sz) s.heap N ad f H locs := B.drop (by omega) (fun _ hk => ((up_lt (Nat.lt_succ_of_lt (Nat.lt_succ_of_lt (Nat.lt_succ_of_lt hk)))).trans ((up_lt (Nat.lt_succ_of_lt (Nat.lt_succ_of_lt hk))).trans ((up_lt (Nat.lt_succ_of_lt hk)).trans (up_lt hk))))) (fun _ hk => ((up_lt (Nat.lt_succ_of_lt (Nat.lt_succ_of_lt (Nat.lt_succ_of_lt hk)))).trans ((up_lt (Nat.lt_succ_of_lt (Nat.lt_succ_of_lt hk))).trans ((up_lt (Nat.lt_succ_of_lt hk)).trans (up_lt hk)))))
            exact rt_r (r := some a11) rfl X hr (Or.inl ⟨_, rfl⟩) (ad, f) B (PO_of B) ⟨rfl, ⟨_, rfl⟩, rfl⟩ (by dsimp only [rm]; omega) (by dsimp only [rm]; omega) dX2_numberInSigns_92
        · refine lv_iload hx hb dX2_numberInSigns_31 (lv_at hl 3 rfl) ?_
          refine lv_if_eq (tgt := 42) hx hb dX2_numberInSigns_33 (by decide) (fun c12 => ?_) (fun c12 => ?_)
          · refine lv_aload_n hx hb dX2_numberInSigns_42 rfl (lv_at hl 1 rfl) ?_
            refine lv_ldc2 hx hb hown (hts _ (List.mem_cons_of_mem _ lk_X2_267)) dX2_numberInSigns_43 ?_
            refine lv_lload_n hx hb dX2_numberInSigns_46 rfl (lv_at hl 2 rfl) ?_
            refine lv_ldc2 hx hb hown (hts _ (List.mem_cons_of_mem _ lk_X2_269)) dX2_numberInSigns_47 ?_
            refine lv_lrem hx hb dX2_numberInSigns_50 (by decide) ?_
            refine lv_ladd hx hb dX2_numberInSigns_51 ?_
            refine lv_l2i (v := (48 + (xx - xx / 10 * 10)).toInt32) hx hb dX2_numberInSigns_52 rfl ?_
            refine lv_i2c (v := (((48 + (xx - xx / 10 * 10)).toInt32).toUInt32 % 65536).toInt32) hx hb dX2_numberInSigns_53 rfl ?_
            obtain ⟨e13a, e13b, e13c⟩ := g_no (q := (n + 1)) (m := 16) (by omega)
            refine k_r (k := (2)) (n := (20)) hA B (b_V (q := N) (rest := []) ((up_lt (by omega)).trans up_eq) X (c_S_appC l g (N + 1 + 1) (va_up (va_up ad N z1) (N + 1) v) (va_up (va_up f N (c_sb v 0 n)) (N + 1) (c_ba g 16 h)) N (N + 1) z1 v n 16 0 h (by omega) (by omega) (by omega) ((up_lt (by omega)).trans up_eq) up_eq ((up_lt (by omega)).trans up_eq) up_eq hF (by omega) (by omega) ((((48 + (xx - xx / 10 * 10)).toInt32).toUInt32 % 65536).toInt32) (dig_ok _) H.size) mw_J4_append_cf468 md_J4_append_cf468 rfl lk_X2_271 ⟨Nat.le_of_ble_eq_true rfl, Nat.le_of_ble_eq_true rfl⟩ hA hK hT B (by omega) ((up_lt (by omega)).trans up_eq) rfl rfl hl.1 rfl (Nat.le_of_ble_eq_true rfl) dX2_numberInSigns_54 (by dsimp only [rm]; omega)) (by dsimp only [rm]; omega) (by dsimp only [rm]; omega) (fun r ad' f' H locs hw B => ?_)
            obtain ⟨v13, h13, hF13, rfl, rfl, rfl⟩ := hw
            rw [bx_uu, sw_4 (by omega), e13a] at B
            have B : WB g (aw N ad sz) s.heap (N + 1 + 1) (va_up (va_up ad N z1) (N + 1) v13) (va_up (va_up f N (c_sb v13 0 (n + 1))) (N + 1) (c_ba g 16 h13)) H locs := B
            refine lv_pop hx hb dX2_numberInSigns_57 rfl ?_
            refine lv_lload_n hx hb dX2_numberInSigns_58 rfl (lv_at hl 2 rfl) ?_
            refine lv_ldc2 hx hb hown (hts _ (List.mem_cons_of_mem _ lk_X2_269)) dX2_numberInSigns_59 ?_
            refine lv_ldiv hx hb dX2_numberInSigns_62 (by decide) ?_
            refine lv_lstore_n (lv' := [(3, .long (xx / 10)), (0, .long b0), (2, .ref z1), (5, .int (nI n))]) hx hb dX2_numberInSigns_63 rfl hl (by decide) rfl (fun ls hl => ?_)
            refine lv_iinc (v := (nI n) + 1) (lv' := [(5, .int ((nI n) + 1)), (3, .long (xx / 10)), (0, .long b0), (2, .ref z1)]) hx hb dX2_numberInSigns_64 hl (k := 3) rfl rfl (by decide) rfl (fun ls hl => ?_)
            refine lv_goto (tgt := 24) hx hb dX2_numberInSigns_67 (by decide) ?_
            have hlt := dig_lt hn11 c5
            rw [nI_1] at hl
            exact ih1 (xx / 10) (n + 1) v13 h13 H locs (by omega) (by omega) hF13 B ls (lv_sub hl [2, 3, 1, 0] rfl)
          · refine lv_lload_n hx hb dX2_numberInSigns_36 rfl (lv_at hl 2 rfl) ?_
            refine lv_lconst (v := 0) hx hb dX2_numberInSigns_37 (by decide) ?_
            refine W.lcmp hx hb dX2_numberInSigns_38 ?_
            refine lv_if_le (tgt := 70) hx hb dX2_numberInSigns_39 (by decide) (fun c14 => ?_) (fun c14 => ?_)
            · refine lv_lload_n hx hb dX2_numberInSigns_70 rfl (lv_at hl 0 rfl) ?_
              refine lv_lconst (v := 0) hx hb dX2_numberInSigns_71 (by decide) ?_
              refine W.lcmp hx hb dX2_numberInSigns_72 ?_
              refine lv_if_ge (tgt := 83) hx hb dX2_numberInSigns_73 (by decide) (fun c15 => ?_) (fun c15 => ?_)
              · refine lv_aload_n hx hb dX2_numberInSigns_83 rfl (lv_at hl 1 rfl) ?_
                refine k_r (k := (2)) (n := (20)) hA B (b_V (q := N) (rest := []) ((up_lt (by omega)).trans up_eq) X (c_S_rev l g (N + 1 + 1) (va_up (va_up ad N z1) (N + 1) v) (va_up (va_up f N (c_sb v 0 n)) (N + 1) (c_ba g 16 h)) N (N + 1) z1 v n 16 0 h (by omega) (by omega) (by omega) ((up_lt (by omega)).trans up_eq) up_eq ((up_lt (by omega)).trans up_eq) up_eq hF (by omega) (by omega) H.size) mw_J4_reverse_43fcb md_J4_reverse_43fcb rfl lk_X2_275 ⟨Nat.le_of_ble_eq_true rfl, Nat.le_of_ble_eq_true rfl⟩ hA hK hT B (by omega) ((up_lt (by omega)).trans up_eq) rfl rfl hl.1 rfl (Nat.le_of_ble_eq_true rfl) dX2_numberInSigns_84 (by dsimp only [rm]; omega)) (by dsimp only [rm]; omega) (by dsimp only [rm]; omega) (fun r ad' f' H locs hw B => ?_)
                obtain ⟨h16, hF16, rfl, rfl, rfl⟩ := hw
                rw [bx_uu] at B
                have B : WB g (aw N ad sz) s.heap (N + 1 + 1) (va_up (va_up ad N z1) (N + 1) v) (va_up (va_up f N (c_sb v 0 n)) (N + 1) (c_ba g 16 h16)) H locs := B
                refine lv_pop hx hb dX2_numberInSigns_87 rfl ?_
                refine lv_aload_n hx hb dX2_numberInSigns_88 rfl (lv_at hl 1 rfl) ?_
                refine k_r (k := (4)) (n := (20 + (4 + n))) hA B (b_V (q := N) (rest := []) ((up_lt (by omega)).trans up_eq) X (c_S_toS l g (N + 1 + 1) (va_up (va_up ad N z1) (N + 1) v) (va_up (va_up f N (c_sb v 0 n)) (N + 1) (c_ba g 16 h16)) N (N + 1) z1 v n 16 0 h16 (by omega) (by omega) (by omega) ((up_lt (by omega)).trans up_eq) up_eq ((up_lt (by omega)).trans up_eq) up_eq hF16 (by omega) (by omega) H.size) mw_J4_toString_0e30d md_J4_toString_0e30d rfl lk_X2_279 ⟨Nat.le_of_ble_eq_true rfl, Nat.le_of_ble_eq_true rfl⟩ hA hK hT B (by omega) ((up_lt (by omega)).trans up_eq) rfl rfl hl.1 rfl (Nat.le_of_ble_eq_true rfl) dX2_numberInSigns_89 (by dsimp only [rm]; omega)) (by dsimp only [rm]; omega) (by dsimp only [rm]; omega) (fun r ad' f' H locs hw B => ?_)
                obtain ⟨a17, a17x, h17, hF17, rfl, rfl, rfl⟩ := hw
                have B : WB g (aw N ad sz) s.heap N ad f H locs := B.drop (by omega) (fun _ hk => ((up_lt (Nat.lt_succ_of_lt (Nat.lt_succ_of_lt (Nat.lt_succ_of_lt hk)))).trans ((up_lt (Nat.lt_succ_of_lt (Nat.lt_succ_of_lt hk))).trans ((up_lt (Nat.lt_succ_of_lt hk)).trans (up_lt hk))))) (fun _ hk => ((up_lt (Nat.lt_succ_of_lt (Nat.lt_succ_of_lt (Nat.lt_succ_of_lt hk)))).trans ((up_lt (Nat.lt_succ_of_lt (Nat.lt_succ_of_lt hk))).trans ((up_lt (Nat.lt_succ_of_lt hk)).trans (up_lt hk)))))
                exact rt_r (r := some a17) rfl X hr (Or.inl ⟨_, rfl⟩) (ad, f) B (PO_of B) ⟨rfl, ⟨_, rfl⟩, rfl⟩ (by dsimp only [rm]; omega) (by dsimp only [rm]; omega) dX2_numberInSigns_92
              · refine lv_aload_n hx hb dX2_numberInSigns_76 rfl (lv_at hl 1 rfl) ?_
                refine lv_bipush (v := 45) hx hb dX2_numberInSigns_77 (by decide) ?_
                obtain ⟨e18a, e18b, e18c⟩ := g_no (q := (n + 1)) (m := 16) (by omega)
                refine k_r (k := (2)) (n := (20)) hA B (b_V (q := N) (rest := []) ((up_lt (by omega)).trans up_eq) X (c_S_appC l g (N + 1 + 1) (va_up (va_up ad N z1) (N + 1) v) (va_up (va_up f N (c_sb v 0 n)) (N + 1) (c_ba g 16 h)) N (N + 1) z1 v n 16 0 h (by omega) (by omega) (by omega) ((up_lt (by omega)).trans up_eq) up_eq ((up_lt (by omega)).trans up_eq) up_eq hF (by omega) (by omega) 45 (by decide) H.size) mw_J4_append_cf468 md_J4_append_cf468 rfl lk_X2_271 ⟨Nat.le_of_ble_eq_true rfl, Nat.le_of_ble_eq_true rfl⟩ hA hK hT B (by omega) ((up_lt (by omega)).trans up_eq) rfl rfl hl.1 rfl (Nat.le_of_ble_eq_true rfl) dX2_numberInSigns_79 (by dsimp only [rm]; omega)) (by dsimp only [rm]; omega) (by dsimp only [rm]; omega) (fun r ad' f' H locs hw B => ?_)
                obtain ⟨v18, h18, hF18, rfl, rfl, rfl⟩ := hw
                rw [bx_uu, sw_4 (by omega), e18a] at B
                have B : WB g (aw N ad sz) s.heap (N + 1 + 1) (va_up (va_up ad N z1) (N + 1) v18) (va_up (va_up f N (c_sb v18 0 (n + 1))) (N + 1) (c_ba g 16 h18)) H locs := B
                refine lv_pop hx hb dX2_numberInSigns_82 rfl ?_
                refine lv_aload_n hx hb dX2_numberInSigns_83 rfl (lv_at hl 1 rfl) ?_
                refine k_r (k := (2)) (n := (20)) hA B (b_V (q := N) (rest := []) ((up_lt (by omega)).trans up_eq) X (c_S_rev l g (N + 1 + 1) (va_up (va_up ad N z1) (N + 1) v18) (va_up (va_up f N (c_sb v18 0 (n + 1))) (N + 1) (c_ba g 16 h18)) N (N + 1) z1 v18 (n + 1) 16 0 h18 (by omega) (by omega) (by omega) ((up_lt (by omega)).trans up_eq) up_eq ((up_lt (by omega)).trans up_eq) up_eq hF18 (by omega) (by omega) H.size) mw_J4_reverse_43fcb md_J4_reverse_43fcb rfl lk_X2_275 ⟨Nat.le_of_ble_eq_true rfl, Nat.le_of_ble_eq_true rfl⟩ hA hK hT B (by omega) ((up_lt (by omega)).trans up_eq) rfl rfl hl.1 rfl (Nat.le_of_ble_eq_true rfl) dX2_numberInSigns_84 (by dsimp only [rm]; omega)) (by dsimp only [rm]; omega) (by dsimp only [rm]; omega) (fun r ad' f' H locs hw B => ?_)
                obtain ⟨h19, hF19, rfl, rfl, rfl⟩ := hw
                rw [bx_uu] at B
                have B : WB g (aw N ad sz) s.heap (N + 1 + 1) (va_up (va_up ad N z1) (N + 1) v18) (va_up (va_up f N (c_sb v18 0 (n + 1))) (N + 1) (c_ba g 16 h19)) H locs := B
                refine lv_pop hx hb dX2_numberInSigns_87 rfl ?_
                refine lv_aload_n hx hb dX2_numberInSigns_88 rfl (lv_at hl 1 rfl) ?_
                refine k_r (k := (4)) (n := (20 + (4 + (n + 1)))) hA B (b_V (q := N) (rest := []) ((up_lt (by omega)).trans up_eq) X (c_S_toS l g (N + 1 + 1) (va_up (va_up ad N z1) (N + 1) v18) (va_up (va_up f N (c_sb v18 0 (n + 1))) (N + 1) (c_ba g 16 h19)) N (N + 1) z1 v18 (n + 1) 16 0 h19 (by omega) (by omega) (by omega) ((up_lt (by omega)).trans up_eq) up_eq ((up_lt (by omega)).trans up_eq) up_eq hF19 (by omega) (by omega) H.size) mw_J4_toString_0e30d md_J4_toString_0e30d rfl lk_X2_279 ⟨Nat.le_of_ble_eq_true rfl, Nat.le_of_ble_eq_true rfl⟩ hA hK hT B (by omega) ((up_lt (by omega)).trans up_eq) rfl rfl hl.1 rfl (Nat.le_of_ble_eq_true rfl) dX2_numberInSigns_89 (by dsimp only [rm]; omega)) (by dsimp only [rm]; omega) (by dsimp only [rm]; omega) (fun r ad' f' H locs hw B => ?_)
                obtain ⟨a20, a20x, h20, hF20, rfl, rfl, rfl⟩ := hw
                have B : WB g (aw N ad sz) s.heap N ad f H locs := B.drop (by omega) (fun _ hk => ((up_lt (Nat.lt_succ_of_lt (Nat.lt_succ_of_lt (Nat.lt_succ_of_lt hk)))).trans ((up_lt (Nat.lt_succ_of_lt (Nat.lt_succ_of_lt hk))).trans ((up_lt (Nat.lt_succ_of_lt hk)).trans (up_lt hk))))) (fun _ hk => ((up_lt (Nat.lt_succ_of_lt (Nat.lt_succ_of_lt (Nat.lt_succ_of_lt hk)))).trans ((up_lt (Nat.lt_succ_of_lt (Nat.lt_succ_of_lt hk))).trans ((up_lt (Nat.lt_succ_of_lt hk)).trans (up_lt hk)))))
                exact rt_r (r := some a20) rfl X hr (Or.inl ⟨_, rfl⟩) (ad, f) B (PO_of B) ⟨rfl, ⟨_, rfl⟩, rfl⟩ (by dsimp only [rm]; omega) (by dsimp only [rm]; omega) dX2_numberInSigns_92
            · refine lv_aload_n hx hb dX2_numberInSigns_42 rfl (lv_at hl 1 rfl) ?_
              refine lv_ldc2 hx hb hown (hts _ (List.mem_cons_of_mem _ lk_X2_267)) dX2_numberInSigns_43 ?_
              refine lv_lload_n hx hb dX2_numberInSigns_46 rfl (lv_at hl 2 rfl) ?_
              refine lv_ldc2 hx hb hown (hts _ (List.mem_cons_of_mem _ lk_X2_269)) dX2_numberInSigns_47 ?_
              refine lv_lrem hx hb dX2_numberInSigns_50 (by decide) ?_
              refine lv_ladd hx hb dX2_numberInSigns_51 ?_
              refine lv_l2i (v := (48 + (xx - xx / 10 * 10)).toInt32) hx hb dX2_numberInSigns_52 rfl ?_
              refine lv_i2c (v := (((48 + (xx - xx / 10 * 10)).toInt32).toUInt32 % 65536).toInt32) hx hb dX2_numberInSigns_53 rfl ?_
              obtain ⟨e21a, e21b, e21c⟩ := g_no (q := (n + 1)) (m := 16) (by omega)
              refine k_r (k := (2)) (n := (20)) hA B (b_V (q := N) (rest := []) ((up_lt (by omega)).trans up_eq) X (c_S_appC l g (N + 1 + 1) (va_up (va_up ad N z1) (N + 1) v) (va_up (va_up f N (c_sb v 0 n)) (N + 1) (c_ba g 16 h)) N (N + 1) z1 v n 16 0 h (by omega) (by omega) (by omega) ((up_lt (by omega)).trans up_eq) up_eq ((up_lt (by omega)).trans up_eq) up_eq hF (by omega) (by omega) ((((48 + (xx - xx / 10 * 10)).toInt32).toUInt32 % 65536).toInt32) (dig_ok _) H.size) mw_J4_append_cf468 md_J4_append_cf468 rfl lk_X2_271 ⟨Nat.le_of_ble_eq_true rfl, Nat.le_of_ble_eq_true rfl⟩ hA hK hT B (by omega) ((up_lt (by omega)).trans up_eq) rfl rfl hl.1 rfl (Nat.le_of_ble_eq_true rfl) dX2_numberInSigns_54 (by dsimp only [rm]; omega)) (by dsimp only [rm]; omega) (by dsimp only [rm]; omega) (fun r ad' f' H locs hw B => ?_)
              obtain ⟨v21, h21, hF21, rfl, rfl, rfl⟩ := hw
              rw [bx_uu, sw_4 (by omega), e21a] at B
              have B : WB g (aw N ad sz) s.heap (N + 1 + 1) (va_up (va_up ad N z1) (N + 1) v21) (va_up (va_up f N (c_sb v21 0 (n + 1))) (N + 1) (c_ba g 16 h21)) H locs := B
              refine lv_pop hx hb dX2_numberInSigns_57 rfl ?_
              refine lv_lload_n hx hb dX2_numberInSigns_58 rfl (lv_at hl 2 rfl) ?_
              refine lv_ldc2 hx hb hown (hts _ (List.mem_cons_of_mem _ lk_X2_269)) dX2_numberInSigns_59 ?_
              refine lv_ldiv hx hb dX2_numberInSigns_62 (by decide) ?_
              refine lv_lstore_n (lv' := [(3, .long (xx / 10)), (0, .long b0), (2, .ref z1), (5, .int (nI n))]) hx hb dX2_numberInSigns_63 rfl hl (by decide) rfl (fun ls hl => ?_)
              refine lv_iinc (v := (nI n) + 1) (lv' := [(5, .int ((nI n) + 1)), (3, .long (xx / 10)), (0, .long b0), (2, .ref z1)]) hx hb dX2_numberInSigns_64 hl (k := 3) rfl rfl (by decide) rfl (fun ls hl => ?_)
              refine lv_goto (tgt := 24) hx hb dX2_numberInSigns_67 (by decide) ?_
              have hlt := dig_lt hn11 c5
              rw [nI_1] at hl
              exact ih1 (xx / 10) (n + 1) v21 h21 H locs (by omega) (by omega) hF21 B ls (lv_sub hl [2, 3, 1, 0] rfl)
    exact loop4 12 b0 0 v2 (fun _ => 0) H locs (by decide) (by decide) sb_fit0 B ls (lv_sub hl [3, 2, 1, 0] rfl)
  · refine lv_lload_n hx hb dX2_numberInSigns_14 rfl (lv_at hl 1 rfl) ?_
    refine lv_lneg hx hb dX2_numberInSigns_15 ?_
    refine lv_goto (tgt := 20) hx hb dX2_numberInSigns_16 (by decide) ?_
    refine lv_lstore_n (lv' := [(3, .long (-b0)), (2, .ref z1), (0, .long b0)]) hx hb dX2_numberInSigns_20 rfl hl (by decide) rfl (fun ls hl => ?_)
    refine lv_iconst (v := 0) hx hb dX2_numberInSigns_21 (by decide) ?_
    refine lv_istore (lv' := [(5, .int 0), (3, .long (-b0)), (2, .ref z1), (0, .long b0)]) hx hb dX2_numberInSigns_22 hl (by decide) rfl (fun ls hl => ?_)
    have loop22 : ∀ (n1 : Nat) (xx : Int64) (n v : Nat) (h : Nat → Int32) (H : Heap) (locs : List Loc), 11 - n < n1 → n ≤ 11 → sb_Fit h → WB g (aw N ad sz) s.heap (N + 1 + 1) (va_up (va_up ad N z1) (N + 1) v) (va_up (va_up f N (c_sb v 0 n)) (N + 1) (c_ba g 16 h)) H locs → ∀ ls : Array Slot, lv_has ls 6 [(0, .long b0), (2, .ref z1), (3, .long xx), (5, .int (nI n))] → W p l e0 (rm 6 4 40) s m9 args below meth c H locs (2) (20) (MQ below (va_Qq (fun r (u : WS) => (fun r ad' f' => ad = ad' ∧ (∃ a : Nat, some a = r) ∧ f = f') r u.1 u.2) (fun u t => PO g N u.1 u.2 (aw N ad sz) t) (aw N ad sz)) args s (rm 6 4 40).cells (rm 6 4 40).slots (aw N ad sz)) (F0 m9 24 ls []) := by
      intro n1
      induction n1 with
      | zero => intro xx n v h H locs hn; exact absurd hn (Nat.not_lt_zero _)
      | succ n1 ih1 =>
        intro xx n v h H locs hn hn11 hF B ls hl
        refine lv_iload hx hb dX2_numberInSigns_24 (lv_at hl 3 rfl) ?_
        refine lv_bipush (v := 11) hx hb dX2_numberInSigns_26 (by decide) ?_
        refine lv_icmp_ge (tgt := 70) hx hb dX2_numberInSigns_28 (by decide) (fun c23 => ?_) (fun c23 => ?_)
        · refine lv_lload_n hx hb dX2_numberInSigns_70 rfl (lv_at hl 0 rfl) ?_
          refine lv_lconst (v := 0) hx hb dX2_numberInSigns_71 (by decide) ?_
          refine W.lcmp hx hb dX2_numberInSigns_72 ?_
          refine lv_if_ge (tgt := 83) hx hb dX2_numberInSigns_73 (by decide) (fun c24 => ?_) (fun c24 => ?_)
          · refine lv_aload_n hx hb dX2_numberInSigns_83 rfl (lv_at hl 1 rfl) ?_
            refine k_r (k := (2)) (n := (20)) hA B (b_V (q := N) (rest := []) ((up_lt (by omega)).trans up_eq) X (c_S_rev l g (N + 1 + 1) (va_up (va_up ad N z1) (N + 1) v) (va_up (va_up f N (c_sb v 0 n)) (N + 1) (c_ba g 16 h)) N (N + 1) z1 v n 16 0 h (by omega) (by omega) (by omega) ((up_lt (by omega)).trans up_eq) up_eq ((up_lt (by omega)).trans up_eq) up_eq hF (by omega) (by omega) H.size) mw_J4_reverse_43fcb md_J4_reverse_43fcb rfl lk_X2_275 ⟨Nat.le_of_ble_eq_true rfl, Nat.le_of_ble_eq_true rfl⟩ hA hK hT B (by omega) ((up_lt (by omega)).trans up_eq) rfl rfl hl.1 rfl (Nat.le_of_ble_eq_true rfl) dX2_numberInSigns_84 (by dsimp only [rm]; omega)) (by dsimp only [rm]; omega) (by dsimp only [rm]; omega) (fun r ad' f' H locs hw B => ?_)
            obtain ⟨h25, hF25, rfl, rfl, rfl⟩ := hw
            rw [bx_uu] at B
            have B : WB g (aw N ad sz) s.heap (N + 1 + 1) (va_up (va_up ad N z1) (N + 1) v) (va_up (va_up f N (c_sb v 0 n)) (N + 1) (c_ba g 16 h25)) H locs := B
            refine lv_pop hx hb dX2_numberInSigns_87 rfl ?_
            refine lv_aload_n hx hb dX2_numberInSigns_88 rfl (lv_at hl 1 rfl) ?_
            refine k_r (k := (4)) (n := (20 + (4 + n))) hA B (b_V (q := N) (rest := []) ((up_lt (by omega)).trans up_eq) X (c_S_toS l g (N + 1 + 1) (va_up (va_up ad N z1) (N + 1) v) (va_up (va_up f N (c_sb v 0 n)) (N + 1) (c_ba g 16 h25)) N (N + 1) z1 v n 16 0 h25 (by omega) (by omega) (by omega) ((up_lt (by omega)).trans up_eq) up_eq ((up_lt (by omega)).trans up_eq) up_eq hF25 (by omega) (by omega) H.size) mw_J4_toString_0e30d md_J4_toString_0e30d rfl lk_X2_279 ⟨Nat.le_of_ble_eq_true rfl, Nat.le_of_ble_eq_true rfl⟩ hA hK hT B (by omega) ((up_lt (by omega)).trans up_eq) rfl rfl hl.1 rfl (Nat.le_of_ble_eq_true rfl) dX2_numberInSigns_89 (by dsimp only [rm]; omega)) (by dsimp only [rm]; omega) (by dsimp only [rm]; omega) (fun r ad' f' H locs hw B => ?_)
            obtain ⟨a26, a26x, h26, hF26, rfl, rfl, rfl⟩ := hw
            have B : WB g (aw N ad sz) s.heap N ad f H locs := B.drop (by omega) (fun _ hk => ((up_lt (Nat.lt_succ_of_lt (Nat.lt_succ_of_lt (Nat.lt_succ_of_lt hk)))).trans ((up_lt (Nat.lt_succ_of_lt (Nat.lt_succ_of_lt hk))).trans ((up_lt (Nat.lt_succ_of_lt hk)).trans (up_lt hk))))) (fun _ hk => ((up_lt (Nat.lt_succ_of_lt (Nat.lt_succ_of_lt (Nat.lt_succ_of_lt hk)))).trans ((up_lt (Nat.lt_succ_of_lt (Nat.lt_succ_of_lt hk))).trans ((up_lt (Nat.lt_succ_of_lt hk)).trans (up_lt hk)))))
            exact rt_r (r := some a26) rfl X hr (Or.inl ⟨_, rfl⟩) (ad, f) B (PO_of B) ⟨rfl, ⟨_, rfl⟩, rfl⟩ (by dsimp only [rm]; omega) (by dsimp only [rm]; omega) dX2_numberInSigns_92
          · refine lv_aload_n hx hb dX2_numberInSigns_76 rfl (lv_at hl 1 rfl) ?_
            refine lv_bipush (v := 45) hx hb dX2_numberInSigns_77 (by decide) ?_
            obtain ⟨e27a, e27b, e27c⟩ := g_no (q := (n + 1)) (m := 16) (by omega)
            refine k_r (k := (2)) (n := (20)) hA B (b_V (q := N) (rest := []) ((up_lt (by omega)).trans up_eq) X (c_S_appC l g (N + 1 + 1) (va_up (va_up ad N z1) (N + 1) v) (va_up (va_up f N (c_sb v 0 n)) (N + 1) (c_ba g 16 h)) N (N + 1) z1 v n 16 0 h (by omega) (by omega) (by omega) ((up_lt (by omega)).trans up_eq) up_eq ((up_lt (by omega)).trans up_eq) up_eq hF (by omega) (by omega) 45 (by decide) H.size) mw_J4_append_cf468 md_J4_append_cf468 rfl lk_X2_271 ⟨Nat.le_of_ble_eq_true rfl, Nat.le_of_ble_eq_true rfl⟩ hA hK hT B (by omega) ((up_lt (by omega)).trans up_eq) rfl rfl hl.1 rfl (Nat.le_of_ble_eq_true rfl) dX2_numberInSigns_79 (by dsimp only [rm]; omega)) (by dsimp only [rm]; omega) (by dsimp only [rm]; omega) (fun r ad' f' H locs hw B => ?_)
            obtain ⟨v27, h27, hF27, rfl, rfl, rfl⟩ := hw
            rw [bx_uu, sw_4 (by omega), e27a] at B
            have B : WB g (aw N ad sz) s.heap (N + 1 + 1) (va_up (va_up ad N z1) (N + 1) v27) (va_up (va_up f N (c_sb v27 0 (n + 1))) (N + 1) (c_ba g 16 h27)) H locs := B
            refine lv_pop hx hb dX2_numberInSigns_82 rfl ?_
            refine lv_aload_n hx hb dX2_numberInSigns_83 rfl (lv_at hl 1 rfl) ?_
            refine k_r (k := (2)) (n := (20)) hA B (b_V (q := N) (rest := []) ((up_lt (by omega)).trans up_eq) X (c_S_rev l g (N + 1 + 1) (va_up (va_up ad N z1) (N + 1) v27) (va_up (va_up f N (c_sb v27 0 (n + 1))) (N + 1) (c_ba g 16 h27)) N (N + 1) z1 v27 (n + 1) 16 0 h27 (by omega) (by omega) (by omega) ((up_lt (by omega)).trans up_eq) up_eq ((up_lt (by omega)).trans up_eq) up_eq hF27 (by omega) (by omega) H.size) mw_J4_reverse_43fcb md_J4_reverse_43fcb rfl lk_X2_275 ⟨Nat.le_of_ble_eq_true rfl, Nat.le_of_ble_eq_true rfl⟩ hA hK hT B (by omega) ((up_lt (by omega)).trans up_eq) rfl rfl hl.1 rfl (Nat.le_of_ble_eq_true rfl) dX2_numberInSigns_84 (by dsimp only [rm]; omega)) (by dsimp only [rm]; omega) (by dsimp only [rm]; omega) (fun r ad' f' H locs hw B => ?_)
            obtain ⟨h28, hF28, rfl, rfl, rfl⟩ := hw
            rw [bx_uu] at B
            have B : WB g (aw N ad sz) s.heap (N + 1 + 1) (va_up (va_up ad N z1) (N + 1) v27) (va_up (va_up f N (c_sb v27 0 (n + 1))) (N + 1) (c_ba g 16 h28)) H locs := B
            refine lv_pop hx hb dX2_numberInSigns_87 rfl ?_
            refine lv_aload_n hx hb dX2_numberInSigns_88 rfl (lv_at hl 1 rfl) ?_
            refine k_r (k := (4)) (n := (20 + (4 + (n + 1)))) hA B (b_V (q := N) (rest := []) ((up_lt (by omega)).trans up_eq) X (c_S_toS l g (N + 1 + 1) (va_up (va_up ad N z1) (N + 1) v27) (va_up (va_up f N (c_sb v27 0 (n + 1))) (N + 1) (c_ba g 16 h28)) N (N + 1) z1 v27 (n + 1) 16 0 h28 (by omega) (by omega) (by omega) ((up_lt (by omega)).trans up_eq) up_eq ((up_lt (by omega)).trans up_eq) up_eq hF28 (by omega) (by omega) H.size) mw_J4_toString_0e30d md_J4_toString_0e30d rfl lk_X2_279 ⟨Nat.le_of_ble_eq_true rfl, Nat.le_of_ble_eq_true rfl⟩ hA hK hT B (by omega) ((up_lt (by omega)).trans up_eq) rfl rfl hl.1 rfl (Nat.le_of_ble_eq_true rfl) dX2_numberInSigns_89 (by dsimp only [rm]; omega)) (by dsimp only [rm]; omega) (by dsimp only [rm]; omega) (fun r ad' f' H locs hw B => ?_)
            obtain ⟨a29, a29x, h29, hF29, rfl, rfl, rfl⟩ := hw
            have B : WB g (aw N ad sz) s.heap N ad f H locs := B.drop (by omega) (fun _ hk => ((up_lt (Nat.lt_succ_of_lt (Nat.lt_succ_of_lt (Nat.lt_succ_of_lt hk)))).trans ((up_lt (Nat.lt_succ_of_lt (Nat.lt_succ_of_lt hk))).trans ((up_lt (Nat.lt_succ_of_lt hk)).trans (up_lt hk))))) (fun _ hk => ((up_lt (Nat.lt_succ_of_lt (Nat.lt_succ_of_lt (Nat.lt_succ_of_lt hk)))).trans ((up_lt (Nat.lt_succ_of_lt (Nat.lt_succ_of_lt hk))).trans ((up_lt (Nat.lt_succ_of_lt hk)).trans (up_lt hk)))))
            exact rt_r (r := some a29) rfl X hr (Or.inl ⟨_, rfl⟩) (ad, f) B (PO_of B) ⟨rfl, ⟨_, rfl⟩, rfl⟩ (by dsimp only [rm]; omega) (by dsimp only [rm]; omega) dX2_numberInSigns_92
        · refine lv_iload hx hb dX2_numberInSigns_31 (lv_at hl 3 rfl) ?_
          refine lv_if_eq (tgt := 42) hx hb dX2_numberInSigns_33 (by decide) (fun c30 => ?_) (fun c30 => ?_)
          · refine lv_aload_n hx hb dX2_numberInSigns_42 rfl (lv_at hl 1 rfl) ?_
            refine lv_ldc2 hx hb hown (hts _ (List.mem_cons_of_mem _ lk_X2_267)) dX2_numberInSigns_43 ?_
            refine lv_lload_n hx hb dX2_numberInSigns_46 rfl (lv_at hl 2 rfl) ?_
            refine lv_ldc2 hx hb hown (hts _ (List.mem_cons_of_mem _ lk_X2_269)) dX2_numberInSigns_47 ?_
            refine lv_lrem hx hb dX2_numberInSigns_50 (by decide) ?_
            refine lv_ladd hx hb dX2_numberInSigns_51 ?_
            refine lv_l2i (v := (48 + (xx - xx / 10 * 10)).toInt32) hx hb dX2_numberInSigns_52 rfl ?_
            refine lv_i2c (v := (((48 + (xx - xx / 10 * 10)).toInt32).toUInt32 % 65536).toInt32) hx hb dX2_numberInSigns_53 rfl ?_
            obtain ⟨e31a, e31b, e31c⟩ := g_no (q := (n + 1)) (m := 16) (by omega)
            refine k_r (k := (2)) (n := (20)) hA B (b_V (q := N) (rest := []) ((up_lt (by omega)).trans up_eq) X (c_S_appC l g (N + 1 + 1) (va_up (va_up ad N z1) (N + 1) v) (va_up (va_up f N (c_sb v 0 n)) (N + 1) (c_ba g 16 h)) N (N + 1) z1 v n 16 0 h (by omega) (by omega) (by omega) ((up_lt (by omega)).trans up_eq) up_eq ((up_lt (by omega)).trans up_eq) up_eq hF (by omega) (by omega) ((((48 + (xx - xx / 10 * 10)).toInt32).toUInt32 % 65536).toInt32) (dig_ok _) H.size) mw_J4_append_cf468 md_J4_append_cf468 rfl lk_X2_271 ⟨Nat.le_of_ble_eq_true rfl, Nat.le_of_ble_eq_true rfl⟩ hA hK hT B (by omega) ((up_lt (by omega)).trans up_eq) rfl rfl hl.1 rfl (Nat.le_of_ble_eq_true rfl) dX2_numberInSigns_54 (by dsimp only [rm]; omega)) (by dsimp only [rm]; omega) (by dsimp only [rm]; omega) (fun r ad' f' H locs hw B => ?_)
            obtain ⟨v31, h31, hF31, rfl, rfl, rfl⟩ := hw
            rw [bx_uu, sw_4 (by omega), e31a] at B
            have B : WB g (aw N ad sz) s.heap (N + 1 + 1) (va_up (va_up ad N z1) (N + 1) v31) (va_up (va_up f N (c_sb v31 0 (n + 1))) (N + 1) (c_ba g 16 h31)) H locs := B
            refine lv_pop hx hb dX2_numberInSigns_57 rfl ?_
            refine lv_lload_n hx hb dX2_numberInSigns_58 rfl (lv_at hl 2 rfl) ?_
            refine lv_ldc2 hx hb hown (hts _ (List.mem_cons_of_mem _ lk_X2_269)) dX2_numberInSigns_59 ?_
            refine lv_ldiv hx hb dX2_numberInSigns_62 (by decide) ?_
            refine lv_lstore_n (lv' := [(3, .long (xx / 10)), (0, .long b0), (2, .ref z1), (5, .int (nI n))]) hx hb dX2_numberInSigns_63 rfl hl (by decide) rfl (fun ls hl => ?_)
            refine lv_iinc (v := (nI n) + 1) (lv' := [(5, .int ((nI n) + 1)), (3, .long (xx / 10)), (0, .long b0), (2, .ref z1)]) hx hb dX2_numberInSigns_64 hl (k := 3) rfl rfl (by decide) rfl (fun ls hl => ?_)
            refine lv_goto (tgt := 24) hx hb dX2_numberInSigns_67 (by decide) ?_
            have hlt := dig_lt hn11 c23
            rw [nI_1] at hl
            exact ih1 (xx / 10) (n + 1) v31 h31 H locs (by omega) (by omega) hF31 B ls (lv_sub hl [2, 3, 1, 0] rfl)
          · refine lv_lload_n hx hb dX2_numberInSigns_36 rfl (lv_at hl 2 rfl) ?_
            refine lv_lconst (v := 0) hx hb dX2_numberInSigns_37 (by decide) ?_
            refine W.lcmp hx hb dX2_numberInSigns_38 ?_
            refine lv_if_le (tgt := 70) hx hb dX2_numberInSigns_39 (by decide) (fun c32 => ?_) (fun c32 => ?_)
            · refine lv_lload_n hx hb dX2_numberInSigns_70 rfl (lv_at hl 0 rfl) ?_
              refine lv_lconst (v := 0) hx hb dX2_numberInSigns_71 (by decide) ?_
              refine W.lcmp hx hb dX2_numberInSigns_72 ?_
              refine lv_if_ge (tgt := 83) hx hb dX2_numberInSigns_73 (by decide) (fun c33 => ?_) (fun c33 => ?_)
              · refine lv_aload_n hx hb dX2_numberInSigns_83 rfl (lv_at hl 1 rfl) ?_
                refine k_r (k := (2)) (n := (20)) hA B (b_V (q := N) (rest := []) ((up_lt (by omega)).trans up_eq) X (c_S_rev l g (N + 1 + 1) (va_up (va_up ad N z1) (N + 1) v) (va_up (va_up f N (c_sb v 0 n)) (N + 1) (c_ba g 16 h)) N (N + 1) z1 v n 16 0 h (by omega) (by omega) (by omega) ((up_lt (by omega)).trans up_eq) up_eq ((up_lt (by omega)).trans up_eq) up_eq hF (by omega) (by omega) H.size) mw_J4_reverse_43fcb md_J4_reverse_43fcb rfl lk_X2_275 ⟨Nat.le_of_ble_eq_true rfl, Nat.le_of_ble_eq_true rfl⟩ hA hK hT B (by omega) ((up_lt (by omega)).trans up_eq) rfl rfl hl.1 rfl (Nat.le_of_ble_eq_true rfl) dX2_numberInSigns_84 (by dsimp only [rm]; omega)) (by dsimp only [rm]; omega) (by dsimp only [rm]; omega) (fun r ad' f' H locs hw B => ?_)
                obtain ⟨h34, hF34, rfl, rfl, rfl⟩ := hw
                rw [bx_uu] at B
                have B : WB g (aw N ad sz) s.heap (N + 1 + 1) (va_up (va_up ad N z1) (N + 1) v) (va_up (va_up f N (c_sb v 0 n)) (N + 1) (c_ba g 16 h34)) H locs := B
                refine lv_pop hx hb dX2_numberInSigns_87 rfl ?_
                refine lv_aload_n hx hb dX2_numberInSigns_88 rfl (lv_at hl 1 rfl) ?_
                refine k_r (k := (4)) (n := (20 + (4 + n))) hA B (b_V (q := N) (rest := []) ((up_lt (by omega)).trans up_eq) X (c_S_toS l g (N + 1 + 1) (va_up (va_up ad N z1) (N + 1) v) (va_up (va_up f N (c_sb v 0 n)) (N + 1) (c_ba g 16 h34)) N (N + 1) z1 v n 16 0 h34 (by omega) (by omega) (by omega) ((up_lt (by omega)).trans up_eq) up_eq ((up_lt (by omega)).trans up_eq) up_eq hF34 (by omega) (by omega) H.size) mw_J4_toString_0e30d md_J4_toString_0e30d rfl lk_X2_279 ⟨Nat.le_of_ble_eq_true rfl, Nat.le_of_ble_eq_true rfl⟩ hA hK hT B (by omega) ((up_lt (by omega)).trans up_eq) rfl rfl hl.1 rfl (Nat.le_of_ble_eq_true rfl) dX2_numberInSigns_89 (by dsimp only [rm]; omega)) (by dsimp only [rm]; omega) (by dsimp only [rm]; omega) (fun r ad' f' H locs hw B => ?_)
                obtain ⟨a35, a35x, h35, hF35, rfl, rfl, rfl⟩ := hw
                have B : WB g (aw N ad sz) s.heap N ad f H locs := B.drop (by omega) (fun _ hk => ((up_lt (Nat.lt_succ_of_lt (Nat.lt_succ_of_lt (Nat.lt_succ_of_lt hk)))).trans ((up_lt (Nat.lt_succ_of_lt (Nat.lt_succ_of_lt hk))).trans ((up_lt (Nat.lt_succ_of_lt hk)).trans (up_lt hk))))) (fun _ hk => ((up_lt (Nat.lt_succ_of_lt (Nat.lt_succ_of_lt (Nat.lt_succ_of_lt hk)))).trans ((up_lt (Nat.lt_succ_of_lt (Nat.lt_succ_of_lt hk))).trans ((up_lt (Nat.lt_succ_of_lt hk)).trans (up_lt hk)))))
                exact rt_r (r := some a35) rfl X hr (Or.inl ⟨_, rfl⟩) (ad, f) B (PO_of B) ⟨rfl, ⟨_, rfl⟩, rfl⟩ (by dsimp only [rm]; omega) (by dsimp only [rm]; omega) dX2_numberInSigns_92
              · refine lv_aload_n hx hb dX2_numberInSigns_76 rfl (lv_at hl 1 rfl) ?_
                refine lv_bipush (v := 45) hx hb dX2_numberInSigns_77 (by decide) ?_
                obtain ⟨e36a, e36b, e36c⟩ := g_no (q := (n + 1)) (m := 16) (by omega)
                refine k_r (k := (2)) (n := (20)) hA B (b_V (q := N) (rest := []) ((up_lt (by omega)).trans up_eq) X (c_S_appC l g (N + 1 + 1) (va_up (va_up ad N z1) (N + 1) v) (va_up (va_up f N (c_sb v 0 n)) (N + 1) (c_ba g 16 h)) N (N + 1) z1 v n 16 0 h (by omega) (by omega) (by omega) ((up_lt (by omega)).trans up_eq) up_eq ((up_lt (by omega)).trans up_eq) up_eq hF (by omega) (by omega) 45 (by decide) H.size) mw_J4_append_cf468 md_J4_append_cf468 rfl lk_X2_271 ⟨Nat.le_of_ble_eq_true rfl, Nat.le_of_ble_eq_true rfl⟩ hA hK hT B (by omega) ((up_lt (by omega)).trans up_eq) rfl rfl hl.1 rfl (Nat.le_of_ble_eq_true rfl) dX2_numberInSigns_79 (by dsimp only [rm]; omega)) (by dsimp only [rm]; omega) (by dsimp only [rm]; omega) (fun r ad' f' H locs hw B => ?_)
                obtain ⟨v36, h36, hF36, rfl, rfl, rfl⟩ := hw
                rw [bx_uu, sw_4 (by omega), e36a] at B
                have B : WB g (aw N ad sz) s.heap (N + 1 + 1) (va_up (va_up ad N z1) (N + 1) v36) (va_up (va_up f N (c_sb v36 0 (n + 1))) (N + 1) (c_ba g 16 h36)) H locs := B
                refine lv_pop hx hb dX2_numberInSigns_82 rfl ?_
                refine lv_aload_n hx hb dX2_numberInSigns_83 rfl (lv_at hl 1 rfl) ?_
                refine k_r (k := (2)) (n := (20)) hA B (b_V (q := N) (rest := []) ((up_lt (by omega)).trans up_eq) X (c_S_rev l g (N + 1 + 1) (va_up (va_up ad N z1) (N + 1) v36) (va_up (va_up f N (c_sb v36 0 (n + 1))) (N + 1) (c_ba g 16 h36)) N (N + 1) z1 v36 (n + 1) 16 0 h36 (by omega) (by omega) (by omega) ((up_lt (by omega)).trans up_eq) up_eq ((up_lt (by omega)).trans up_eq) up_eq hF36 (by omega) (by omega) H.size) mw_J4_reverse_43fcb md_J4_reverse_43fcb rfl lk_X2_275 ⟨Nat.le_of_ble_eq_true rfl, Nat.le_of_ble_eq_true rfl⟩ hA hK hT B (by omega) ((up_lt (by omega)).trans up_eq) rfl rfl hl.1 rfl (Nat.le_of_ble_eq_true rfl) dX2_numberInSigns_84 (by dsimp only [rm]; omega)) (by dsimp only [rm]; omega) (by dsimp only [rm]; omega) (fun r ad' f' H locs hw B => ?_)
                obtain ⟨h37, hF37, rfl, rfl, rfl⟩ := hw
                rw [bx_uu] at B
                have B : WB g (aw N ad sz) s.heap (N + 1 + 1) (va_up (va_up ad N z1) (N + 1) v36) (va_up (va_up f N (c_sb v36 0 (n + 1))) (N + 1) (c_ba g 16 h37)) H locs := B
                refine lv_pop hx hb dX2_numberInSigns_87 rfl ?_
                refine lv_aload_n hx hb dX2_numberInSigns_88 rfl (lv_at hl 1 rfl) ?_
                refine k_r (k := (4)) (n := (20 + (4 + (n + 1)))) hA B (b_V (q := N) (rest := []) ((up_lt (by omega)).trans up_eq) X (c_S_toS l g (N + 1 + 1) (va_up (va_up ad N z1) (N + 1) v36) (va_up (va_up f N (c_sb v36 0 (n + 1))) (N + 1) (c_ba g 16 h37)) N (N + 1) z1 v36 (n + 1) 16 0 h37 (by omega) (by omega) (by omega) ((up_lt (by omega)).trans up_eq) up_eq ((up_lt (by omega)).trans up_eq) up_eq hF37 (by omega) (by omega) H.size) mw_J4_toString_0e30d md_J4_toString_0e30d rfl lk_X2_279 ⟨Nat.le_of_ble_eq_true rfl, Nat.le_of_ble_eq_true rfl⟩ hA hK hT B (by omega) ((up_lt (by omega)).trans up_eq) rfl rfl hl.1 rfl (Nat.le_of_ble_eq_true rfl) dX2_numberInSigns_89 (by dsimp only [rm]; omega)) (by dsimp only [rm]; omega) (by dsimp only [rm]; omega) (fun r ad' f' H locs hw B => ?_)
                obtain ⟨a38, a38x, h38, hF38, rfl, rfl, rfl⟩ := hw
                have B : WB g (aw N ad sz) s.heap N ad f H locs := B.drop (by omega) (fun _ hk => ((up_lt (Nat.lt_succ_of_lt (Nat.lt_succ_of_lt (Nat.lt_succ_of_lt hk)))).trans ((up_lt (Nat.lt_succ_of_lt (Nat.lt_succ_of_lt hk))).trans ((up_lt (Nat.lt_succ_of_lt hk)).trans (up_lt hk))))) (fun _ hk => ((up_lt (Nat.lt_succ_of_lt (Nat.lt_succ_of_lt (Nat.lt_succ_of_lt hk)))).trans ((up_lt (Nat.lt_succ_of_lt (Nat.lt_succ_of_lt hk))).trans ((up_lt (Nat.lt_succ_of_lt hk)).trans (up_lt hk)))))
                exact rt_r (r := some a38) rfl X hr (Or.inl ⟨_, rfl⟩) (ad, f) B (PO_of B) ⟨rfl, ⟨_, rfl⟩, rfl⟩ (by dsimp only [rm]; omega) (by dsimp only [rm]; omega) dX2_numberInSigns_92
            · refine lv_aload_n hx hb dX2_numberInSigns_42 rfl (lv_at hl 1 rfl) ?_
              refine lv_ldc2 hx hb hown (hts _ (List.mem_cons_of_mem _ lk_X2_267)) dX2_numberInSigns_43 ?_
              refine lv_lload_n hx hb dX2_numberInSigns_46 rfl (lv_at hl 2 rfl) ?_
              refine lv_ldc2 hx hb hown (hts _ (List.mem_cons_of_mem _ lk_X2_269)) dX2_numberInSigns_47 ?_
              refine lv_lrem hx hb dX2_numberInSigns_50 (by decide) ?_
              refine lv_ladd hx hb dX2_numberInSigns_51 ?_
              refine lv_l2i (v := (48 + (xx - xx / 10 * 10)).toInt32) hx hb dX2_numberInSigns_52 rfl ?_
              refine lv_i2c (v := (((48 + (xx - xx / 10 * 10)).toInt32).toUInt32 % 65536).toInt32) hx hb dX2_numberInSigns_53 rfl ?_
              obtain ⟨e39a, e39b, e39c⟩ := g_no (q := (n + 1)) (m := 16) (by omega)
              refine k_r (k := (2)) (n := (20)) hA B (b_V (q := N) (rest := []) ((up_lt (by omega)).trans up_eq) X (c_S_appC l g (N + 1 + 1) (va_up (va_up ad N z1) (N + 1) v) (va_up (va_up f N (c_sb v 0 n)) (N + 1) (c_ba g 16 h)) N (N + 1) z1 v n 16 0 h (by omega) (by omega) (by omega) ((up_lt (by omega)).trans up_eq) up_eq ((up_lt (by omega)).trans up_eq) up_eq hF (by omega) (by omega) ((((48 + (xx - xx / 10 * 10)).toInt32).toUInt32 % 65536).toInt32) (dig_ok _) H.size) mw_J4_append_cf468 md_J4_append_cf468 rfl lk_X2_271 ⟨Nat.le_of_ble_eq_true rfl, Nat.le_of_ble_eq_true rfl⟩ hA hK hT B (by omega) ((up_lt (by omega)).trans up_eq) rfl rfl hl.1 rfl (Nat.le_of_ble_eq_true rfl) dX2_numberInSigns_54 (by dsimp only [rm]; omega)) (by dsimp only [rm]; omega) (by dsimp only [rm]; omega) (fun r ad' f' H locs hw B => ?_)
              obtain ⟨v39, h39, hF39, rfl, rfl, rfl⟩ := hw
              rw [bx_uu, sw_4 (by omega), e39a] at B
              have B : WB g (aw N ad sz) s.heap (N + 1 + 1) (va_up (va_up ad N z1) (N + 1) v39) (va_up (va_up f N (c_sb v39 0 (n + 1))) (N + 1) (c_ba g 16 h39)) H locs := B
              refine lv_pop hx hb dX2_numberInSigns_57 rfl ?_
              refine lv_lload_n hx hb dX2_numberInSigns_58 rfl (lv_at hl 2 rfl) ?_
              refine lv_ldc2 hx hb hown (hts _ (List.mem_cons_of_mem _ lk_X2_269)) dX2_numberInSigns_59 ?_
              refine lv_ldiv hx hb dX2_numberInSigns_62 (by decide) ?_
              refine lv_lstore_n (lv' := [(3, .long (xx / 10)), (0, .long b0), (2, .ref z1), (5, .int (nI n))]) hx hb dX2_numberInSigns_63 rfl hl (by decide) rfl (fun ls hl => ?_)
              refine lv_iinc (v := (nI n) + 1) (lv' := [(5, .int ((nI n) + 1)), (3, .long (xx / 10)), (0, .long b0), (2, .ref z1)]) hx hb dX2_numberInSigns_64 hl (k := 3) rfl rfl (by decide) rfl (fun ls hl => ?_)
              refine lv_goto (tgt := 24) hx hb dX2_numberInSigns_67 (by decide) ?_
              have hlt := dig_lt hn11 c23
              rw [nI_1] at hl
              exact ih1 (xx / 10) (n + 1) v39 h39 H locs (by omega) (by omega) hF39 B ls (lv_sub hl [2, 3, 1, 0] rfl)
    exact loop22 12 (-b0) 0 v2 (fun _ => 0) H locs (by decide) (by decide) sb_fit0 B ls (lv_sub hl [3, 2, 1, 0] rfl)
end
section
set_option maxHeartbeats 4000000 in
set_option maxRecDepth 100000 in
theorem c_X2_resultInSigns (l : Launch) (g : GG) (N : Nat) (ad : Nat → Nat) (x : Nat → va_E) (sp dy : Nat → TR) (la kn re : Int32) (hN : 23 ≤ N) (a1 : Int32) : KR l yX2_resultInSigns cX2_resultInSigns 2 (.object "java/lang/String") (rm 7 6 166) g [.ref (ad 0), .int a1] N ad (cf g ad x sp dy la kn re) N (fun r ad' f' => ad = ad' ∧ (∃ a : Nat, some a = r) ∧ (cf g ad x sp dy la kn re) = f') := by
  intro sz
  refine mt_start (by decide) (Nat.le_of_ble_eq_true rfl) ?_
  intro p e s m args below meth c hsz X hr hnam hA hK hT H locs B ls hl
  obtain ⟨hx, hb, hml, hown, hts, hlocks⟩ := id X
  have hl : lv_has ls 2 [(0, .ref (ad 0)), (1, .int a1)] := hl
  refine lv_iload_n hx hb dX2_resultInSigns_0 rfl (lv_at hl 1 rfl) ?_
  refine lv_if_eq (tgt := 14) hx hb dX2_resultInSigns_1 (by decide) (fun c1 => ?_) (fun c1 => ?_)
  · refine b_ldc (i := 0) (by decide) rfl rfl X hT dX2_resultInSigns_14 ?_
    exact rt_r (r := some (g.2.2 (100 + 0))) rfl X hr (Or.inl ⟨_, rfl⟩) (ad, (cf g ad x sp dy la kn re)) B (PO_of B) ⟨rfl, ⟨_, rfl⟩, rfl⟩ (Nat.le_of_ble_eq_true rfl) (Nat.le_of_ble_eq_true rfl) dX2_resultInSigns_16
  · refine lv_aload_n hx hb dX2_resultInSigns_4 rfl (lv_at hl 0 rfl) ?_
    refine g_get (q := 0) (k := 6) X hK B rfl in_X2 (pl_c hN 0 (by decide)) cf_0 (by decide) lk_X2_25 rfl rfl dX2_resultInSigns_5 ?_
    refine k_r (k := 6) (n := 166) hA B (u_VN (rest := []) X (c_W_inS l g N ad (cf g ad x sp dy la kn re) (4 + 12) (ad (4 + 12)) (sp 12) (pl_sp hN (by decide)) rfl (cf_sp (by decide)) H.size) mw_X1_inSigns md_X1_inSigns rfl lk_X2_100 ⟨Nat.le_of_ble_eq_true rfl, Nat.le_of_ble_eq_true rfl⟩ hA hK hT B (pl_sp hN (by decide)) (cf_sp (by decide)) rfl rfl hl.1 rfl (Nat.le_of_ble_eq_true rfl) dX2_resultInSigns_8 ⟨Nat.le_of_ble_eq_true rfl, Nat.le_of_ble_eq_true rfl⟩) (Nat.le_of_ble_eq_true rfl) (Nat.le_of_ble_eq_true rfl) (fun r ad' f' H locs hw B => ?_)
    obtain ⟨rfl, ⟨so2, rfl⟩, rfl⟩ := hw
    refine lv_goto (tgt := 16) hx hb dX2_resultInSigns_11 (by decide) ?_
    exact rt_r (r := some (so2)) rfl X hr (Or.inl ⟨_, rfl⟩) (ad, (cf g ad x sp dy la kn re)) B (PO_of B) ⟨rfl, ⟨_, rfl⟩, rfl⟩ (Nat.le_of_ble_eq_true rfl) (Nat.le_of_ble_eq_true rfl) dX2_resultInSigns_16
set_option maxHeartbeats 4000000 in
set_option maxRecDepth 100000 in
theorem c_X2_piled (l : Launch) (g : GG) (N : Nat) (ad : Nat → Nat) (x : Nat → va_E) (sp dy : Nat → TR) (la kn re : Int32) (hN : 23 ≤ N) (hla : ¬ la < 0) (hlb : ¬ 8 < la) (a1 : Int32) : KR l yX2_piled cX2_piled 2 (.object "java/lang/String") (rm 7 6 166) g [.ref (ad 0), .int a1] N ad (cf g ad x sp dy la kn re) N (fun r ad' f' => ad = ad' ∧ (∃ a : Nat, some a = r) ∧ (cf g ad x sp dy la kn re) = f') := by
  intro sz
  refine mt_start (by decide) (Nat.le_of_ble_eq_true rfl) ?_
  intro p e s m args below meth c hsz X hr hnam hA hK hT H locs B ls hl
  obtain ⟨hx, hb, hml, hown, hts, hlocks⟩ := id X
  have hl : lv_has ls 2 [(0, .ref (ad 0)), (1, .int a1)] := hl
  refine lv_iload_n hx hb dX2_piled_0 rfl (lv_at hl 1 rfl) ?_
  refine lv_if_lt (tgt := 12) hx hb dX2_piled_1 (by decide) (fun c1 => ?_) (fun c1 => ?_)
  · refine b_ldc (i := 0) (by decide) rfl rfl X hT dX2_piled_12 ?_
    exact rt_r (r := some (g.2.2 (100 + 0))) rfl X hr (Or.inl ⟨_, rfl⟩) (ad, (cf g ad x sp dy la kn re)) B (PO_of B) ⟨rfl, ⟨_, rfl⟩, rfl⟩ (Nat.le_of_ble_eq_true rfl) (Nat.le_of_ble_eq_true rfl) dX2_piled_14
  · refine lv_iload_n hx hb dX2_piled_4 rfl (lv_at hl 1 rfl) ?_
    refine lv_aload_n hx hb dX2_piled_5 rfl (lv_at hl 0 rfl) ?_
    refine g_get (q := 0) (k := 3) X hK B rfl in_X2 (pl_c hN 0 (by decide)) cf_0 (by decide) lk_X2_91 rfl rfl dX2_piled_6 ?_
    refine lv_icmp_lt (tgt := 15) hx hb dX2_piled_9 (by decide) (fun c2 => ?_) (fun c2 => ?_)
    · refine lv_aload_n hx hb dX2_piled_15 rfl (lv_at hl 0 rfl) ?_
      refine g_get (q := 0) (k := 1) X hK B rfl in_X2 (pl_c hN 0 (by decide)) cf_0 (by decide) lk_X2_15 rfl rfl dX2_piled_16 ?_
      refine lv_iload_n hx hb dX2_piled_19 rfl (lv_at hl 1 rfl) ?_
      refine g_aald (q := 2) (t0 := 3) X hK B (pl_c hN 2 (by decide)) cf_2 rfl rfl (ix_in (n := 8) c1 (le_tr (Int32.not_le.mpr c2) hlb) rfl) dX2_piled_20 ?_
      have h3 : 4 + a1.toNatClampNeg < 14 := by have := (ix_lt (n := 8) c1 (le_tr (Int32.not_le.mpr c2) hlb) rfl); omega
      rw [show va_rf (some (ad (8 + a1.toNatClampNeg))) = Value.ref (ad (4 + (4 + a1.toNatClampNeg))) from by rw [← Nat.add_assoc]; rfl]
      refine k_r (k := 6) (n := 166) hA B (u_VN (rest := []) X (c_W_inS l g N ad (cf g ad x sp dy la kn re) (4 + (4 + a1.toNatClampNeg)) (ad (4 + (4 + a1.toNatClampNeg))) (sp (4 + a1.toNatClampNeg)) (pl_sp hN h3) rfl (cf_sp h3) H.size) mw_X1_inSigns md_X1_inSigns rfl lk_X2_100 ⟨Nat.le_of_ble_eq_true rfl, Nat.le_of_ble_eq_true rfl⟩ hA hK hT B (pl_sp hN h3) (cf_sp h3) rfl rfl hl.1 rfl (Nat.le_of_ble_eq_true rfl) dX2_piled_21 ⟨Nat.le_of_ble_eq_true rfl, Nat.le_of_ble_eq_true rfl⟩) (Nat.le_of_ble_eq_true rfl) (Nat.le_of_ble_eq_true rfl) (fun r ad' f' H locs hw B => ?_)
      obtain ⟨rfl, ⟨so4, rfl⟩, rfl⟩ := hw
      exact rt_r (r := some (so4)) rfl X hr (Or.inl ⟨_, rfl⟩) (ad, (cf g ad x sp dy la kn re)) B (PO_of B) ⟨rfl, ⟨_, rfl⟩, rfl⟩ (Nat.le_of_ble_eq_true rfl) (Nat.le_of_ble_eq_true rfl) dX2_piled_24
    · refine b_ldc (i := 0) (by decide) rfl rfl X hT dX2_piled_12 ?_
      exact rt_r (r := some (g.2.2 (100 + 0))) rfl X hr (Or.inl ⟨_, rfl⟩) (ad, (cf g ad x sp dy la kn re)) B (PO_of B) ⟨rfl, ⟨_, rfl⟩, rfl⟩ (Nat.le_of_ble_eq_true rfl) (Nat.le_of_ble_eq_true rfl) dX2_piled_14
def x_X2_total (a1 : Int32) : Option String := xo (x_X2_cardAt a1) none
set_option maxHeartbeats 4000000 in
set_option maxRecDepth 100000 in
theorem c_X2_total (l : Launch) (hfl : l.stackTraces = false) (g : GG) (N : Nat) (ad : Nat → Nat) (x : Nat → va_E) (sp dy : Nat → TR) (la kn re : Int32) (hN : 23 ≤ N) (a1 : Int32) : XR l yX2_total cX2_total 2 (.object "java/lang/String") (rm 7 5 46) g [.ref (ad 0), .int a1] N ad (cf g ad x sp dy la kn re) N (fun E => x_X2_total a1 = some E) (fun r ad' f' => ad = ad' ∧ x_X2_total a1 = none ∧ (∃ a : Nat, some a = r) ∧ (cf g ad x sp dy la kn re) = f') := by
  intro sz
  refine mx_start (by decide) (Nat.le_of_ble_eq_true rfl) ?_
  intro p e s m args below meth c hsz X hr hex hA hK hT H locs B ls hl
  obtain ⟨hx, hb, hml, hown, hts, hlocks⟩ := id X
  have hl : lv_has ls 2 [(0, .ref (ad 0)), (1, .int a1)] := hl
  refine lv_aload_n hx hb dX2_total_0 rfl (lv_at hl 0 rfl) ?_
  refine lv_iload_n hx hb dX2_total_1 rfl (lv_at hl 1 rfl) ?_
  refine k_xr (k := 1) (n := 6) hex X hsz hA B (ux_V (rest := []) X (c_X2_cardAt l hfl g N ad x sp dy la kn re hN a1 H.size) mw_X2_cardAt md_X2_cardAt rfl lk_X2_37 ⟨Nat.le_of_ble_eq_true rfl, Nat.le_of_ble_eq_true rfl⟩ hA hK hT B (pl_c hN 0 (by decide)) cf_0 rfl rfl hl.1 rfl (Nat.le_of_ble_eq_true rfl) dX2_total_2 ⟨Nat.le_of_ble_eq_true rfl, Nat.le_of_ble_eq_true rfl⟩) (Nat.le_of_ble_eq_true rfl) (Nat.le_of_ble_eq_true rfl) (Nat.le_of_ble_eq_true rfl) (Nat.le_of_ble_eq_true rfl) (fun E hE => by unfold x_X2_total; rw [xo_some hE]) (fun r ad' f' H locs hw B => ?_)
  obtain ⟨rfl, x1, rfl, rfl⟩ := hw
  refine k_l (k := 1) (n := 6) hA B (u_VN (rest := []) X (c_X1_allMonths l g N ad x sp dy la kn re hN a1.toNatClampNeg (Nat.lt_of_lt_of_le (xl_X2_cardAt x1) (by decide)) H.size) mw_X1_allMonths md_X1_allMonths rfl lk_X2_108 ⟨Nat.le_of_ble_eq_true rfl, Nat.le_of_ble_eq_true rfl⟩ hA hK hT B (pl_sp hN (Nat.lt_of_lt_of_le (xl_X2_cardAt x1) (by decide))) (cf_sp (Nat.lt_of_lt_of_le (xl_X2_cardAt x1) (by decide))) rfl rfl hl.1 rfl (Nat.le_of_ble_eq_true rfl) dX2_total_5 ⟨Nat.le_of_ble_eq_true rfl, Nat.le_of_ble_eq_true rfl⟩) (Nat.le_of_ble_eq_true rfl) (Nat.le_of_ble_eq_true rfl) (fun r ad' f' H locs hw B => ?_)
  obtain ⟨rfl, rfl, rfl⟩ := hw
  refine k_r (k := 5) (n := 46) hA B (u_S (rest := []) X (c_W_inN l g N ad (cf g ad x sp dy la kn re) (v_X1_allMonths sp a1.toNatClampNeg) H.size) mw_X2_numberInSigns md_X2_numberInSigns rfl lk_X2_112 ⟨Nat.le_of_ble_eq_true rfl, Nat.le_of_ble_eq_true rfl⟩ hA hK hT B hl.1 rfl (Nat.le_of_ble_eq_true rfl) dX2_total_8 ⟨Nat.le_of_ble_eq_true rfl, Nat.le_of_ble_eq_true rfl⟩) (Nat.le_of_ble_eq_true rfl) (Nat.le_of_ble_eq_true rfl) (fun r ad' f' H locs hw B => ?_)
  obtain ⟨rfl, ⟨so2, rfl⟩, rfl⟩ := hw
  exact vx_ret (rt_r (r := some (so2)) rfl X hr (Or.inl ⟨_, rfl⟩) (ad, (cf g ad x sp dy la kn re)) B (PO_of B) ⟨rfl, by unfold x_X2_total; rw [xo_none x1], ⟨_, rfl⟩, rfl⟩ (Nat.le_of_ble_eq_true rfl) (Nat.le_of_ble_eq_true rfl) dX2_total_11)
def x_X2_text (a1 : Int32) : Option String := xo (x_X2_cardAt a1) none
set_option maxHeartbeats 4000000 in
set_option maxRecDepth 100000 in
theorem c_X2_text (l : Launch) (hfl : l.stackTraces = false) (g : GG) (N : Nat) (ad : Nat → Nat) (x : Nat → va_E) (sp dy : Nat → TR) (la kn re : Int32) (hN : 23 ≤ N) (a1 : Int32) : XR l yX2_text cX2_text 2 (.object "java/lang/String") (rm 7 7 172) g [.ref (ad 0), .int a1] N ad (cf g ad x sp dy la kn re) N (fun E => x_X2_text a1 = some E) (fun r ad' f' => ad = ad' ∧ x_X2_text a1 = none ∧ (∃ a : Nat, some a = r) ∧ (cf g ad x sp dy la kn re) = f') := by
  intro sz
  refine mx_start (by decide) (Nat.le_of_ble_eq_true rfl) ?_
  intro p e s m args below meth c hsz X hr hex hA hK hT H locs B ls hl
  obtain ⟨hx, hb, hml, hown, hts, hlocks⟩ := id X
  have hl : lv_has ls 2 [(0, .ref (ad 0)), (1, .int a1)] := hl
  refine lv_aload_n hx hb dX2_text_0 rfl (lv_at hl 0 rfl) ?_
  refine lv_iload_n hx hb dX2_text_1 rfl (lv_at hl 1 rfl) ?_
  refine k_xr (k := 1) (n := 6) hex X hsz hA B (ux_V (rest := []) X (c_X2_cardAt l hfl g N ad x sp dy la kn re hN a1 H.size) mw_X2_cardAt md_X2_cardAt rfl lk_X2_37 ⟨Nat.le_of_ble_eq_true rfl, Nat.le_of_ble_eq_true rfl⟩ hA hK hT B (pl_c hN 0 (by decide)) cf_0 rfl rfl hl.1 rfl (Nat.le_of_ble_eq_true rfl) dX2_text_2 ⟨Nat.le_of_ble_eq_true rfl, Nat.le_of_ble_eq_true rfl⟩) (Nat.le_of_ble_eq_true rfl) (Nat.le_of_ble_eq_true rfl) (Nat.le_of_ble_eq_true rfl) (Nat.le_of_ble_eq_true rfl) (fun E hE => by unfold x_X2_text; rw [xo_some hE]) (fun r ad' f' H locs hw B => ?_)
  obtain ⟨rfl, x1, rfl, rfl⟩ := hw
  refine k_r (k := 7) (n := 172) hA B (u_VN (rest := []) X (c_W_inS l g N ad (cf g ad x sp dy la kn re) (4 + a1.toNatClampNeg) (ad (4 + a1.toNatClampNeg)) (sp a1.toNatClampNeg) (pl_sp hN (Nat.lt_of_lt_of_le (xl_X2_cardAt x1) (by decide))) rfl (cf_sp (Nat.lt_of_lt_of_le (xl_X2_cardAt x1) (by decide))) H.size) mw_X1_inSigns md_X1_inSigns rfl lk_X2_100 ⟨Nat.le_of_ble_eq_true rfl, Nat.le_of_ble_eq_true rfl⟩ hA hK hT B (pl_sp hN (Nat.lt_of_lt_of_le (xl_X2_cardAt x1) (by decide))) (cf_sp (Nat.lt_of_lt_of_le (xl_X2_cardAt x1) (by decide))) rfl rfl hl.1 rfl (Nat.le_of_ble_eq_true rfl) dX2_text_5 ⟨Nat.le_of_ble_eq_true rfl, Nat.le_of_ble_eq_true rfl⟩) (Nat.le_of_ble_eq_true rfl) (Nat.le_of_ble_eq_true rfl) (fun r ad' f' H locs hw B => ?_)
  obtain ⟨rfl, ⟨so2, rfl⟩, rfl⟩ := hw
  exact vx_ret (rt_r (r := some (so2)) rfl X hr (Or.inl ⟨_, rfl⟩) (ad, (cf g ad x sp dy la kn re)) B (PO_of B) ⟨rfl, by unfold x_X2_text; rw [xo_none x1], ⟨_, rfl⟩, rfl⟩ (Nat.le_of_ble_eq_true rfl) (Nat.le_of_ble_eq_true rfl) dX2_text_8)
def v_X2_times (sp : Nat → TR) (a1 : Int32) (a2 : Int32) : (Nat → TR) := (v_X1_putTimes sp 12 a1.toNatClampNeg a2.toInt64).2
def x_X2_times (a1 : Int32) : Option String := xo (x_X2_cardAt a1) none
set_option maxHeartbeats 4000000 in
set_option maxRecDepth 100000 in
theorem c_X2_times (l : Launch) (hfl : l.stackTraces = false) (g : GG) (N : Nat) (ad : Nat → Nat) (x : Nat → va_E) (sp dy : Nat → TR) (la kn re : Int32) (hN : 23 ≤ N) (a1 : Int32) (a2 : Int32) : XR l yX2_times cX2_times 3 (.object "java/lang/String") (rm 8 7 172) g [.ref (ad 0), .int a1, .int a2] N ad (cf g ad x sp dy la kn re) N (fun E => x_X2_times a1 = some E) (fun r ad' f' => ad = ad' ∧ x_X2_times a1 = none ∧ (∃ a : Nat, some a = r) ∧ (cf g ad x (v_X2_times sp a1 a2) dy la kn re) = f') := by
  intro sz
  refine mx_start (by decide) (Nat.le_of_ble_eq_true rfl) ?_
  intro p e s m args below meth c hsz X hr hex hA hK hT H locs B ls hl
  obtain ⟨hx, hb, hml, hown, hts, hlocks⟩ := id X
  have hl : lv_has ls 3 [(0, .ref (ad 0)), (1, .int a1), (2, .int a2)] := hl
  refine lv_aload_n hx hb dX2_times_0 rfl (lv_at hl 0 rfl) ?_
  refine lv_aload_n hx hb dX2_times_1 rfl (lv_at hl 0 rfl) ?_
  refine g_get (q := 0) (k := 6) X hK B rfl in_X2 (pl_c hN 0 (by decide)) cf_0 (by decide) lk_X2_25 rfl rfl dX2_times_2 ?_
  refine lv_aload_n hx hb dX2_times_5 rfl (lv_at hl 0 rfl) ?_
  refine lv_iload_n hx hb dX2_times_6 rfl (lv_at hl 1 rfl) ?_
  refine k_xr (k := 1) (n := 6) hex X hsz hA B (ux_V (rest := [.ref (ad (4 + 12)), .ref (ad 0)]) X (c_X2_cardAt l hfl g N ad x sp dy la kn re hN a1 H.size) mw_X2_cardAt md_X2_cardAt rfl lk_X2_37 ⟨Nat.le_of_ble_eq_true rfl, Nat.le_of_ble_eq_true rfl⟩ hA hK hT B (pl_c hN 0 (by decide)) cf_0 rfl rfl hl.1 rfl (Nat.le_of_ble_eq_true rfl) dX2_times_7 ⟨Nat.le_of_ble_eq_true rfl, Nat.le_of_ble_eq_true rfl⟩) (Nat.le_of_ble_eq_true rfl) (Nat.le_of_ble_eq_true rfl) (Nat.le_of_ble_eq_true rfl) (Nat.le_of_ble_eq_true rfl) (fun E hE => by unfold x_X2_times; rw [xo_some hE]) (fun r ad' f' H locs hw B => ?_)
  obtain ⟨rfl, x1, rfl, rfl⟩ := hw
  refine lv_iload_n hx hb dX2_times_10 rfl (lv_at hl 2 rfl) ?_
  refine lv_i2l (v := a2.toInt64) hx hb dX2_times_11 rfl ?_
  refine k_i (k := 1) (n := 6) hA B (u_VN (rest := [.ref (ad 0)]) X (c_X1_putTimes l g N ad x sp dy la kn re hN 12 (by decide) a1.toNatClampNeg (Nat.lt_of_lt_of_le (xl_X2_cardAt x1) (by decide)) a2.toInt64 H.size) mw_X1_putTimes md_X1_putTimes rfl lk_X2_80 ⟨Nat.le_of_ble_eq_true rfl, Nat.le_of_ble_eq_true rfl⟩ hA hK hT B (pl_sp hN (by decide)) (cf_sp (by decide)) rfl rfl hl.1 rfl (Nat.le_of_ble_eq_true rfl) dX2_times_12 ⟨Nat.le_of_ble_eq_true rfl, Nat.le_of_ble_eq_true rfl⟩) (Nat.le_of_ble_eq_true rfl) (Nat.le_of_ble_eq_true rfl) (fun r ad' f' H locs hw B => ?_)
  obtain ⟨rfl, rfl, rfl⟩ := hw
  refine k_r (k := 7) (n := 172) hA B (u_V (rest := []) X (c_X2_resultInSigns l g N ad x (v_X1_putTimes sp 12 a1.toNatClampNeg a2.toInt64).2 dy la kn re hN (v_X1_putTimes sp 12 a1.toNatClampNeg a2.toInt64).1 H.size) mw_X2_resultInSigns md_X2_resultInSigns rfl lk_X2_129 ⟨Nat.le_of_ble_eq_true rfl, Nat.le_of_ble_eq_true rfl⟩ hA hK hT B (pl_c hN 0 (by decide)) cf_0 rfl rfl hl.1 rfl (Nat.le_of_ble_eq_true rfl) dX2_times_15 ⟨Nat.le_of_ble_eq_true rfl, Nat.le_of_ble_eq_true rfl⟩) (Nat.le_of_ble_eq_true rfl) (Nat.le_of_ble_eq_true rfl) (fun r ad' f' H locs hw B => ?_)
  obtain ⟨rfl, ⟨so2, rfl⟩, rfl⟩ := hw
  have ev := (show v_X2_times sp a1 a2 = (v_X1_putTimes sp 12 a1.toNatClampNeg a2.toInt64).2 from rfl)
  exact vx_ret (rt_r (r := some (so2)) rfl X hr (Or.inl ⟨_, rfl⟩) (ad, (cf g ad x (v_X1_putTimes sp 12 a1.toNatClampNeg a2.toInt64).2 dy la kn re)) B (PO_of B) ⟨rfl, by unfold x_X2_times; rw [xo_none x1], ⟨_, rfl⟩, by rw [ev]⟩ (Nat.le_of_ble_eq_true rfl) (Nat.le_of_ble_eq_true rfl) dX2_times_18)
def wX2_added_41 (a1 : Int32) (a2 : Int32) : Nat → Int32 → Int32 → (Nat → TR) → (Nat → TR)
  | 0, kk, ok, sp9 => sp9
  | n + 1, kk, ok, sp9 => if a2 ≤ kk then sp9 else (if ok = 0 then sp9 else (wX2_added_41 a1 a2 n (kk + 1) (v_X1_putSum sp9 12 12 a1.toNatClampNeg).1 (v_X1_putSum sp9 12 12 a1.toNatClampNeg).2))
def v_X2_added (sp : Nat → TR) (a1 : Int32) (a2 : Int32) : (Nat → TR) := if a2 < 0 then sp else (if a2 ≤ 9 then (wX2_added_41 a1 a2 ((a2.toInt - (0 : Int32).toInt).toNat + 1) 0 (v_X1_put sp 12 0 0 0).1 (v_X1_put sp 12 0 0 0).2) else sp)
def x_X2_added (a1 : Int32) (a2 : Int32) : Option String := xo (x_X2_cardAt a1) (if a2 < 0 then (some iaeN) else (if a2 ≤ 9 then none else (some iaeN)))
set_option maxHeartbeats 4000000 in
set_option maxRecDepth 100000 in
theorem c_X2_added (l : Launch) (hfl : l.stackTraces = false) (g : GG) (N : Nat) (ad : Nat → Nat) (x : Nat → va_E) (sp dy : Nat → TR) (la kn re : Int32) (hN : 23 ≤ N) (a1 : Int32) (a2 : Int32) : XR l yX2_added cX2_added 6 (.object "java/lang/String") (rm 8 7 172) g [.ref (ad 0), .int a1, .int a2] N ad (cf g ad x sp dy la kn re) N (fun E => x_X2_added a1 a2 = some E) (fun r ad' f' => ad = ad' ∧ x_X2_added a1 a2 = none ∧ (∃ a : Nat, some a = r) ∧ (cf g ad x (v_X2_added sp a1 a2) dy la kn re) = f') := by
  intro sz
  refine mx_start (by decide) (Nat.le_of_ble_eq_true rfl) ?_
  intro p e s m args below meth c hsz X hr hex hA hK hT H locs B ls hl
  obtain ⟨hx, hb, hml, hown, hts, hlocks⟩ := id X
  have hl : lv_has ls 6 [(0, .ref (ad 0)), (1, .int a1), (2, .int a2)] := hl
  refine lv_aload_n hx hb dX2_added_0 rfl (lv_at hl 0 rfl) ?_
  refine lv_iload_n hx hb dX2_added_1 rfl (lv_at hl 1 rfl) ?_
  refine k_xr (k := 1) (n := 6) hex X hsz hA B (ux_V (rest := []) X (c_X2_cardAt l hfl g N ad x sp dy la kn re hN a1 H.size) mw_X2_cardAt md_X2_cardAt rfl lk_X2_37 ⟨Nat.le_of_ble_eq_true rfl, Nat.le_of_ble_eq_true rfl⟩ hA hK hT B (pl_c hN 0 (by decide)) cf_0 rfl rfl hl.1 rfl (Nat.le_of_ble_eq_true rfl) dX2_added_2 ⟨Nat.le_of_ble_eq_true rfl, Nat.le_of_ble_eq_true rfl⟩) (Nat.le_of_ble_eq_true rfl) (Nat.le_of_ble_eq_true rfl) (Nat.le_of_ble_eq_true rfl) (Nat.le_of_ble_eq_true rfl) (fun E hE => by unfold x_X2_added; rw [xo_some hE]) (fun r ad' f' H locs hw B => ?_)
  obtain ⟨rfl, x1, rfl, rfl⟩ := hw
  refine lv_astore_n (lv' := [(3, .ref (ad (4 + a1.toNatClampNeg))), (0, .ref (ad 0)), (1, .int a1), (2, .int a2)]) hx hb dX2_added_5 rfl hl (by decide) rfl (fun ls hl => ?_)
  refine lv_iload_n hx hb dX2_added_6 rfl (lv_at hl 3 rfl) ?_
  refine lv_if_lt (tgt := 16) hx hb dX2_added_7 (by decide) (fun c2 => ?_) (fun c2 => ?_)
  · exact g_throw (cls := "java/lang/IllegalArgumentException") (names := ["java/lang/RuntimeException", "java/lang/Exception"]) (i := 6) X hfl (by decide) lk_X2_133 ii_java_lang_IllegalArgumentException (by decide) rfl at_X2_137 ag_X2_137 hex hsz hT B hl.1 dX2_added_16 dX2_added_19 dX2_added_20 dX2_added_22 dX2_added_25 (by decide) (Nat.le_of_ble_eq_true rfl) (Nat.le_of_ble_eq_true rfl) (Nat.le_of_ble_eq_true rfl) (by unfold x_X2_added; rw [xo_none x1, if_pos c2]; rfl) (Nat.le_of_ble_eq_true rfl) (Nat.le_of_ble_eq_true rfl)
  · refine lv_iload_n hx hb dX2_added_10 rfl (lv_at hl 3 rfl) ?_
    refine lv_bipush (v := 9) hx hb dX2_added_11 (by decide) ?_
    refine lv_icmp_le (tgt := 26) hx hb dX2_added_13 (by decide) (fun c3 => ?_) (fun c3 => ?_)
    · refine lv_aload_n hx hb dX2_added_26 rfl (lv_at hl 1 rfl) ?_
      refine g_get (q := 0) (k := 6) X hK B rfl in_X2 (pl_c hN 0 (by decide)) cf_0 (by decide) lk_X2_25 rfl rfl dX2_added_27 ?_
      refine lv_lconst (v := 0) hx hb dX2_added_30 (by decide) ?_
      refine lv_lconst (v := 0) hx hb dX2_added_31 (by decide) ?_
      refine lv_lconst (v := 0) hx hb dX2_added_32 (by decide) ?_
      refine k_i (k := 1) (n := 6) hA B (u_VN (rest := []) X (c_X1_put l g N ad x sp dy la kn re hN 12 (by decide) 0 0 0 H.size) mw_X1_put md_X1_put rfl lk_X2_41 ⟨Nat.le_of_ble_eq_true rfl, Nat.le_of_ble_eq_true rfl⟩ hA hK hT B (pl_sp hN (by decide)) (cf_sp (by decide)) rfl rfl hl.1 rfl (Nat.le_of_ble_eq_true rfl) dX2_added_33 ⟨Nat.le_of_ble_eq_true rfl, Nat.le_of_ble_eq_true rfl⟩) (Nat.le_of_ble_eq_true rfl) (Nat.le_of_ble_eq_true rfl) (fun r ad' f' H locs hw B => ?_)
      obtain ⟨rfl, rfl, rfl⟩ := hw
      refine lv_istore (lv' := [(4, .int (v_X1_put sp 12 0 0 0).1), (3, .ref (ad (4 + a1.toNatClampNeg))), (0, .ref (ad 0)), (1, .int a1), (2, .int a2)]) hx hb dX2_added_36 hl (by decide) rfl (fun ls hl => ?_)
      refine lv_iconst (v := 0) hx hb dX2_added_38 (by decide) ?_
      refine lv_istore (lv' := [(5, .int 0), (4, .int (v_X1_put sp 12 0 0 0).1), (3, .ref (ad (4 + a1.toNatClampNeg))), (0, .ref (ad 0)), (1, .int a1), (2, .int a2)]) hx hb dX2_added_39 hl (by decide) rfl (fun ls hl => ?_)
      have hxn : x_X2_added a1 a2 = none := by unfold x_X2_added; rw [xo_none x1, if_neg c2, if_pos c3]
      have loop4 : ∀ (n4 : Nat) (kk : Int32) (ok : Int32) (sp9 : Nat → TR) (H : Heap) (locs : List Loc), (a2.toInt - kk.toInt).toNat < n4 → v_X2_added sp a1 a2 = wX2_added_41 a1 a2 n4 kk ok sp9 → WB g (aw N ad sz) s.heap N ad (cf g ad x sp9 dy la kn re) H locs → ∀ ls : Array Slot, lv_has ls 6 [(5, .int kk), (4, .int ok), (3, .ref (ad (4 + a1.toNatClampNeg))), (0, .ref (ad 0)), (1, .int a1), (2, .int a2)] → W p l e (rm 8 7 172) s m args below meth c H locs 1 6 (vx_MQ below (va_Qq (fun r (u : WS) => (fun r ad' f' => ad = ad' ∧ x_X2_added a1 a2 = none ∧ (∃ a : Nat, some a = r) ∧ (cf g ad x (v_X2_added sp a1 a2) dy la kn re) = f') r u.1 u.2) (fun u t => PO g N u.1 u.2 (aw N ad sz) t) (aw N ad sz)) (XS g N ad (cf g ad x sp dy la kn re) sz (fun E => x_X2_added a1 a2 = some E)) args s (rm 8 7 172).cells (rm 8 7 172).slots (aw N ad sz)) (F0 m 41 ls []) := by
        intro n4
        induction n4 with
        | zero => intro kk ok sp9 H locs hn; exact absurd hn (Nat.not_lt_zero _)
        | succ n4 ih4 =>
          intro kk ok sp9 H locs hn4 he4 B ls hl
          refine lv_iload hx hb dX2_added_41 (lv_at hl 0 rfl) ?_
          refine lv_iload_n hx hb dX2_added_43 rfl (lv_at hl 5 rfl) ?_
          refine lv_icmp_ge (tgt := 72) hx hb dX2_added_44 (by decide) (fun c5 => ?_) (fun c5 => ?_)
          · refine lv_aload_n hx hb dX2_added_72 rfl (lv_at hl 3 rfl) ?_
            refine lv_iload hx hb dX2_added_73 (lv_at hl 1 rfl) ?_
            refine k_r (k := 7) (n := 172) hA B (u_V (rest := []) X (c_X2_resultInSigns l g N ad x sp9 dy la kn re hN ok H.size) mw_X2_resultInSigns md_X2_resultInSigns rfl lk_X2_129 ⟨Nat.le_of_ble_eq_true rfl, Nat.le_of_ble_eq_true rfl⟩ hA hK hT B (pl_c hN 0 (by decide)) cf_0 rfl rfl hl.1 rfl (Nat.le_of_ble_eq_true rfl) dX2_added_75 ⟨Nat.le_of_ble_eq_true rfl, Nat.le_of_ble_eq_true rfl⟩) (Nat.le_of_ble_eq_true rfl) (Nat.le_of_ble_eq_true rfl) (fun r ad' f' H locs hw B => ?_)
            obtain ⟨rfl, ⟨so6, rfl⟩, rfl⟩ := hw
            have ev := (show v_X2_added sp a1 a2 = sp9 from he4.trans (by rw [wX2_added_41, if_pos c5]))
            exact vx_ret (rt_r (r := some (so6)) rfl X hr (Or.inl ⟨_, rfl⟩) (ad, (cf g ad x sp9 dy la kn re)) B (PO_of B) ⟨rfl, hxn, ⟨_, rfl⟩, by rw [ev]⟩ (Nat.le_of_ble_eq_true rfl) (Nat.le_of_ble_eq_true rfl) dX2_added_78)
          · refine lv_iload hx hb dX2_added_47 (lv_at hl 1 rfl) ?_
            refine lv_if_eq (tgt := 72) hx hb dX2_added_49 (by decide) (fun c7 => ?_) (fun c7 => ?_)
            · refine lv_aload_n hx hb dX2_added_72 rfl (lv_at hl 3 rfl) ?_
              refine lv_iload hx hb dX2_added_73 (lv_at hl 1 rfl) ?_
              refine k_r (k := 7) (n := 172) hA B (u_V (rest := []) X (c_X2_resultInSigns l g N ad x sp9 dy la kn re hN ok H.size) mw_X2_resultInSigns md_X2_resultInSigns rfl lk_X2_129 ⟨Nat.le_of_ble_eq_true rfl, Nat.le_of_ble_eq_true rfl⟩ hA hK hT B (pl_c hN 0 (by decide)) cf_0 rfl rfl hl.1 rfl (Nat.le_of_ble_eq_true rfl) dX2_added_75 ⟨Nat.le_of_ble_eq_true rfl, Nat.le_of_ble_eq_true rfl⟩) (Nat.le_of_ble_eq_true rfl) (Nat.le_of_ble_eq_true rfl) (fun r ad' f' H locs hw B => ?_)
              obtain ⟨rfl, ⟨so8, rfl⟩, rfl⟩ := hw
              have ev := (show v_X2_added sp a1 a2 = sp9 from he4.trans (by rw [wX2_added_41, if_neg c5, if_pos c7]))
              exact vx_ret (rt_r (r := some (so8)) rfl X hr (Or.inl ⟨_, rfl⟩) (ad, (cf g ad x sp9 dy la kn re)) B (PO_of B) ⟨rfl, hxn, ⟨_, rfl⟩, by rw [ev]⟩ (Nat.le_of_ble_eq_true rfl) (Nat.le_of_ble_eq_true rfl) dX2_added_78)
            · refine lv_aload_n hx hb dX2_added_52 rfl (lv_at hl 3 rfl) ?_
              refine g_get (q := 0) (k := 6) X hK B rfl in_X2 (pl_c hN 0 (by decide)) cf_0 (by decide) lk_X2_25 rfl rfl dX2_added_53 ?_
              refine lv_aload_n hx hb dX2_added_56 rfl (lv_at hl 3 rfl) ?_
              refine g_get (q := 0) (k := 6) X hK B rfl in_X2 (pl_c hN 0 (by decide)) cf_0 (by decide) lk_X2_25 rfl rfl dX2_added_57 ?_
              refine lv_aload_n hx hb dX2_added_60 rfl (lv_at hl 2 rfl) ?_
              refine k_i (k := 1) (n := 6) hA B (u_VN (rest := []) X (c_X1_putSum l g N ad x sp9 dy la kn re hN 12 (by decide) 12 (by decide) a1.toNatClampNeg (Nat.lt_of_lt_of_le (xl_X2_cardAt x1) (by decide)) H.size) mw_X1_putSum md_X1_putSum rfl lk_X2_73 ⟨Nat.le_of_ble_eq_true rfl, Nat.le_of_ble_eq_true rfl⟩ hA hK hT B (pl_sp hN (by decide)) (cf_sp (by decide)) rfl rfl hl.1 rfl (Nat.le_of_ble_eq_true rfl) dX2_added_61 ⟨Nat.le_of_ble_eq_true rfl, Nat.le_of_ble_eq_true rfl⟩) (Nat.le_of_ble_eq_true rfl) (Nat.le_of_ble_eq_true rfl) (fun r ad' f' H locs hw B => ?_)
              obtain ⟨rfl, rfl, rfl⟩ := hw
              refine lv_istore (lv' := [(4, .int (v_X1_putSum sp9 12 12 a1.toNatClampNeg).1), (5, .int kk), (3, .ref (ad (4 + a1.toNatClampNeg))), (0, .ref (ad 0)), (1, .int a1), (2, .int a2)]) hx hb dX2_added_64 hl (by decide) rfl (fun ls hl => ?_)
              refine lv_iinc (v := kk + 1) (lv' := [(5, .int (kk + 1)), (4, .int (v_X1_putSum sp9 12 12 a1.toNatClampNeg).1), (3, .ref (ad (4 + a1.toNatClampNeg))), (0, .ref (ad 0)), (1, .int a1), (2, .int a2)]) hx hb dX2_added_66 hl (k := 1) rfl rfl (by decide) rfl (fun ls hl => ?_)
              refine lv_goto (tgt := 41) hx hb dX2_added_69 (by decide) ?_
              exact ih4 (kk + 1) (v_X1_putSum sp9 12 12 a1.toNatClampNeg).1 (v_X1_putSum sp9 12 12 a1.toNatClampNeg).2 H locs (fu_le c5 hn4) (show v_X2_added sp a1 a2 = wX2_added_41 a1 a2 n4 (kk + 1) (v_X1_putSum sp9 12 12 a1.toNatClampNeg).1 (v_X1_putSum sp9 12 12 a1.toNatClampNeg).2 from he4.trans (by rw [wX2_added_41, if_neg c5, if_neg c7])) B ls (lv_sub hl [0, 1, 2, 3, 4, 5] rfl)
      exact loop4 ((a2.toInt - (0 : Int32).toInt).toNat + 1) 0 (v_X1_put sp 12 0 0 0).1 (v_X1_put sp 12 0 0 0).2 H locs (Nat.lt_succ_self _) (show v_X2_added sp a1 a2 = wX2_added_41 a1 a2 ((a2.toInt - (0 : Int32).toInt).toNat + 1) 0 (v_X1_put sp 12 0 0 0).1 (v_X1_put sp 12 0 0 0).2 from by unfold v_X2_added; rw [if_neg c2, if_pos c3]) B ls hl
    · exact g_throw (cls := "java/lang/IllegalArgumentException") (names := ["java/lang/RuntimeException", "java/lang/Exception"]) (i := 6) X hfl (by decide) lk_X2_133 ii_java_lang_IllegalArgumentException (by decide) rfl at_X2_137 ag_X2_137 hex hsz hT B hl.1 dX2_added_16 dX2_added_19 dX2_added_20 dX2_added_22 dX2_added_25 (by decide) (Nat.le_of_ble_eq_true rfl) (Nat.le_of_ble_eq_true rfl) (Nat.le_of_ble_eq_true rfl) (by unfold x_X2_added; rw [xo_none x1, if_neg c2, if_neg c3]; rfl) (Nat.le_of_ble_eq_true rfl) (Nat.le_of_ble_eq_true rfl)
def v_X2_with (sp : Nat → TR) (a1 : Int32) (a2 : Int32) (a3 : Int32) : (Nat → TR) := if a3 = 0 then (v_X1_putSum sp 12 a1.toNatClampNeg a2.toNatClampNeg).2 else (v_X1_putDifference sp 12 a1.toNatClampNeg a2.toNatClampNeg).2
def x_X2_with (a1 : Int32) (a2 : Int32) (a3 : Int32) : Option String := xo (x_X2_cardAt a1) (xo (x_X2_cardAt a2) (if a3 = 0 then none else none))
set_option maxHeartbeats 4000000 in
set_option maxRecDepth 100000 in
theorem c_X2_with (l : Launch) (hfl : l.stackTraces = false) (g : GG) (N : Nat) (ad : Nat → Nat) (x : Nat → va_E) (sp dy : Nat → TR) (la kn re : Int32) (hN : 23 ≤ N) (a1 : Int32) (a2 : Int32) (a3 : Int32) : XR l yX2_with cX2_with 7 (.object "java/lang/String") (rm 8 8 178) g [.ref (ad 0), .int a1, .int a2, .int a3] N ad (cf g ad x sp dy la kn re) N (fun E => x_X2_with a1 a2 a3 = some E) (fun r ad' f' => ad = ad' ∧ x_X2_with a1 a2 a3 = none ∧ (∃ a : Nat, some a = r) ∧ (cf g ad x (v_X2_with sp a1 a2 a3) dy la kn re) = f') := by
  intro sz
  refine mx_start (by decide) (Nat.le_of_ble_eq_true rfl) ?_
  intro p e s m args below meth c hsz X hr hex hA hK hT H locs B ls hl
  obtain ⟨hx, hb, hml, hown, hts, hlocks⟩ := id X
  have hl : lv_has ls 7 [(0, .ref (ad 0)), (1, .int a1), (2, .int a2), (3, .int a3)] := hl
  refine lv_aload_n hx hb dX2_with_0 rfl (lv_at hl 0 rfl) ?_
  refine lv_iload_n hx hb dX2_with_1 rfl (lv_at hl 1 rfl) ?_
  refine k_xr (k := 1) (n := 6) hex X hsz hA B (ux_V (rest := []) X (c_X2_cardAt l hfl g N ad x sp dy la kn re hN a1 H.size) mw_X2_cardAt md_X2_cardAt rfl lk_X2_37 ⟨Nat.le_of_ble_eq_true rfl, Nat.le_of_ble_eq_true rfl⟩ hA hK hT B (pl_c hN 0 (by decide)) cf_0 rfl rfl hl.1 rfl (Nat.le_of_ble_eq_true rfl) dX2_with_2 ⟨Nat.le_of_ble_eq_true rfl, Nat.le_of_ble_eq_true rfl⟩) (Nat.le_of_ble_eq_true rfl) (Nat.le_of_ble_eq_true rfl) (Nat.le_of_ble_eq_true rfl) (Nat.le_of_ble_eq_true rfl) (fun E hE => by unfold x_X2_with; rw [xo_some hE]) (fun r ad' f' H locs hw B => ?_)
  obtain ⟨rfl, x1, rfl, rfl⟩ := hw
  refine lv_astore (lv' := [(4, .ref (ad (4 + a1.toNatClampNeg))), (0, .ref (ad 0)), (1, .int a1), (2, .int a2), (3, .int a3)]) hx hb dX2_with_5 hl (by decide) rfl (fun ls hl => ?_)
  refine lv_aload_n hx hb dX2_with_7 rfl (lv_at hl 1 rfl) ?_
  refine lv_iload_n hx hb dX2_with_8 rfl (lv_at hl 3 rfl) ?_
  refine k_xr (k := 2) (n := 12) hex X hsz hA B (ux_V (rest := []) X (c_X2_cardAt l hfl g N ad x sp dy la kn re hN a2 H.size) mw_X2_cardAt md_X2_cardAt rfl lk_X2_37 ⟨Nat.le_of_ble_eq_true rfl, Nat.le_of_ble_eq_true rfl⟩ hA hK hT B (pl_c hN 0 (by decide)) cf_0 rfl rfl hl.1 rfl (Nat.le_of_ble_eq_true rfl) dX2_with_9 ⟨Nat.le_of_ble_eq_true rfl, Nat.le_of_ble_eq_true rfl⟩) (Nat.le_of_ble_eq_true rfl) (Nat.le_of_ble_eq_true rfl) (Nat.le_of_ble_eq_true rfl) (Nat.le_of_ble_eq_true rfl) (fun E hE => by unfold x_X2_with; rw [xo_none x1, xo_some hE]) (fun r ad' f' H locs hw B => ?_)
  obtain ⟨rfl, x2, rfl, rfl⟩ := hw
  refine lv_astore (lv' := [(5, .ref (ad (4 + a2.toNatClampNeg))), (4, .ref (ad (4 + a1.toNatClampNeg))), (0, .ref (ad 0)), (1, .int a1), (2, .int a2), (3, .int a3)]) hx hb dX2_with_12 hl (by decide) rfl (fun ls hl => ?_)
  refine lv_iload_n hx hb dX2_with_14 rfl (lv_at hl 5 rfl) ?_
  refine lv_if_eq (tgt := 32) hx hb dX2_with_15 (by decide) (fun c3 => ?_) (fun c3 => ?_)
  · refine lv_aload_n hx hb dX2_with_32 rfl (lv_at hl 2 rfl) ?_
    refine g_get (q := 0) (k := 6) X hK B rfl in_X2 (pl_c hN 0 (by decide)) cf_0 (by decide) lk_X2_25 rfl rfl dX2_with_33 ?_
    refine lv_aload hx hb dX2_with_36 (lv_at hl 1 rfl) ?_
    refine lv_aload hx hb dX2_with_38 (lv_at hl 0 rfl) ?_
    refine k_i (k := 2) (n := 12) hA B (u_VN (rest := []) X (c_X1_putSum l g N ad x sp dy la kn re hN 12 (by decide) a1.toNatClampNeg (Nat.lt_of_lt_of_le (xl_X2_cardAt x1) (by decide)) a2.toNatClampNeg (Nat.lt_of_lt_of_le (xl_X2_cardAt x2) (by decide)) H.size) mw_X1_putSum md_X1_putSum rfl lk_X2_73 ⟨Nat.le_of_ble_eq_true rfl, Nat.le_of_ble_eq_true rfl⟩ hA hK hT B (pl_sp hN (by decide)) (cf_sp (by decide)) rfl rfl hl.1 rfl (Nat.le_of_ble_eq_true rfl) dX2_with_40 ⟨Nat.le_of_ble_eq_true rfl, Nat.le_of_ble_eq_true rfl⟩) (Nat.le_of_ble_eq_true rfl) (Nat.le_of_ble_eq_true rfl) (fun r ad' f' H locs hw B => ?_)
    obtain ⟨rfl, rfl, rfl⟩ := hw
    refine lv_istore (lv' := [(6, .int (v_X1_putSum sp 12 a1.toNatClampNeg a2.toNatClampNeg).1), (5, .ref (ad (4 + a2.toNatClampNeg))), (4, .ref (ad (4 + a1.toNatClampNeg))), (0, .ref (ad 0)), (1, .int a1), (2, .int a2), (3, .int a3)]) hx hb dX2_with_43 hl (by decide) rfl (fun ls hl => ?_)
    refine lv_aload_n hx hb dX2_with_45 rfl (lv_at hl 3 rfl) ?_
    refine lv_iload hx hb dX2_with_46 (lv_at hl 0 rfl) ?_
    refine k_r (k := 8) (n := 178) hA B (u_V (rest := []) X (c_X2_resultInSigns l g N ad x (v_X1_putSum sp 12 a1.toNatClampNeg a2.toNatClampNeg).2 dy la kn re hN (v_X1_putSum sp 12 a1.toNatClampNeg a2.toNatClampNeg).1 H.size) mw_X2_resultInSigns md_X2_resultInSigns rfl lk_X2_129 ⟨Nat.le_of_ble_eq_true rfl, Nat.le_of_ble_eq_true rfl⟩ hA hK hT B (pl_c hN 0 (by decide)) cf_0 rfl rfl hl.1 rfl (Nat.le_of_ble_eq_true rfl) dX2_with_48 ⟨Nat.le_of_ble_eq_true rfl, Nat.le_of_ble_eq_true rfl⟩) (Nat.le_of_ble_eq_true rfl) (Nat.le_of_ble_eq_true rfl) (fun r ad' f' H locs hw B => ?_)
    obtain ⟨rfl, ⟨so4, rfl⟩, rfl⟩ := hw
    have ev := (show v_X2_with sp a1 a2 a3 = (v_X1_putSum sp 12 a1.toNatClampNeg a2.toNatClampNeg).2 from by unfold v_X2_with; rw [if_pos c3])
    exact vx_ret (rt_r (r := some (so4)) rfl X hr (Or.inl ⟨_, rfl⟩) (ad, (cf g ad x (v_X1_putSum sp 12 a1.toNatClampNeg a2.toNatClampNeg).2 dy la kn re)) B (PO_of B) ⟨rfl, by unfold x_X2_with; rw [xo_none x1, xo_none x2, if_pos c3], ⟨_, rfl⟩, by rw [ev]⟩ (Nat.le_of_ble_eq_true rfl) (Nat.le_of_ble_eq_true rfl) dX2_with_51)
  · refine lv_aload_n hx hb dX2_with_18 rfl (lv_at hl 2 rfl) ?_
    refine g_get (q := 0) (k := 6) X hK B rfl in_X2 (pl_c hN 0 (by decide)) cf_0 (by decide) lk_X2_25 rfl rfl dX2_with_19 ?_
    refine lv_aload hx hb dX2_with_22 (lv_at hl 1 rfl) ?_
    refine lv_aload hx hb dX2_with_24 (lv_at hl 0 rfl) ?_
    refine k_i (k := 2) (n := 12) hA B (u_VN (rest := []) X (c_X1_putDifference l g N ad x sp dy la kn re hN 12 (by decide) a1.toNatClampNeg (Nat.lt_of_lt_of_le (xl_X2_cardAt x1) (by decide)) a2.toNatClampNeg (Nat.lt_of_lt_of_le (xl_X2_cardAt x2) (by decide)) H.size) mw_X1_putDifference md_X1_putDifference rfl lk_X2_77 ⟨Nat.le_of_ble_eq_true rfl, Nat.le_of_ble_eq_true rfl⟩ hA hK hT B (pl_sp hN (by decide)) (cf_sp (by decide)) rfl rfl hl.1 rfl (Nat.le_of_ble_eq_true rfl) dX2_with_26 ⟨Nat.le_of_ble_eq_true rfl, Nat.le_of_ble_eq_true rfl⟩) (Nat.le_of_ble_eq_true rfl) (Nat.le_of_ble_eq_true rfl) (fun r ad' f' H locs hw B => ?_)
    obtain ⟨rfl, rfl, rfl⟩ := hw
    refine lv_goto (tgt := 43) hx hb dX2_with_29 (by decide) ?_
    refine lv_istore (lv' := [(6, .int (v_X1_putDifference sp 12 a1.toNatClampNeg a2.toNatClampNeg).1), (5, .ref (ad (4 + a2.toNatClampNeg))), (4, .ref (ad (4 + a1.toNatClampNeg))), (0, .ref (ad 0)), (1, .int a1), (2, .int a2), (3, .int a3)]) hx hb dX2_with_43 hl (by decide) rfl (fun ls hl => ?_)
    refine lv_aload_n hx hb dX2_with_45 rfl (lv_at hl 3 rfl) ?_
    refine lv_iload hx hb dX2_with_46 (lv_at hl 0 rfl) ?_
    refine k_r (k := 8) (n := 178) hA B (u_V (rest := []) X (c_X2_resultInSigns l g N ad x (v_X1_putDifference sp 12 a1.toNatClampNeg a2.toNatClampNeg).2 dy la kn re hN (v_X1_putDifference sp 12 a1.toNatClampNeg a2.toNatClampNeg).1 H.size) mw_X2_resultInSigns md_X2_resultInSigns rfl lk_X2_129 ⟨Nat.le_of_ble_eq_true rfl, Nat.le_of_ble_eq_true rfl⟩ hA hK hT B (pl_c hN 0 (by decide)) cf_0 rfl rfl hl.1 rfl (Nat.le_of_ble_eq_true rfl) dX2_with_48 ⟨Nat.le_of_ble_eq_true rfl, Nat.le_of_ble_eq_true rfl⟩) (Nat.le_of_ble_eq_true rfl) (Nat.le_of_ble_eq_true rfl) (fun r ad' f' H locs hw B => ?_)
    obtain ⟨rfl, ⟨so5, rfl⟩, rfl⟩ := hw
    have ev := (show v_X2_with sp a1 a2 a3 = (v_X1_putDifference sp 12 a1.toNatClampNeg a2.toNatClampNeg).2 from by unfold v_X2_with; rw [if_neg c3])
    exact vx_ret (rt_r (r := some (so5)) rfl X hr (Or.inl ⟨_, rfl⟩) (ad, (cf g ad x (v_X1_putDifference sp 12 a1.toNatClampNeg a2.toNatClampNeg).2 dy la kn re)) B (PO_of B) ⟨rfl, by unfold x_X2_with; rw [xo_none x1, xo_none x2, if_neg c3], ⟨_, rfl⟩, by rw [ev]⟩ (Nat.le_of_ble_eq_true rfl) (Nat.le_of_ble_eq_true rfl) dX2_with_51)
def v_X2_tidy (sp : Nat → TR) (a1 : Int32) : (Nat → TR) := (v_X1_putTidy sp 12 a1.toNatClampNeg).2
def x_X2_tidy (a1 : Int32) : Option String := xo (x_X2_cardAt a1) none
set_option maxHeartbeats 4000000 in
set_option maxRecDepth 100000 in
theorem c_X2_tidy (l : Launch) (hfl : l.stackTraces = false) (g : GG) (N : Nat) (ad : Nat → Nat) (x : Nat → va_E) (sp dy : Nat → TR) (la kn re : Int32) (hN : 23 ≤ N) (a1 : Int32) : XR l yX2_tidy cX2_tidy 2 (.object "java/lang/String") (rm 8 7 172) g [.ref (ad 0), .int a1] N ad (cf g ad x sp dy la kn re) N (fun E => x_X2_tidy a1 = some E) (fun r ad' f' => ad = ad' ∧ x_X2_tidy a1 = none ∧ (∃ a : Nat, some a = r) ∧ (cf g ad x (v_X2_tidy sp a1) dy la kn re) = f') := by
  intro sz
  refine mx_start (by decide) (Nat.le_of_ble_eq_true rfl) ?_
  intro p e s m args below meth c hsz X hr hex hA hK hT H locs B ls hl
  obtain ⟨hx, hb, hml, hown, hts, hlocks⟩ := id X
  have hl : lv_has ls 2 [(0, .ref (ad 0)), (1, .int a1)] := hl
  refine lv_aload_n hx hb dX2_tidy_0 rfl (lv_at hl 0 rfl) ?_
  refine lv_aload_n hx hb dX2_tidy_1 rfl (lv_at hl 0 rfl) ?_
  refine g_get (q := 0) (k := 6) X hK B rfl in_X2 (pl_c hN 0 (by decide)) cf_0 (by decide) lk_X2_25 rfl rfl dX2_tidy_2 ?_
  refine lv_aload_n hx hb dX2_tidy_5 rfl (lv_at hl 0 rfl) ?_
  refine lv_iload_n hx hb dX2_tidy_6 rfl (lv_at hl 1 rfl) ?_
  refine k_xr (k := 1) (n := 6) hex X hsz hA B (ux_V (rest := [.ref (ad (4 + 12)), .ref (ad 0)]) X (c_X2_cardAt l hfl g N ad x sp dy la kn re hN a1 H.size) mw_X2_cardAt md_X2_cardAt rfl lk_X2_37 ⟨Nat.le_of_ble_eq_true rfl, Nat.le_of_ble_eq_true rfl⟩ hA hK hT B (pl_c hN 0 (by decide)) cf_0 rfl rfl hl.1 rfl (Nat.le_of_ble_eq_true rfl) dX2_tidy_7 ⟨Nat.le_of_ble_eq_true rfl, Nat.le_of_ble_eq_true rfl⟩) (Nat.le_of_ble_eq_true rfl) (Nat.le_of_ble_eq_true rfl) (Nat.le_of_ble_eq_true rfl) (Nat.le_of_ble_eq_true rfl) (fun E hE => by unfold x_X2_tidy; rw [xo_some hE]) (fun r ad' f' H locs hw B => ?_)
  obtain ⟨rfl, x1, rfl, rfl⟩ := hw
  refine k_i (k := 1) (n := 6) hA B (u_VN (rest := [.ref (ad 0)]) X (c_X1_putTidy l g N ad x sp dy la kn re hN 12 (by decide) a1.toNatClampNeg (Nat.lt_of_lt_of_le (xl_X2_cardAt x1) (by decide)) H.size) mw_X1_putTidy md_X1_putTidy rfl lk_X2_88 ⟨Nat.le_of_ble_eq_true rfl, Nat.le_of_ble_eq_true rfl⟩ hA hK hT B (pl_sp hN (by decide)) (cf_sp (by decide)) rfl rfl hl.1 rfl (Nat.le_of_ble_eq_true rfl) dX2_tidy_10 ⟨Nat.le_of_ble_eq_true rfl, Nat.le_of_ble_eq_true rfl⟩) (Nat.le_of_ble_eq_true rfl) (Nat.le_of_ble_eq_true rfl) (fun r ad' f' H locs hw B => ?_)
  obtain ⟨rfl, rfl, rfl⟩ := hw
  refine k_r (k := 7) (n := 172) hA B (u_V (rest := []) X (c_X2_resultInSigns l g N ad x (v_X1_putTidy sp 12 a1.toNatClampNeg).2 dy la kn re hN (v_X1_putTidy sp 12 a1.toNatClampNeg).1 H.size) mw_X2_resultInSigns md_X2_resultInSigns rfl lk_X2_129 ⟨Nat.le_of_ble_eq_true rfl, Nat.le_of_ble_eq_true rfl⟩ hA hK hT B (pl_c hN 0 (by decide)) cf_0 rfl rfl hl.1 rfl (Nat.le_of_ble_eq_true rfl) dX2_tidy_13 ⟨Nat.le_of_ble_eq_true rfl, Nat.le_of_ble_eq_true rfl⟩) (Nat.le_of_ble_eq_true rfl) (Nat.le_of_ble_eq_true rfl) (fun r ad' f' H locs hw B => ?_)
  obtain ⟨rfl, ⟨so2, rfl⟩, rfl⟩ := hw
  have ev := (show v_X2_tidy sp a1 = (v_X1_putTidy sp 12 a1.toNatClampNeg).2 from rfl)
  exact vx_ret (rt_r (r := some (so2)) rfl X hr (Or.inl ⟨_, rfl⟩) (ad, (cf g ad x (v_X1_putTidy sp 12 a1.toNatClampNeg).2 dy la kn re)) B (PO_of B) ⟨rfl, by unfold x_X2_tidy; rw [xo_none x1], ⟨_, rfl⟩, by rw [ev]⟩ (Nat.le_of_ble_eq_true rfl) (Nat.le_of_ble_eq_true rfl) dX2_tidy_16)
def v_X2_opposite (sp : Nat → TR) (a1 : Int32) : (Nat → TR) := (v_X1_putOpposite sp 12 a1.toNatClampNeg).2
def x_X2_opposite (a1 : Int32) : Option String := xo (x_X2_cardAt a1) none
set_option maxHeartbeats 4000000 in
set_option maxRecDepth 100000 in
theorem c_X2_opposite (l : Launch) (hfl : l.stackTraces = false) (g : GG) (N : Nat) (ad : Nat → Nat) (x : Nat → va_E) (sp dy : Nat → TR) (la kn re : Int32) (hN : 23 ≤ N) (a1 : Int32) : XR l yX2_opposite cX2_opposite 2 (.object "java/lang/String") (rm 8 7 172) g [.ref (ad 0), .int a1] N ad (cf g ad x sp dy la kn re) N (fun E => x_X2_opposite a1 = some E) (fun r ad' f' => ad = ad' ∧ x_X2_opposite a1 = none ∧ (∃ a : Nat, some a = r) ∧ (cf g ad x (v_X2_opposite sp a1) dy la kn re) = f') := by
  intro sz
  refine mx_start (by decide) (Nat.le_of_ble_eq_true rfl) ?_
  intro p e s m args below meth c hsz X hr hex hA hK hT H locs B ls hl
  obtain ⟨hx, hb, hml, hown, hts, hlocks⟩ := id X
  have hl : lv_has ls 2 [(0, .ref (ad 0)), (1, .int a1)] := hl
  refine lv_aload_n hx hb dX2_opposite_0 rfl (lv_at hl 0 rfl) ?_
  refine lv_aload_n hx hb dX2_opposite_1 rfl (lv_at hl 0 rfl) ?_
  refine g_get (q := 0) (k := 6) X hK B rfl in_X2 (pl_c hN 0 (by decide)) cf_0 (by decide) lk_X2_25 rfl rfl dX2_opposite_2 ?_
  refine lv_aload_n hx hb dX2_opposite_5 rfl (lv_at hl 0 rfl) ?_
  refine lv_iload_n hx hb dX2_opposite_6 rfl (lv_at hl 1 rfl) ?_
  refine k_xr (k := 1) (n := 6) hex X hsz hA B (ux_V (rest := [.ref (ad (4 + 12)), .ref (ad 0)]) X (c_X2_cardAt l hfl g N ad x sp dy la kn re hN a1 H.size) mw_X2_cardAt md_X2_cardAt rfl lk_X2_37 ⟨Nat.le_of_ble_eq_true rfl, Nat.le_of_ble_eq_true rfl⟩ hA hK hT B (pl_c hN 0 (by decide)) cf_0 rfl rfl hl.1 rfl (Nat.le_of_ble_eq_true rfl) dX2_opposite_7 ⟨Nat.le_of_ble_eq_true rfl, Nat.le_of_ble_eq_true rfl⟩) (Nat.le_of_ble_eq_true rfl) (Nat.le_of_ble_eq_true rfl) (Nat.le_of_ble_eq_true rfl) (Nat.le_of_ble_eq_true rfl) (fun E hE => by unfold x_X2_opposite; rw [xo_some hE]) (fun r ad' f' H locs hw B => ?_)
  obtain ⟨rfl, x1, rfl, rfl⟩ := hw
  refine k_i (k := 1) (n := 6) hA B (u_VN (rest := [.ref (ad 0)]) X (c_X1_putOpposite l g N ad x sp dy la kn re hN 12 (by decide) a1.toNatClampNeg (Nat.lt_of_lt_of_le (xl_X2_cardAt x1) (by decide)) H.size) mw_X1_putOpposite md_X1_putOpposite rfl lk_X2_84 ⟨Nat.le_of_ble_eq_true rfl, Nat.le_of_ble_eq_true rfl⟩ hA hK hT B (pl_sp hN (by decide)) (cf_sp (by decide)) rfl rfl hl.1 rfl (Nat.le_of_ble_eq_true rfl) dX2_opposite_10 ⟨Nat.le_of_ble_eq_true rfl, Nat.le_of_ble_eq_true rfl⟩) (Nat.le_of_ble_eq_true rfl) (Nat.le_of_ble_eq_true rfl) (fun r ad' f' H locs hw B => ?_)
  obtain ⟨rfl, rfl, rfl⟩ := hw
  refine k_r (k := 7) (n := 172) hA B (u_V (rest := []) X (c_X2_resultInSigns l g N ad x (v_X1_putOpposite sp 12 a1.toNatClampNeg).2 dy la kn re hN (v_X1_putOpposite sp 12 a1.toNatClampNeg).1 H.size) mw_X2_resultInSigns md_X2_resultInSigns rfl lk_X2_129 ⟨Nat.le_of_ble_eq_true rfl, Nat.le_of_ble_eq_true rfl⟩ hA hK hT B (pl_c hN 0 (by decide)) cf_0 rfl rfl hl.1 rfl (Nat.le_of_ble_eq_true rfl) dX2_opposite_13 ⟨Nat.le_of_ble_eq_true rfl, Nat.le_of_ble_eq_true rfl⟩) (Nat.le_of_ble_eq_true rfl) (Nat.le_of_ble_eq_true rfl) (fun r ad' f' H locs hw B => ?_)
  obtain ⟨rfl, ⟨so2, rfl⟩, rfl⟩ := hw
  have ev := (show v_X2_opposite sp a1 = (v_X1_putOpposite sp 12 a1.toNatClampNeg).2 from rfl)
  exact vx_ret (rt_r (r := some (so2)) rfl X hr (Or.inl ⟨_, rfl⟩) (ad, (cf g ad x (v_X1_putOpposite sp 12 a1.toNatClampNeg).2 dy la kn re)) B (PO_of B) ⟨rfl, by unfold x_X2_opposite; rw [xo_none x1], ⟨_, rfl⟩, by rw [ev]⟩ (Nat.le_of_ble_eq_true rfl) (Nat.le_of_ble_eq_true rfl) dX2_opposite_16)
def x_X2_dateText (a1 : Int32) : Option String := xo (x_X2_dateAt a1) none
set_option maxHeartbeats 4000000 in
set_option maxRecDepth 100000 in
theorem c_X2_dateText (l : Launch) (hfl : l.stackTraces = false) (g : GG) (N : Nat) (ad : Nat → Nat) (x : Nat → va_E) (sp dy : Nat → TR) (la kn re : Int32) (hN : 23 ≤ N) (a1 : Int32) : XR l yX2_dateText cX2_dateText 2 (.object "java/lang/String") (rm 7 7 172) g [.ref (ad 0), .int a1] N ad (cf g ad x sp dy la kn re) N (fun E => x_X2_dateText a1 = some E) (fun r ad' f' => ad = ad' ∧ x_X2_dateText a1 = none ∧ (∃ a : Nat, some a = r) ∧ (cf g ad x sp dy la kn re) = f') := by
  intro sz
  refine mx_start (by decide) (Nat.le_of_ble_eq_true rfl) ?_
  intro p e s m args below meth c hsz X hr hex hA hK hT H locs B ls hl
  obtain ⟨hx, hb, hml, hown, hts, hlocks⟩ := id X
  have hl : lv_has ls 2 [(0, .ref (ad 0)), (1, .int a1)] := hl
  refine lv_aload_n hx hb dX2_dateText_0 rfl (lv_at hl 0 rfl) ?_
  refine lv_iload_n hx hb dX2_dateText_1 rfl (lv_at hl 1 rfl) ?_
  refine k_xr (k := 1) (n := 6) hex X hsz hA B (ux_V (rest := []) X (c_X2_dateAt l hfl g N ad x sp dy la kn re hN a1 H.size) mw_X2_dateAt md_X2_dateAt rfl lk_X2_140 ⟨Nat.le_of_ble_eq_true rfl, Nat.le_of_ble_eq_true rfl⟩ hA hK hT B (pl_c hN 0 (by decide)) cf_0 rfl rfl hl.1 rfl (Nat.le_of_ble_eq_true rfl) dX2_dateText_2 ⟨Nat.le_of_ble_eq_true rfl, Nat.le_of_ble_eq_true rfl⟩) (Nat.le_of_ble_eq_true rfl) (Nat.le_of_ble_eq_true rfl) (Nat.le_of_ble_eq_true rfl) (Nat.le_of_ble_eq_true rfl) (fun E hE => by unfold x_X2_dateText; rw [xo_some hE]) (fun r ad' f' H locs hw B => ?_)
  obtain ⟨rfl, x1, rfl, rfl⟩ := hw
  refine k_r (k := 7) (n := 172) hA B (u_VN (rest := []) X (c_W_inD l g N ad (cf g ad x sp dy la kn re) (18 + a1.toNatClampNeg) (ad (18 + a1.toNatClampNeg)) (dy a1.toNatClampNeg) (pl_dy hN (Nat.lt_of_lt_of_le (xl_X2_dateAt x1) (by decide))) rfl (cf_dy (Nat.lt_of_lt_of_le (xl_X2_dateAt x1) (by decide))) H.size) mw_X0_inSigns md_X0_inSigns rfl lk_X2_172 ⟨Nat.le_of_ble_eq_true rfl, Nat.le_of_ble_eq_true rfl⟩ hA hK hT B (pl_dy hN (Nat.lt_of_lt_of_le (xl_X2_dateAt x1) (by decide))) (cf_dy (Nat.lt_of_lt_of_le (xl_X2_dateAt x1) (by decide))) rfl rfl hl.1 rfl (Nat.le_of_ble_eq_true rfl) dX2_dateText_5 ⟨Nat.le_of_ble_eq_true rfl, Nat.le_of_ble_eq_true rfl⟩) (Nat.le_of_ble_eq_true rfl) (Nat.le_of_ble_eq_true rfl) (fun r ad' f' H locs hw B => ?_)
  obtain ⟨rfl, ⟨so2, rfl⟩, rfl⟩ := hw
  exact vx_ret (rt_r (r := some (so2)) rfl X hr (Or.inl ⟨_, rfl⟩) (ad, (cf g ad x sp dy la kn re)) B (PO_of B) ⟨rfl, by unfold x_X2_dateText; rw [xo_none x1], ⟨_, rfl⟩, rfl⟩ (Nat.le_of_ble_eq_true rfl) (Nat.le_of_ble_eq_true rfl) dX2_dateText_8)
def v_X2_moved (sp : Nat → TR) (dy : Nat → TR) (a1 : Int32) (a2 : Int32) (a3 : Int32) : (Nat → TR) := if (v_X2_reach sp dy a1.toNatClampNeg a2.toNatClampNeg a3).1 = 0 then (v_X2_reach sp dy a1.toNatClampNeg a2.toNatClampNeg a3).2 else (v_X2_reach sp dy a1.toNatClampNeg a2.toNatClampNeg a3).2
def x_X2_moved (sp : Nat → TR) (dy : Nat → TR) (a1 : Int32) (a2 : Int32) (a3 : Int32) : Option String := xo (x_X2_dateAt a1) (xo (x_X2_cardAt a2) (if (v_X2_reach sp dy a1.toNatClampNeg a2.toNatClampNeg a3).1 = 0 then none else none))
set_option maxHeartbeats 4000000 in
set_option maxRecDepth 100000 in
theorem c_X2_moved (l : Launch) (hfl : l.stackTraces = false) (g : GG) (N : Nat) (ad : Nat → Nat) (x : Nat → va_E) (sp dy : Nat → TR) (la kn re : Int32) (hN : 23 ≤ N) (a1 : Int32) (a2 : Int32) (a3 : Int32) : XR l yX2_moved cX2_moved 5 (.object "java/lang/String") (rm 7 8 178) g [.ref (ad 0), .int a1, .int a2, .int a3] N ad (cf g ad x sp dy la kn re) N (fun E => x_X2_moved sp dy a1 a2 a3 = some E) (fun r ad' f' => ad = ad' ∧ x_X2_moved sp dy a1 a2 a3 = none ∧ (∃ a : Nat, some a = r) ∧ (cf g ad x sp (v_X2_moved sp dy a1 a2 a3) la kn re) = f') := by
  intro sz
  refine mx_start (by decide) (Nat.le_of_ble_eq_true rfl) ?_
  intro p e s m args below meth c hsz X hr hex hA hK hT H locs B ls hl
  obtain ⟨hx, hb, hml, hown, hts, hlocks⟩ := id X
  have hl : lv_has ls 5 [(0, .ref (ad 0)), (1, .int a1), (2, .int a2), (3, .int a3)] := hl
  refine lv_aload_n hx hb dX2_moved_0 rfl (lv_at hl 0 rfl) ?_
  refine lv_iload_n hx hb dX2_moved_1 rfl (lv_at hl 1 rfl) ?_
  refine k_xr (k := 1) (n := 6) hex X hsz hA B (ux_V (rest := []) X (c_X2_dateAt l hfl g N ad x sp dy la kn re hN a1 H.size) mw_X2_dateAt md_X2_dateAt rfl lk_X2_140 ⟨Nat.le_of_ble_eq_true rfl, Nat.le_of_ble_eq_true rfl⟩ hA hK hT B (pl_c hN 0 (by decide)) cf_0 rfl rfl hl.1 rfl (Nat.le_of_ble_eq_true rfl) dX2_moved_2 ⟨Nat.le_of_ble_eq_true rfl, Nat.le_of_ble_eq_true rfl⟩) (Nat.le_of_ble_eq_true rfl) (Nat.le_of_ble_eq_true rfl) (Nat.le_of_ble_eq_true rfl) (Nat.le_of_ble_eq_true rfl) (fun E hE => by unfold x_X2_moved; rw [xo_some hE]) (fun r ad' f' H locs hw B => ?_)
  obtain ⟨rfl, x1, rfl, rfl⟩ := hw
  refine lv_astore (lv' := [(4, .ref (ad (18 + a1.toNatClampNeg))), (0, .ref (ad 0)), (1, .int a1), (2, .int a2), (3, .int a3)]) hx hb dX2_moved_5 hl (by decide) rfl (fun ls hl => ?_)
  refine lv_aload_n hx hb dX2_moved_7 rfl (lv_at hl 1 rfl) ?_
  refine lv_aload hx hb dX2_moved_8 (lv_at hl 0 rfl) ?_
  refine lv_aload_n hx hb dX2_moved_10 rfl (lv_at hl 1 rfl) ?_
  refine lv_iload_n hx hb dX2_moved_11 rfl (lv_at hl 3 rfl) ?_
  refine k_xr (k := 2) (n := 12) hex X hsz hA B (ux_V (rest := [.ref (ad (18 + a1.toNatClampNeg)), .ref (ad 0)]) X (c_X2_cardAt l hfl g N ad x sp dy la kn re hN a2 H.size) mw_X2_cardAt md_X2_cardAt rfl lk_X2_37 ⟨Nat.le_of_ble_eq_true rfl, Nat.le_of_ble_eq_true rfl⟩ hA hK hT B (pl_c hN 0 (by decide)) cf_0 rfl rfl hl.1 rfl (Nat.le_of_ble_eq_true rfl) dX2_moved_12 ⟨Nat.le_of_ble_eq_true rfl, Nat.le_of_ble_eq_true rfl⟩) (Nat.le_of_ble_eq_true rfl) (Nat.le_of_ble_eq_true rfl) (Nat.le_of_ble_eq_true rfl) (Nat.le_of_ble_eq_true rfl) (fun E hE => by unfold x_X2_moved; rw [xo_none x1, xo_some hE]) (fun r ad' f' H locs hw B => ?_)
  obtain ⟨rfl, x2, rfl, rfl⟩ := hw
  refine lv_iload_n hx hb dX2_moved_15 rfl (lv_at hl 4 rfl) ?_
  refine k_i (k := 2) (n := 12) hA B (u_V (rest := []) X (c_X2_reach l g N ad x sp dy la kn re hN a1.toNatClampNeg (Nat.lt_of_lt_of_le (xl_X2_dateAt x1) (by decide)) a2.toNatClampNeg (Nat.lt_of_lt_of_le (xl_X2_cardAt x2) (by decide)) a3 H.size) mw_X2_reach md_X2_reach rfl lk_X2_161 ⟨Nat.le_of_ble_eq_true rfl, Nat.le_of_ble_eq_true rfl⟩ hA hK hT B (pl_c hN 0 (by decide)) cf_0 rfl rfl hl.1 rfl (Nat.le_of_ble_eq_true rfl) dX2_moved_16 ⟨Nat.le_of_ble_eq_true rfl, Nat.le_of_ble_eq_true rfl⟩) (Nat.le_of_ble_eq_true rfl) (Nat.le_of_ble_eq_true rfl) (fun r ad' f' H locs hw B => ?_)
  obtain ⟨rfl, rfl, rfl⟩ := hw
  refine lv_if_eq (tgt := 32) hx hb dX2_moved_19 (by decide) (fun c3 => ?_) (fun c3 => ?_)
  · refine b_ldc (i := 0) (by decide) rfl rfl X hT dX2_moved_32 ?_
    have ev := (show v_X2_moved sp dy a1 a2 a3 = (v_X2_reach sp dy a1.toNatClampNeg a2.toNatClampNeg a3).2 from by unfold v_X2_moved; rw [if_pos c3])
    exact vx_ret (rt_r (r := some (g.2.2 (100 + 0))) rfl X hr (Or.inl ⟨_, rfl⟩) (ad, (cf g ad x sp (v_X2_reach sp dy a1.toNatClampNeg a2.toNatClampNeg a3).2 la kn re)) B (PO_of B) ⟨rfl, by unfold x_X2_moved; rw [xo_none x1, xo_none x2, if_pos c3], ⟨_, rfl⟩, by rw [ev]⟩ (Nat.le_of_ble_eq_true rfl) (Nat.le_of_ble_eq_true rfl) dX2_moved_34)
  · refine lv_aload_n hx hb dX2_moved_22 rfl (lv_at hl 1 rfl) ?_
    refine g_get (q := 0) (k := 8) X hK B rfl in_X2 (pl_c hN 0 (by decide)) cf_0 (by decide) lk_X2_33 rfl rfl dX2_moved_23 ?_
    refine k_r (k := 8) (n := 178) hA B (u_VN (rest := []) X (c_W_inD l g N ad (cf g ad x sp (v_X2_reach sp dy a1.toNatClampNeg a2.toNatClampNeg a3).2 la kn re) (18 + 4) (ad (18 + 4)) ((v_X2_reach sp dy a1.toNatClampNeg a2.toNatClampNeg a3).2 4) (pl_dy hN (by decide)) rfl (cf_dy (by decide)) H.size) mw_X0_inSigns md_X0_inSigns rfl lk_X2_172 ⟨Nat.le_of_ble_eq_true rfl, Nat.le_of_ble_eq_true rfl⟩ hA hK hT B (pl_dy hN (by decide)) (cf_dy (by decide)) rfl rfl hl.1 rfl (Nat.le_of_ble_eq_true rfl) dX2_moved_26 ⟨Nat.le_of_ble_eq_true rfl, Nat.le_of_ble_eq_true rfl⟩) (Nat.le_of_ble_eq_true rfl) (Nat.le_of_ble_eq_true rfl) (fun r ad' f' H locs hw B => ?_)
    obtain ⟨rfl, ⟨so4, rfl⟩, rfl⟩ := hw
    refine lv_goto (tgt := 34) hx hb dX2_moved_29 (by decide) ?_
    have ev := (show v_X2_moved sp dy a1 a2 a3 = (v_X2_reach sp dy a1.toNatClampNeg a2.toNatClampNeg a3).2 from by unfold v_X2_moved; rw [if_neg c3])
    exact vx_ret (rt_r (r := some (so4)) rfl X hr (Or.inl ⟨_, rfl⟩) (ad, (cf g ad x sp (v_X2_reach sp dy a1.toNatClampNeg a2.toNatClampNeg a3).2 la kn re)) B (PO_of B) ⟨rfl, by unfold x_X2_moved; rw [xo_none x1, xo_none x2, if_neg c3], ⟨_, rfl⟩, by rw [ev]⟩ (Nat.le_of_ble_eq_true rfl) (Nat.le_of_ble_eq_true rfl) dX2_moved_34)
def v_X2_apart (sp : Nat → TR) (dy : Nat → TR) (a1 : Int32) (a2 : Int32) : (Nat → TR) := (v_X1_putBetween sp dy 12 a1.toNatClampNeg a2.toNatClampNeg).2
def x_X2_apart (a1 : Int32) (a2 : Int32) : Option String := xo (x_X2_dateAt a1) (xo (x_X2_dateAt a2) none)
set_option maxHeartbeats 4000000 in
set_option maxRecDepth 100000 in
theorem c_X2_apart (l : Launch) (hfl : l.stackTraces = false) (g : GG) (N : Nat) (ad : Nat → Nat) (x : Nat → va_E) (sp dy : Nat → TR) (la kn re : Int32) (hN : 23 ≤ N) (a1 : Int32) (a2 : Int32) : XR l yX2_apart cX2_apart 4 (.object "java/lang/String") (rm 8 8 178) g [.ref (ad 0), .int a1, .int a2] N ad (cf g ad x sp dy la kn re) N (fun E => x_X2_apart a1 a2 = some E) (fun r ad' f' => ad = ad' ∧ x_X2_apart a1 a2 = none ∧ (∃ a : Nat, some a = r) ∧ (cf g ad x (v_X2_apart sp dy a1 a2) dy la kn re) = f') := by
  intro sz
  refine mx_start (by decide) (Nat.le_of_ble_eq_true rfl) ?_
  intro p e s m args below meth c hsz X hr hex hA hK hT H locs B ls hl
  obtain ⟨hx, hb, hml, hown, hts, hlocks⟩ := id X
  have hl : lv_has ls 4 [(0, .ref (ad 0)), (1, .int a1), (2, .int a2)] := hl
  refine lv_aload_n hx hb dX2_apart_0 rfl (lv_at hl 0 rfl) ?_
  refine lv_iload_n hx hb dX2_apart_1 rfl (lv_at hl 1 rfl) ?_
  refine k_xr (k := 1) (n := 6) hex X hsz hA B (ux_V (rest := []) X (c_X2_dateAt l hfl g N ad x sp dy la kn re hN a1 H.size) mw_X2_dateAt md_X2_dateAt rfl lk_X2_140 ⟨Nat.le_of_ble_eq_true rfl, Nat.le_of_ble_eq_true rfl⟩ hA hK hT B (pl_c hN 0 (by decide)) cf_0 rfl rfl hl.1 rfl (Nat.le_of_ble_eq_true rfl) dX2_apart_2 ⟨Nat.le_of_ble_eq_true rfl, Nat.le_of_ble_eq_true rfl⟩) (Nat.le_of_ble_eq_true rfl) (Nat.le_of_ble_eq_true rfl) (Nat.le_of_ble_eq_true rfl) (Nat.le_of_ble_eq_true rfl) (fun E hE => by unfold x_X2_apart; rw [xo_some hE]) (fun r ad' f' H locs hw B => ?_)
  obtain ⟨rfl, x1, rfl, rfl⟩ := hw
  refine lv_astore_n (lv' := [(3, .ref (ad (18 + a1.toNatClampNeg))), (0, .ref (ad 0)), (1, .int a1), (2, .int a2)]) hx hb dX2_apart_5 rfl hl (by decide) rfl (fun ls hl => ?_)
  refine lv_aload_n hx hb dX2_apart_6 rfl (lv_at hl 1 rfl) ?_
  refine lv_aload_n hx hb dX2_apart_7 rfl (lv_at hl 1 rfl) ?_
  refine g_get (q := 0) (k := 6) X hK B rfl in_X2 (pl_c hN 0 (by decide)) cf_0 (by decide) lk_X2_25 rfl rfl dX2_apart_8 ?_
  refine lv_aload_n hx hb dX2_apart_11 rfl (lv_at hl 0 rfl) ?_
  refine lv_aload_n hx hb dX2_apart_12 rfl (lv_at hl 1 rfl) ?_
  refine lv_iload_n hx hb dX2_apart_13 rfl (lv_at hl 3 rfl) ?_
  refine k_xr (k := 2) (n := 12) hex X hsz hA B (ux_V (rest := [.ref (ad (18 + a1.toNatClampNeg)), .ref (ad (4 + 12)), .ref (ad 0)]) X (c_X2_dateAt l hfl g N ad x sp dy la kn re hN a2 H.size) mw_X2_dateAt md_X2_dateAt rfl lk_X2_140 ⟨Nat.le_of_ble_eq_true rfl, Nat.le_of_ble_eq_true rfl⟩ hA hK hT B (pl_c hN 0 (by decide)) cf_0 rfl rfl hl.1 rfl (Nat.le_of_ble_eq_true rfl) dX2_apart_14 ⟨Nat.le_of_ble_eq_true rfl, Nat.le_of_ble_eq_true rfl⟩) (Nat.le_of_ble_eq_true rfl) (Nat.le_of_ble_eq_true rfl) (Nat.le_of_ble_eq_true rfl) (Nat.le_of_ble_eq_true rfl) (fun E hE => by unfold x_X2_apart; rw [xo_none x1, xo_some hE]) (fun r ad' f' H locs hw B => ?_)
  obtain ⟨rfl, x2, rfl, rfl⟩ := hw
  refine k_i (k := 2) (n := 12) hA B (u_VN (rest := [.ref (ad 0)]) X (c_X1_putBetween l g N ad x sp dy la kn re hN 12 (by decide) a1.toNatClampNeg (Nat.lt_of_lt_of_le (xl_X2_dateAt x1) (by decide)) a2.toNatClampNeg (Nat.lt_of_lt_of_le (xl_X2_dateAt x2) (by decide)) H.size) mw_X1_putBetween md_X1_putBetween rfl lk_X2_173 ⟨Nat.le_of_ble_eq_true rfl, Nat.le_of_ble_eq_true rfl⟩ hA hK hT B (pl_sp hN (by decide)) (cf_sp (by decide)) rfl rfl hl.1 rfl (Nat.le_of_ble_eq_true rfl) dX2_apart_17 ⟨Nat.le_of_ble_eq_true rfl, Nat.le_of_ble_eq_true rfl⟩) (Nat.le_of_ble_eq_true rfl) (Nat.le_of_ble_eq_true rfl) (fun r ad' f' H locs hw B => ?_)
  obtain ⟨rfl, rfl, rfl⟩ := hw
  refine k_r (k := 8) (n := 178) hA B (u_V (rest := []) X (c_X2_resultInSigns l g N ad x (v_X1_putBetween sp dy 12 a1.toNatClampNeg a2.toNatClampNeg).2 dy la kn re hN (v_X1_putBetween sp dy 12 a1.toNatClampNeg a2.toNatClampNeg).1 H.size) mw_X2_resultInSigns md_X2_resultInSigns rfl lk_X2_129 ⟨Nat.le_of_ble_eq_true rfl, Nat.le_of_ble_eq_true rfl⟩ hA hK hT B (pl_c hN 0 (by decide)) cf_0 rfl rfl hl.1 rfl (Nat.le_of_ble_eq_true rfl) dX2_apart_20 ⟨Nat.le_of_ble_eq_true rfl, Nat.le_of_ble_eq_true rfl⟩) (Nat.le_of_ble_eq_true rfl) (Nat.le_of_ble_eq_true rfl) (fun r ad' f' H locs hw B => ?_)
  obtain ⟨rfl, ⟨so3, rfl⟩, rfl⟩ := hw
  have ev := (show v_X2_apart sp dy a1 a2 = (v_X1_putBetween sp dy 12 a1.toNatClampNeg a2.toNatClampNeg).2 from rfl)
  exact vx_ret (rt_r (r := some (so3)) rfl X hr (Or.inl ⟨_, rfl⟩) (ad, (cf g ad x (v_X1_putBetween sp dy 12 a1.toNatClampNeg a2.toNatClampNeg).2 dy la kn re)) B (PO_of B) ⟨rfl, by unfold x_X2_apart; rw [xo_none x1, xo_none x2], ⟨_, rfl⟩, by rw [ev]⟩ (Nat.le_of_ble_eq_true rfl) (Nat.le_of_ble_eq_true rfl) dX2_apart_23)
end
section
/-! texts in the reference's world -/
section WMT
variable {g : GG} {A : Nat → Prop} {H0 H : Heap} {N M : Nat} {ad ad' : Nat → Nat} {y : Nat → va_E} {cr dr : Nat → TR} {th kn rf : Int32} {pl : Nat → TR} {pz : Nat} {mc : Int32} {locs : List Loc}
theorem WM_up2 {q q2 : Nat} {c c2 : va_E} (hq : 36 + pz ≤ q) (hq2 : 36 + pz ≤ q2) (B : WB g A H0 M ad' (va_up (va_up (mg g ad y cr dr th kn rf pl pz mc) q c) q2 c2) H locs) (h : ∀ j, j < 36 + pz → ad' j = ad j) : WB g A H0 M ad' (mg g ad' (va_up (va_up y q c) q2 c2) cr dr th kn rf pl pz mc) H locs := by
  rw [mg_yup hq, mg_yup hq2] at B
  exact WB_same B (Nat.le_refl _) (fun _ _ => rfl) (fun k _ => mg_ad (fun j hj _ => h j hj) rfl)
theorem WM_push2 {a a2 : Nat} {c c2 : va_E} (hN : 36 + pz ≤ N) (B : WB g A H0 (N + 1 + 1) (va_up (va_up ad N a) (N + 1) a2) (va_up (va_up (mg g ad y cr dr th kn rf pl pz mc) N c) (N + 1) c2) H locs) : WB g A H0 (N + 1 + 1) (va_up (va_up ad N a) (N + 1) a2) (mg g (va_up (va_up ad N a) (N + 1) a2) (va_up (va_up y N c) (N + 1) c2) cr dr th kn rf pl pz mc) H locs :=
  WM_up2 hN (by omega) B (fun j hj => (va_up_ne _ _ (by omega)).trans (va_up_ne _ _ (by omega)))
/-- a text and its bytes are kept behind the world -/
theorem WM_pick2 {q a a2 : Nat} {e e2 : va_E} {y' : Nat → va_E} (B : WB g A H0 M ad' (mg g ad' y' cr dr th kn rf pl pz mc) H locs) (hN : 36 + pz ≤ N) (hq : N ≤ q) (hM : q + 1 < M) (h1 : ∀ k, k < N → ad' k = ad k) (h2 : ∀ k, k < N → y' k = y k) (ha : ad' q = a) (ha2 : ad' (q + 1) = a2) (he : y' q = e) (he2 : y' (q + 1) = e2) : WB g A H0 (N + 1 + 1) (va_up (va_up ad N a) (N + 1) a2) (mg g (va_up (va_up ad N a) (N + 1) a2) (va_up (va_up y N e) (N + 1) e2) cr dr th kn rf pl pz mc) H locs := by
  have B2 : WB g A H0 (N + 1 + 1) (va_up (va_up ad N a) (N + 1) a2) (va_up (va_up (mg g ad' y cr dr th kn rf pl pz mc) N e) (N + 1) e2) H locs := by
    refine WB_pick2 (f := mg g ad' y cr dr th kn rf pl pz mc) B hq hM h1 (fun k hk => ?_) ha ha2 ((mg_hi (by omega)).trans he) ((mg_hi (by omega)).trans he2)
    rcases mg_cases pz k with c | rfl | rfl | rfl | rfl | ⟨i, hi, rfl⟩ | ⟨i, hi, rfl⟩ | ⟨rfl, hp⟩ | ⟨i, hi, rfl⟩ | c
    · rw [mg_lo c, mg_lo c, h2 k hk]
    · rfl
    · rfl
    · rfl
    · rfl
    · rw [mg_cr hi, mg_cr hi]
    · rw [mg_dr hi, mg_dr hi]
    · rw [mg_ed hp, mg_ed hp]
    · rw [mg_pl hi, mg_pl hi]
    · rw [mg_hi c, mg_hi c, h2 k hk]
  exact WM_up2 hN (by omega) B2 (fun j hj => (va_up_ne _ _ (by omega)).trans ((va_up_ne _ _ (by omega)).trans (h1 j (by omega)).symm))
end WMT
theorem tot_sz (t : TR) : ssl (v_X4_total t) ≤ 12 := by
  have hl1 := Int32.le_toInt t.1
  have hr1 := Int32.toInt_lt t.1
  have hl2 := Int32.le_toInt t.2.1
  have hr2 := Int32.toInt_lt t.2.1
  have e12 : (12 : Int64).toInt = 12 := rfl
  have em : (12 * t.1.toInt64).toInt = 12 * t.1.toInt := by
    rw [Int64.toInt_mul, e12, Int32.toInt_toInt64, Int.bmod_eq_of_le (by omega) (by omega)]
  have e : (v_X4_total t).toInt = 12 * t.1.toInt + t.2.1.toInt := by
    unfold v_X4_total
    rw [add_l (by rw [em, Int32.toInt_toInt64]; omega) (by rw [em, Int32.toInt_toInt64]; omega), em, Int32.toInt_toInt64]
  have e10 : (10 : Nat) ^ (10 + 1) = 100000000000 := by decide
  have h := dgs_le 10 (v_X4_total t).toInt.natAbs (by omega)
  unfold ssl
  split <;> omega
def msg (a : Int32) : Int32 := if a = 0 then 1 else -1
theorem isin_lo {k s : Int32} (h : ¬ v_X4_isIn k.toInt64 0 ((s - 1).toInt64) = 0) : ¬ k < 0 := by
  have h2 := (in_iff.mp h).1
  rw [Int64.le_iff_toInt_le, Int32.toInt_toInt64] at h2
  rw [Int32.lt_iff_toInt_lt]
  have e0 : (0 : Int64).toInt = 0 := rfl
  have f0 : (0 : Int32).toInt = 0 := rfl
  omega
theorem isin_hi {pz : Nat} (hz : pz ≤ 9) {k : Int32} (h : ¬ v_X4_isIn k.toInt64 0 ((Int32.ofNat (pz - 1) - 1).toInt64) = 0) : ¬ Int32.ofNat (pz - 1) ≤ k := by
  have h2 := (in_iff.mp h).2
  rw [Int64.le_iff_toInt_le, Int32.toInt_toInt64, Int32.toInt_toInt64] at h2
  rw [Int32.le_iff_toInt_le]
  have e1 : (1 : Int32).toInt = 1 := rfl
  have es := sz_toInt (n := pz - 1) (by omega)
  have e2 := sub_i (x := Int32.ofNat (pz - 1)) (y := 1) (by omega) (by omega)
  omega
theorem isin_9 {k : Int32} (h : ¬ v_X4_isIn k.toInt64 0 9 = 0) : ¬ 9 < k := by
  have h2 := (in_iff.mp h).2
  rw [Int64.le_iff_toInt_le, Int32.toInt_toInt64] at h2
  rw [Int32.lt_iff_toInt_lt]
  have e1 : (9 : Int64).toInt = 9 := rfl
  have e2 : (9 : Int32).toInt = 9 := rfl
  omega
theorem isin_of5 {k : Int32} (h1 : ¬ k < 0) (h2 : ¬ 5 ≤ k) : ¬ v_X4_isIn k.toInt64 0 4 = 0 := by
  rw [Int32.lt_iff_toInt_lt] at h1
  rw [Int32.le_iff_toInt_le] at h2
  refine in_iff.mpr ?_
  rw [Int64.le_iff_toInt_le, Int64.le_iff_toInt_le, Int32.toInt_toInt64]
  have e0 : (0 : Int64).toInt = 0 := rfl
  have e4 : (4 : Int64).toInt = 4 := rfl
  have f0 : (0 : Int32).toInt = 0 := rfl
  have f5 : (5 : Int32).toInt = 5 := rfl
  omega
end
section
set_option maxHeartbeats 4000000 in
set_option maxRecDepth 100000 in
theorem c_X4_piledNowN (l : Launch) (g : GG) (N : Nat) (ad : Nat → Nat) (y : Nat → va_E) (cr dr : Nat → TR) (th kn rf : Int32) (pl : Nat → TR) (pz : Nat) (mc : Int32) (hN : 36 + pz ≤ N) (b0 : Nat) (hb0 : ad 24 = b0) (a1 : Int32) (hz : pz ≤ 9) (hin : v_X4_isIn a1.toInt64 0 (((Int32.ofNat (pz - 1)) - 1).toInt64) = 0) : KR l yX4_piledNow cX4_piledNow 2 (.object "java/lang/String") (rm 1 0 0) g [.ref b0, .int a1] N ad (mg g ad y cr dr th kn rf pl pz mc) N (fun r ad' f' => ad = ad' ∧ some (g.2.2 (100 + 10)) = r ∧ mg g ad y cr dr th kn rf pl pz mc = f') := by
  intro sz
  refine mt_start (by decide) (Nat.le_of_ble_eq_true rfl) ?_
  intro p e s m args below meth c hsz X hr hnam hA hK hT H locs B ls hl
  obtain ⟨hx, hb, hml, hown, hts, hlocks⟩ := id X
  have hl : lv_has ls 2 [(0, .ref b0), (1, .int a1)] := hl
  refine lv_iload_n hx hb dX4_piledNow_0 rfl (lv_at hl 1 rfl) ?_
  refine lv_i2l (v := a1.toInt64) hx hb dX4_piledNow_1 rfl ?_
  refine lv_lconst (v := 0) hx hb dX4_piledNow_2 (by decide) ?_
  refine lv_aload_n hx hb dX4_piledNow_3 rfl (lv_at hl 0 rfl) ?_
  refine b_get (q := 24) (k := 2) hb0 X hK B rfl in_X4 (by omega) mg_24 (by decide) lk_X4_17 rfl rfl dX4_piledNow_4 ?_
  refine k_i (k := 0) (n := 0) hA B (b_V (q := 27) (rest := [.long 0, .long a1.toInt64]) rfl X (c_L_size l g N ad (mg g ad y cr dr th kn rf pl pz mc) 27 (ad 27) (by omega) rfl mc (Int32.ofNat (pz - 1)) _ mg_27 H.size) mw_Jx4a65c_size_8abf5 md_Jx4a65c_size_8abf5 rfl lk_X4_128 ⟨Nat.le_of_ble_eq_true rfl, Nat.le_of_ble_eq_true rfl⟩ hA hK hT B (by omega) mg_27 rfl rfl hl.1 rfl (Nat.le_of_ble_eq_true rfl) dX4_piledNow_7 ⟨Nat.le_of_ble_eq_true rfl, Nat.le_of_ble_eq_true rfl⟩) (Nat.le_of_ble_eq_true rfl) (Nat.le_of_ble_eq_true rfl) (fun r ad' f' H locs hw B => ?_)
  obtain ⟨rfl, rfl, rfl⟩ := hw
  refine lv_iconst (v := 1) hx hb dX4_piledNow_10 (by decide) ?_
  refine lv_isub hx hb dX4_piledNow_11 ?_
  refine lv_i2l (v := ((Int32.ofNat (pz - 1)) - 1).toInt64) hx hb dX4_piledNow_12 rfl ?_
  refine k_i (k := 0) (n := 0) hA B (u_S (rest := []) X (c_X4_isIn l g N ad (mg g ad y cr dr th kn rf pl pz mc) a1.toInt64 0 (((Int32.ofNat (pz - 1)) - 1).toInt64) H.size) mw_X4_isIn md_X4_isIn rfl lk_X4_37 ⟨Nat.le_of_ble_eq_true rfl, Nat.le_of_ble_eq_true rfl⟩ hA hK hT B hl.1 rfl (Nat.le_of_ble_eq_true rfl) dX4_piledNow_13 ⟨Nat.le_of_ble_eq_true rfl, Nat.le_of_ble_eq_true rfl⟩) (Nat.le_of_ble_eq_true rfl) (Nat.le_of_ble_eq_true rfl) (fun r1 ad1 f' H locs hw B => ?_)
  obtain ⟨rfl, rfl, rfl⟩ := hw
  refine lv_if_eq (tgt := 36) hx hb dX4_piledNow_16 (by decide) (fun _ => ?_) (fun z => absurd hin z)
  refine b_ldc (i := 10) (by decide) rfl rfl X hT dX4_piledNow_36 ?_
  exact rt_r (r := some (g.2.2 (100 + 10))) rfl X hr (Or.inl ⟨_, rfl⟩) (ad, mg g ad y cr dr th kn rf pl pz mc) B (PO_of B) ⟨rfl, rfl, rfl⟩ (Nat.le_of_ble_eq_true rfl) (Nat.le_of_ble_eq_true rfl) dX4_piledNow_38
set_option maxHeartbeats 4000000 in
set_option maxRecDepth 100000 in
theorem c_X4_piledNowY (l : Launch) (g : GG) (N : Nat) (ad : Nat → Nat) (y : Nat → va_E) (cr dr : Nat → TR) (th kn rf : Int32) (pl : Nat → TR) (pz : Nat) (mc : Int32) (hN : 36 + pz ≤ N) (b0 : Nat) (hb0 : ad 24 = b0) (a1 : Int32) (hz : pz ≤ 9) (hin : ¬ v_X4_isIn a1.toInt64 0 (((Int32.ofNat (pz - 1)) - 1).toInt64) = 0) : KR l yX4_piledNow cX4_piledNow 2 (.object "java/lang/String") (rm 7 6 166) g [.ref b0, .int a1] N ad (mg g ad y cr dr th kn rf pl pz mc) (N + 1 + 1) (fun r ad' f' => ∃ (a a2 : Nat) (h' : Nat → Int32), sb_Fit h' ∧ some a = r ∧ va_up (va_up ad N a) (N + 1) a2 = ad' ∧ mg g ad' (va_up (va_up y N (c_st a2)) (N + 1) (c_ba g (tlen (pl a1.toNatClampNeg)) h')) cr dr th kn rf pl pz mc = f') := by
  intro sz
  refine mt_start (by decide) (Nat.le_of_ble_eq_true rfl) ?_
  intro p e s m args below meth c hsz X hr hnam hA hK hT H locs B ls hl
  obtain ⟨hx, hb, hml, hown, hts, hlocks⟩ := id X
  have hl : lv_has ls 2 [(0, .ref b0), (1, .int a1)] := hl
  refine lv_iload_n hx hb dX4_piledNow_0 rfl (lv_at hl 1 rfl) ?_
  refine lv_i2l (v := a1.toInt64) hx hb dX4_piledNow_1 rfl ?_
  refine lv_lconst (v := 0) hx hb dX4_piledNow_2 (by decide) ?_
  refine lv_aload_n hx hb dX4_piledNow_3 rfl (lv_at hl 0 rfl) ?_
  refine b_get (q := 24) (k := 2) hb0 X hK B rfl in_X4 (by omega) mg_24 (by decide) lk_X4_17 rfl rfl dX4_piledNow_4 ?_
  refine k_i (k := 0) (n := 0) hA B (b_V (q := 27) (rest := [.long 0, .long a1.toInt64]) rfl X (c_L_size l g N ad (mg g ad y cr dr th kn rf pl pz mc) 27 (ad 27) (by omega) rfl mc (Int32.ofNat (pz - 1)) _ mg_27 H.size) mw_Jx4a65c_size_8abf5 md_Jx4a65c_size_8abf5 rfl lk_X4_128 ⟨Nat.le_of_ble_eq_true rfl, Nat.le_of_ble_eq_true rfl⟩ hA hK hT B (by omega) mg_27 rfl rfl hl.1 rfl (Nat.le_of_ble_eq_true rfl) dX4_piledNow_7 ⟨Nat.le_of_ble_eq_true rfl, Nat.le_of_ble_eq_true rfl⟩) (Nat.le_of_ble_eq_true rfl) (Nat.le_of_ble_eq_true rfl) (fun r ad' f' H locs hw B => ?_)
  obtain ⟨rfl, rfl, rfl⟩ := hw
  refine lv_iconst (v := 1) hx hb dX4_piledNow_10 (by decide) ?_
  refine lv_isub hx hb dX4_piledNow_11 ?_
  refine lv_i2l (v := ((Int32.ofNat (pz - 1)) - 1).toInt64) hx hb dX4_piledNow_12 rfl ?_
  refine k_i (k := 0) (n := 0) hA B (u_S (rest := []) X (c_X4_isIn l g N ad (mg g ad y cr dr th kn rf pl pz mc) a1.toInt64 0 (((Int32.ofNat (pz - 1)) - 1).toInt64) H.size) mw_X4_isIn md_X4_isIn rfl lk_X4_37 ⟨Nat.le_of_ble_eq_true rfl, Nat.le_of_ble_eq_true rfl⟩ hA hK hT B hl.1 rfl (Nat.le_of_ble_eq_true rfl) dX4_piledNow_13 ⟨Nat.le_of_ble_eq_true rfl, Nat.le_of_ble_eq_true rfl⟩) (Nat.le_of_ble_eq_true rfl) (Nat.le_of_ble_eq_true rfl) (fun r1 ad1 f' H locs hw B => ?_)
  obtain ⟨rfl, rfl, rfl⟩ := hw
  refine lv_if_eq (tgt := 36) hx hb dX4_piledNow_16 (by decide) (fun z => absurd z hin) (fun _ => ?_)
  refine lv_aload_n hx hb dX4_piledNow_19 rfl (lv_at hl 0 rfl) ?_
  refine b_get (q := 24) (k := 2) hb0 X hK B rfl in_X4 (by omega) mg_24 (by decide) lk_X4_17 rfl rfl dX4_piledNow_20 ?_
  refine lv_iload_n hx hb dX4_piledNow_23 rfl (lv_at hl 1 rfl) ?_
  have g2 : a1.toNatClampNeg + 1 < pz := pl_ix hz (isin_lo hin) (isin_hi hz hin)
  refine k_r (k := 0) (n := 0) hA B (b_V (q := 27) (rest := []) rfl X (c_L_get l g N ad (mg g ad y cr dr th kn rf pl pz mc) 27 (ad 27) (by omega) rfl mc (Int32.ofNat (pz - 1)) (ad 36) (mg_27p (by omega)) 36 10 (fun j => if j + 1 < pz then some (ad (37 + j)) else none) (by omega) rfl (mg_ed (by omega)) (by decide) a1 (ad (37 + a1.toNatClampNeg)) (pl_in hz (isin_lo hin) g2) (if_pos g2) (isin_lo hin) (Int32.not_le.mp (isin_hi hz hin)) H.size) mw_Jx4a65c_get_915e3 md_Jx4a65c_get_915e3 rfl lk_X4_143 ⟨Nat.le_of_ble_eq_true rfl, Nat.le_of_ble_eq_true rfl⟩ hA hK hT B (by omega) (mg_27p (by omega)) rfl rfl hl.1 rfl (Nat.le_of_ble_eq_true rfl) dX4_piledNow_24 ⟨Nat.le_of_ble_eq_true rfl, Nat.le_of_ble_eq_true rfl⟩) (Nat.le_of_ble_eq_true rfl) (Nat.le_of_ble_eq_true rfl) (fun r ad' f' H locs hw B => ?_)
  obtain ⟨rfl, rfl, rfl⟩ := hw
  refine b_castR (q := (37 + a1.toNatClampNeg)) rfl X hK B (pl_pl hN g2) (mg_pl g2) lk_X4_21 dX4_piledNow_27 ?_
  refine k_r (k := 6) (n := 166) hA B (u_S (rest := []) X (c_W_told l g N ad (mg g ad y cr dr th kn rf pl pz mc) (37 + a1.toNatClampNeg) (ad (37 + a1.toNatClampNeg)) (pl a1.toNatClampNeg) (pl_pl hN g2) rfl (mg_pl g2) H.size) mw_X4_told md_X4_told rfl lk_X4_145 ⟨Nat.le_of_ble_eq_true rfl, Nat.le_of_ble_eq_true rfl⟩ hA hK hT B hl.1 rfl (Nat.le_of_ble_eq_true rfl) dX4_piledNow_30 ⟨Nat.le_of_ble_eq_true rfl, Nat.le_of_ble_eq_true rfl⟩) (Nat.le_of_ble_eq_true rfl) (Nat.le_of_ble_eq_true rfl) (fun r ad' f' H locs hw B => ?_)
  obtain ⟨a3, a3x, h3, hF3, rfl, rfl, rfl⟩ := hw
  have B : WB g (aw N ad sz) s.heap (N + 1 + 1) (va_up (va_up ad N a3) (N + 1) a3x) (mg g (va_up (va_up ad N a3) (N + 1) a3x) (va_up (va_up y N (c_st a3x)) (N + 1) (c_ba g (tlen (pl a1.toNatClampNeg)) h3)) cr dr th kn rf pl pz mc) H locs := WM_push2 (by omega) B
  refine lv_goto (tgt := 38) hx hb dX4_piledNow_33 (by decide) ?_
  have B : WB g (aw N ad sz) s.heap (N + 1 + 1) (va_up (va_up ad N a3) (N + 1) a3x) (mg g (va_up (va_up ad N a3) (N + 1) a3x) (va_up (va_up y N (c_st a3x)) (N + 1) (c_ba g (tlen (pl a1.toNatClampNeg)) h3)) cr dr th kn rf pl pz mc) H locs := WM_pick2 (q := N) (ad := ad) (y := y) B (by omega) (by omega) (by omega) (fun _ hk => ((up_lt (Nat.lt_succ_of_lt hk)).trans (up_lt hk))) (fun _ hk => ((up_lt (Nat.lt_succ_of_lt hk)).trans (up_lt hk))) ((up_lt (by omega)).trans up_eq) up_eq ((up_lt (by omega)).trans up_eq) up_eq
  exact rt_r (r := some (a3)) rfl X hr (Or.inl ⟨_, rfl⟩) ((va_up (va_up ad N a3) (N + 1) a3x), mg g (va_up (va_up ad N a3) (N + 1) a3x) (va_up (va_up y N (c_st a3x)) (N + 1) (c_ba g (tlen (pl a1.toNatClampNeg)) h3)) cr dr th kn rf pl pz mc) B (PO_of B) ⟨_, _, _, hF3, rfl, rfl, rfl⟩ (Nat.le_of_ble_eq_true rfl) (Nat.le_of_ble_eq_true rfl) dX4_piledNow_38
set_option maxHeartbeats 4000000 in
set_option maxRecDepth 100000 in
theorem c_X4_movedNowN (l : Launch) (g : GG) (N : Nat) (ad : Nat → Nat) (y : Nat → va_E) (cr dr : Nat → TR) (th kn rf : Int32) (pl : Nat → TR) (pz : Nat) (mc : Int32) (hN : 36 + pz ≤ N) (b0 : Nat) (hb0 : ad 24 = b0) (a1 : Int32) (a2 : Int32) (a3 : Int32) (hza1 : v_X4_isNone a1 = 0) (hza2 : v_X4_isNone a2 = 0) (hdr : ∀ i, i < 4 → okd (dr i)) (hon : v_X4_onBy (dr a1.toNatClampNeg) (cr a2.toNatClampNeg) (msg a3) = none) : KR l yX4_movedNow cX4_movedNow 4 (.object "java/lang/String") (rm 4 2 6) g [.ref b0, .int a1, .int a2, .int a3] N ad (mg g ad y cr dr th kn rf pl pz mc) N (fun r ad' f' => ad = ad' ∧ some (g.2.2 (100 + 10)) = r ∧ mg g ad y cr dr th kn rf pl pz mc = f') := by
  intro sz
  refine mt_start (by decide) (Nat.le_of_ble_eq_true rfl) ?_
  intro p e s m args below meth c hsz X hr hnam hA hK hT H locs B ls hl
  obtain ⟨hx, hb, hml, hown, hts, hlocks⟩ := id X
  have hl : lv_has ls 4 [(0, .ref b0), (1, .int a1), (2, .int a2), (3, .int a3)] := hl
  refine lv_aload_n hx hb dX4_movedNow_0 rfl (lv_at hl 0 rfl) ?_
  refine b_get (q := 24) (k := 3) hb0 X hK B rfl in_X4 (by omega) mg_24 (by decide) lk_X4_23 rfl rfl dX4_movedNow_1 ?_
  refine lv_iload_n hx hb dX4_movedNow_4 rfl (lv_at hl 1 rfl) ?_
  refine b_aald (q := 26) (t0 := 2) (v := ad (32 + a1.toNatClampNeg)) rfl X hK B (by omega) mg_26 rfl rfl (no_in hza1) rfl dX4_movedNow_5 ?_
  have g1 : a1.toNatClampNeg < 4 := (no_lt hza1)
  refine lv_aload_n hx hb dX4_movedNow_6 rfl (lv_at hl 0 rfl) ?_
  refine b_get (q := 24) (k := 1) hb0 X hK B rfl in_X4 (by omega) mg_24 (by decide) lk_X4_11 rfl rfl dX4_movedNow_7 ?_
  refine lv_iload_n hx hb dX4_movedNow_10 rfl (lv_at hl 2 rfl) ?_
  refine b_aald (q := 25) (t0 := 2) (v := ad (28 + a2.toNatClampNeg)) rfl X hK B (by omega) mg_25 rfl rfl (no_in hza2) rfl dX4_movedNow_11 ?_
  have g2 : a2.toNatClampNeg < 4 := (no_lt hza2)
  refine lv_iload_n hx hb dX4_movedNow_12 rfl (lv_at hl 3 rfl) ?_
  refine lv_if_eq (tgt := 20) hx hb dX4_movedNow_13 (by decide) (fun c3 => ?_) (fun c3 => ?_)
  · refine lv_iconst (v := 1) hx hb dX4_movedNow_20 (by decide) ?_
    have honk : v_X4_onBy (dr a1.toNatClampNeg) (cr a2.toNatClampNeg) 1 = none := by have z := hon; rw [show msg a3 = 1 from if_pos c3] at z; exact z
    refine k_r (k := 2) (n := 6) hA B (u_S (rest := []) X (c_X4_onBy l g N ad (mg g ad y cr dr th kn rf pl pz mc) (32 + a1.toNatClampNeg) (ad (32 + a1.toNatClampNeg)) (dr a1.toNatClampNeg) (pl_dr hN g1) rfl (mg_dr g1) (28 + a2.toNatClampNeg) (ad (28 + a2.toNatClampNeg)) (cr a2.toNatClampNeg) (pl_cr hN g2) rfl (mg_cr g2) 1 H.size) mw_X4_onBy md_X4_onBy rfl lk_X4_215 ⟨Nat.le_of_ble_eq_true rfl, Nat.le_of_ble_eq_true rfl⟩ hA hK hT B hl.1 rfl (Nat.le_of_ble_eq_true rfl) dX4_movedNow_21 ⟨Nat.le_of_ble_eq_true rfl, Nat.le_of_ble_eq_true rfl⟩) (Nat.le_of_ble_eq_true rfl) (Nat.le_of_ble_eq_true rfl) (fun r4 ad4 f' H locs hw B => ?_)
    rw [honk] at hw B
    obtain ⟨rfl, rfl, rfl⟩ := pw_n hw
    refine k_r (k := 2) (n := 6) hA B (u_S (rest := []) X (c_W_dateN l g N ad (mg g ad y cr dr th kn rf pl pz mc) H.size) mw_X4_dateTold md_X4_dateTold rfl lk_X4_232 ⟨Nat.le_of_ble_eq_true rfl, Nat.le_of_ble_eq_true rfl⟩ hA hK hT B hl.1 rfl (Nat.le_of_ble_eq_true rfl) dX4_movedNow_24 ⟨Nat.le_of_ble_eq_true rfl, Nat.le_of_ble_eq_true rfl⟩) (Nat.le_of_ble_eq_true rfl) (Nat.le_of_ble_eq_true rfl) (fun r ad' f' H locs hw B => ?_)
    obtain ⟨rfl, rfl, rfl⟩ := hw
    exact rt_r (r := some (g.2.2 (100 + 10))) rfl X hr (Or.inl ⟨_, rfl⟩) (ad, mg g ad y cr dr th kn rf pl pz mc) B (PO_of B) ⟨rfl, rfl, rfl⟩ (Nat.le_of_ble_eq_true rfl) (Nat.le_of_ble_eq_true rfl) dX4_movedNow_27
  · refine lv_iconst (v := (-1)) hx hb dX4_movedNow_16 (by decide) ?_
    refine lv_goto (tgt := 21) hx hb dX4_movedNow_17 (by decide) ?_
    have honk : v_X4_onBy (dr a1.toNatClampNeg) (cr a2.toNatClampNeg) (-1) = none := by have z := hon; rw [show msg a3 = (-1) from if_neg c3] at z; exact z
    refine k_r (k := 2) (n := 6) hA B (u_S (rest := []) X (c_X4_onBy l g N ad (mg g ad y cr dr th kn rf pl pz mc) (32 + a1.toNatClampNeg) (ad (32 + a1.toNatClampNeg)) (dr a1.toNatClampNeg) (pl_dr hN g1) rfl (mg_dr g1) (28 + a2.toNatClampNeg) (ad (28 + a2.toNatClampNeg)) (cr a2.toNatClampNeg) (pl_cr hN g2) rfl (mg_cr g2) (-1) H.size) mw_X4_onBy md_X4_onBy rfl lk_X4_215 ⟨Nat.le_of_ble_eq_true rfl, Nat.le_of_ble_eq_true rfl⟩ hA hK hT B hl.1 rfl (Nat.le_of_ble_eq_true rfl) dX4_movedNow_21 ⟨Nat.le_of_ble_eq_true rfl, Nat.le_of_ble_eq_true rfl⟩) (Nat.le_of_ble_eq_true rfl) (Nat.le_of_ble_eq_true rfl) (fun r6 ad6 f' H locs hw B => ?_)
    rw [honk] at hw B
    obtain ⟨rfl, rfl, rfl⟩ := pw_n hw
    refine k_r (k := 2) (n := 6) hA B (u_S (rest := []) X (c_W_dateN l g N ad (mg g ad y cr dr th kn rf pl pz mc) H.size) mw_X4_dateTold md_X4_dateTold rfl lk_X4_232 ⟨Nat.le_of_ble_eq_true rfl, Nat.le_of_ble_eq_true rfl⟩ hA hK hT B hl.1 rfl (Nat.le_of_ble_eq_true rfl) dX4_movedNow_24 ⟨Nat.le_of_ble_eq_true rfl, Nat.le_of_ble_eq_true rfl⟩) (Nat.le_of_ble_eq_true rfl) (Nat.le_of_ble_eq_true rfl) (fun r ad' f' H locs hw B => ?_)
    obtain ⟨rfl, rfl, rfl⟩ := hw
    exact rt_r (r := some (g.2.2 (100 + 10))) rfl X hr (Or.inl ⟨_, rfl⟩) (ad, mg g ad y cr dr th kn rf pl pz mc) B (PO_of B) ⟨rfl, rfl, rfl⟩ (Nat.le_of_ble_eq_true rfl) (Nat.le_of_ble_eq_true rfl) dX4_movedNow_27
set_option maxHeartbeats 4000000 in
set_option maxRecDepth 100000 in
theorem c_X4_movedNowY (l : Launch) (g : GG) (N : Nat) (ad : Nat → Nat) (y : Nat → va_E) (cr dr : Nat → TR) (th kn rf : Int32) (pl : Nat → TR) (pz : Nat) (mc : Int32) (hN : 36 + pz ≤ N) (b0 : Nat) (hb0 : ad 24 = b0) (a1 : Int32) (a2 : Int32) (a3 : Int32) (hza1 : v_X4_isNone a1 = 0) (hza2 : v_X4_isNone a2 = 0) (hdr : ∀ i, i < 4 → okd (dr i)) (tq : TR) (hon : v_X4_onBy (dr a1.toNatClampNeg) (cr a2.toNatClampNeg) (msg a3) = some tq) : KR l yX4_movedNow cX4_movedNow 4 (.object "java/lang/String") (rm 7 6 40) g [.ref b0, .int a1, .int a2, .int a3] N ad (mg g ad y cr dr th kn rf pl pz mc) (N + 1 + 1) (fun r ad' f' => ∃ (a a2 : Nat) (h' : Nat → Int32), sb_Fit h' ∧ some a = r ∧ va_up (va_up ad N a) (N + 1) a2 = ad' ∧ mg g ad' (va_up (va_up y N (c_st a2)) (N + 1) (c_ba g (dlen tq) h')) cr dr th kn rf pl pz mc = f') := by
  intro sz
  refine mt_start (by decide) (Nat.le_of_ble_eq_true rfl) ?_
  intro p e s m args below meth c hsz X hr hnam hA hK hT H locs B ls hl
  obtain ⟨hx, hb, hml, hown, hts, hlocks⟩ := id X
  have hl : lv_has ls 4 [(0, .ref b0), (1, .int a1), (2, .int a2), (3, .int a3)] := hl
  refine lv_aload_n hx hb dX4_movedNow_0 rfl (lv_at hl 0 rfl) ?_
  refine b_get (q := 24) (k := 3) hb0 X hK B rfl in_X4 (by omega) mg_24 (by decide) lk_X4_23 rfl rfl dX4_movedNow_1 ?_
  refine lv_iload_n hx hb dX4_movedNow_4 rfl (lv_at hl 1 rfl) ?_
  refine b_aald (q := 26) (t0 := 2) (v := ad (32 + a1.toNatClampNeg)) rfl X hK B (by omega) mg_26 rfl rfl (no_in hza1) rfl dX4_movedNow_5 ?_
  have g1 : a1.toNatClampNeg < 4 := (no_lt hza1)
  refine lv_aload_n hx hb dX4_movedNow_6 rfl (lv_at hl 0 rfl) ?_
  refine b_get (q := 24) (k := 1) hb0 X hK B rfl in_X4 (by omega) mg_24 (by decide) lk_X4_11 rfl rfl dX4_movedNow_7 ?_
  refine lv_iload_n hx hb dX4_movedNow_10 rfl (lv_at hl 2 rfl) ?_
  refine b_aald (q := 25) (t0 := 2) (v := ad (28 + a2.toNatClampNeg)) rfl X hK B (by omega) mg_25 rfl rfl (no_in hza2) rfl dX4_movedNow_11 ?_
  have g2 : a2.toNatClampNeg < 4 := (no_lt hza2)
  refine lv_iload_n hx hb dX4_movedNow_12 rfl (lv_at hl 3 rfl) ?_
  refine lv_if_eq (tgt := 20) hx hb dX4_movedNow_13 (by decide) (fun c3 => ?_) (fun c3 => ?_)
  · refine lv_iconst (v := 1) hx hb dX4_movedNow_20 (by decide) ?_
    have honk : v_X4_onBy (dr a1.toNatClampNeg) (cr a2.toNatClampNeg) 1 = some tq := by have z := hon; rw [show msg a3 = 1 from if_pos c3] at z; exact z
    refine k_r (k := 2) (n := 6) hA B (u_S (rest := []) X (c_X4_onBy l g N ad (mg g ad y cr dr th kn rf pl pz mc) (32 + a1.toNatClampNeg) (ad (32 + a1.toNatClampNeg)) (dr a1.toNatClampNeg) (pl_dr hN g1) rfl (mg_dr g1) (28 + a2.toNatClampNeg) (ad (28 + a2.toNatClampNeg)) (cr a2.toNatClampNeg) (pl_cr hN g2) rfl (mg_cr g2) 1 H.size) mw_X4_onBy md_X4_onBy rfl lk_X4_215 ⟨Nat.le_of_ble_eq_true rfl, Nat.le_of_ble_eq_true rfl⟩ hA hK hT B hl.1 rfl (Nat.le_of_ble_eq_true rfl) dX4_movedNow_21 ⟨Nat.le_of_ble_eq_true rfl, Nat.le_of_ble_eq_true rfl⟩) (Nat.le_of_ble_eq_true rfl) (Nat.le_of_ble_eq_true rfl) (fun r4 ad4 f' H locs hw B => ?_)
    rw [honk] at hw B
    obtain ⟨z5, rfl, rfl, rfl⟩ := pw_s hw
    have B : WB g (aw N ad sz) s.heap (N + 1) (va_up ad N z5) (mg g (va_up ad N z5) (va_up y N (c_row g tq)) cr dr th kn rf pl pz mc) H locs := WM_push (by omega) B
    refine k_r (k := 6) (n := 40) hA B (u_S (rest := []) X (c_W_date l g (N + 1) (va_up ad N z5) (mg g (va_up ad N z5) (va_up y N (c_row g tq)) cr dr th kn rf pl pz mc) N z5 tq (Nat.lt_succ_self _) up_eq ((mg_hi (by omega)).trans up_eq) (onBy_okd honk) H.size) mw_X4_dateTold md_X4_dateTold rfl lk_X4_232 ⟨Nat.le_of_ble_eq_true rfl, Nat.le_of_ble_eq_true rfl⟩ hA hK hT B hl.1 rfl (Nat.le_of_ble_eq_true rfl) dX4_movedNow_24 ⟨Nat.le_of_ble_eq_true rfl, Nat.le_of_ble_eq_true rfl⟩) (Nat.le_of_ble_eq_true rfl) (Nat.le_of_ble_eq_true rfl) (fun r ad' f' H locs hw B => ?_)
    obtain ⟨a6, a6x, h6, hF6, rfl, rfl, rfl⟩ := hw
    have B : WB g (aw N ad sz) s.heap (N + 1 + 1 + 1) (va_up (va_up (va_up ad N z5) (N + 1) a6) (N + 1 + 1) a6x) (mg g (va_up (va_up (va_up ad N z5) (N + 1) a6) (N + 1 + 1) a6x) (va_up (va_up (va_up y N (c_row g tq)) (N + 1) (c_st a6x)) (N + 1 + 1) (c_ba g (dlen tq) h6)) cr dr th kn rf pl pz mc) H locs := WM_push2 (by omega) B
    have B : WB g (aw N ad sz) s.heap (N + 1 + 1) (va_up (va_up ad N a6) (N + 1) a6x) (mg g (va_up (va_up ad N a6) (N + 1) a6x) (va_up (va_up y N (c_st a6x)) (N + 1) (c_ba g (dlen tq) h6)) cr dr th kn rf pl pz mc) H locs := WM_pick2 (q := N + 1) (ad := ad) (y := y) B (by omega) (by omega) (by omega) (fun _ hk => ((up_lt (Nat.lt_succ_of_lt (Nat.lt_succ_of_lt hk))).trans ((up_lt (Nat.lt_succ_of_lt hk)).trans (up_lt hk)))) (fun _ hk => ((up_lt (Nat.lt_succ_of_lt (Nat.lt_succ_of_lt hk))).trans ((up_lt (Nat.lt_succ_of_lt hk)).trans (up_lt hk)))) ((up_lt (by omega)).trans up_eq) up_eq ((up_lt (by omega)).trans up_eq) up_eq
    exact rt_r (r := some (a6)) rfl X hr (Or.inl ⟨_, rfl⟩) ((va_up (va_up ad N a6) (N + 1) a6x), mg g (va_up (va_up ad N a6) (N + 1) a6x) (va_up (va_up y N (c_st a6x)) (N + 1) (c_ba g (dlen tq) h6)) cr dr th kn rf pl pz mc) B (PO_of B) ⟨_, _, _, hF6, rfl, rfl, rfl⟩ (Nat.le_of_ble_eq_true rfl) (Nat.le_of_ble_eq_true rfl) dX4_movedNow_27
  · refine lv_iconst (v := (-1)) hx hb dX4_movedNow_16 (by decide) ?_
    refine lv_goto (tgt := 21) hx hb dX4_movedNow_17 (by decide) ?_
    have honk : v_X4_onBy (dr a1.toNatClampNeg) (cr a2.toNatClampNeg) (-1) = some tq := by have z := hon; rw [show msg a3 = (-1) from if_neg c3] at z; exact z
    refine k_r (k := 2) (n := 6) hA B (u_S (rest := []) X (c_X4_onBy l g N ad (mg g ad y cr dr th kn rf pl pz mc) (32 + a1.toNatClampNeg) (ad (32 + a1.toNatClampNeg)) (dr a1.toNatClampNeg) (pl_dr hN g1) rfl (mg_dr g1) (28 + a2.toNatClampNeg) (ad (28 + a2.toNatClampNeg)) (cr a2.toNatClampNeg) (pl_cr hN g2) rfl (mg_cr g2) (-1) H.size) mw_X4_onBy md_X4_onBy rfl lk_X4_215 ⟨Nat.le_of_ble_eq_true rfl, Nat.le_of_ble_eq_true rfl⟩ hA hK hT B hl.1 rfl (Nat.le_of_ble_eq_true rfl) dX4_movedNow_21 ⟨Nat.le_of_ble_eq_true rfl, Nat.le_of_ble_eq_true rfl⟩) (Nat.le_of_ble_eq_true rfl) (Nat.le_of_ble_eq_true rfl) (fun r7 ad7 f' H locs hw B => ?_)
    rw [honk] at hw B
    obtain ⟨z8, rfl, rfl, rfl⟩ := pw_s hw
    have B : WB g (aw N ad sz) s.heap (N + 1) (va_up ad N z8) (mg g (va_up ad N z8) (va_up y N (c_row g tq)) cr dr th kn rf pl pz mc) H locs := WM_push (by omega) B
    refine k_r (k := 6) (n := 40) hA B (u_S (rest := []) X (c_W_date l g (N + 1) (va_up ad N z8) (mg g (va_up ad N z8) (va_up y N (c_row g tq)) cr dr th kn rf pl pz mc) N z8 tq (Nat.lt_succ_self _) up_eq ((mg_hi (by omega)).trans up_eq) (onBy_okd honk) H.size) mw_X4_dateTold md_X4_dateTold rfl lk_X4_232 ⟨Nat.le_of_ble_eq_true rfl, Nat.le_of_ble_eq_true rfl⟩ hA hK hT B hl.1 rfl (Nat.le_of_ble_eq_true rfl) dX4_movedNow_24 ⟨Nat.le_of_ble_eq_true rfl, Nat.le_of_ble_eq_true rfl⟩) (Nat.le_of_ble_eq_true rfl) (Nat.le_of_ble_eq_true rfl) (fun r ad' f' H locs hw B => ?_)
    obtain ⟨a9, a9x, h9, hF9, rfl, rfl, rfl⟩ := hw
    have B : WB g (aw N ad sz) s.heap (N + 1 + 1 + 1) (va_up (va_up (va_up ad N z8) (N + 1) a9) (N + 1 + 1) a9x) (mg g (va_up (va_up (va_up ad N z8) (N + 1) a9) (N + 1 + 1) a9x) (va_up (va_up (va_up y N (c_row g tq)) (N + 1) (c_st a9x)) (N + 1 + 1) (c_ba g (dlen tq) h9)) cr dr th kn rf pl pz mc) H locs := WM_push2 (by omega) B
    have B : WB g (aw N ad sz) s.heap (N + 1 + 1) (va_up (va_up ad N a9) (N + 1) a9x) (mg g (va_up (va_up ad N a9) (N + 1) a9x) (va_up (va_up y N (c_st a9x)) (N + 1) (c_ba g (dlen tq) h9)) cr dr th kn rf pl pz mc) H locs := WM_pick2 (q := N + 1) (ad := ad) (y := y) B (by omega) (by omega) (by omega) (fun _ hk => ((up_lt (Nat.lt_succ_of_lt (Nat.lt_succ_of_lt hk))).trans ((up_lt (Nat.lt_succ_of_lt hk)).trans (up_lt hk)))) (fun _ hk => ((up_lt (Nat.lt_succ_of_lt (Nat.lt_succ_of_lt hk))).trans ((up_lt (Nat.lt_succ_of_lt hk)).trans (up_lt hk)))) ((up_lt (by omega)).trans up_eq) up_eq ((up_lt (by omega)).trans up_eq) up_eq
    exact rt_r (r := some (a9)) rfl X hr (Or.inl ⟨_, rfl⟩) ((va_up (va_up ad N a9) (N + 1) a9x), mg g (va_up (va_up ad N a9) (N + 1) a9x) (va_up (va_up y N (c_st a9x)) (N + 1) (c_ba g (dlen tq) h9)) cr dr th kn rf pl pz mc) B (PO_of B) ⟨_, _, _, hF9, rfl, rfl, rfl⟩ (Nat.le_of_ble_eq_true rfl) (Nat.le_of_ble_eq_true rfl) dX4_movedNow_27
def v_X4_piled (pz : Nat) (a1 : Int32) : Int32 := if (v_X4_isIn a1.toInt64 0 (((Int32.ofNat (pz - 1)) - 1).toInt64)) = 0 then 0 else 0
set_option maxHeartbeats 4000000 in
set_option maxRecDepth 100000 in
theorem c_X4_piled (l : Launch) (g : GG) (N : Nat) (ad : Nat → Nat) (y : Nat → va_E) (cr dr : Nat → TR) (th kn rf : Int32) (pl : Nat → TR) (pz : Nat) (mc : Int32) (hN : 36 + pz ≤ N) (b0 : Nat) (hb0 : ad 24 = b0) (a1 : Int32) (hz : pz ≤ 9) : KR l yX4_piled cX4_piled 2 (.object "java/lang/String") (rm 8 6 166) g [.ref b0, .int a1] N ad (mg g ad y cr dr th kn rf pl pz mc) N (fun r ad' f' => ad = ad' ∧ (∃ a : Nat, some a = r) ∧ mg g ad y cr dr (v_X4_piled pz a1) kn rf pl pz mc = f') := by
  intro sz
  refine mt_start (by decide) (Nat.le_of_ble_eq_true rfl) ?_
  intro p e s m args below meth c hsz X hr hnam hA hK hT H locs B ls hl
  obtain ⟨hx, hb, hml, hown, hts, hlocks⟩ := id X
  have hl : lv_has ls 2 [(0, .ref b0), (1, .int a1)] := hl
  refine lv_aload_n hx hb dX4_piled_0 rfl (lv_at hl 0 rfl) ?_
  refine lv_iconst (v := 0) hx hb dX4_piled_1 (by decide) ?_
  refine b_put (q := 24) (k := 0) hb0 X hK B rfl in_X4 tyX4_ok nmX4 (by omega) mg_24 (by decide) lk_X4_26 rfl rfl rfl rfl rfl (Nat.le_of_ble_eq_true rfl) dX4_piled_2 (fun H locs B => ?_)
  have B : WB g (aw N ad sz) s.heap N ad (mg g ad y cr dr 0 kn rf pl pz mc) H locs := by rw [← mg_up_md]; exact B
  refine lv_aload_n hx hb dX4_piled_5 rfl (lv_at hl 0 rfl) ?_
  refine lv_iload_n hx hb dX4_piled_6 rfl (lv_at hl 1 rfl) ?_
  by_cases sn1 : (v_X4_isIn a1.toInt64 0 (((Int32.ofNat (pz - 1)) - 1).toInt64)) = 0
  · refine k_r (k := 0) (n := 0) hA B (b_V (q := 24) (rest := []) hb0 X (c_X4_piledNowN l g N ad y cr dr 0 kn rf pl pz mc (by omega) b0 hb0 a1 hz sn1 H.size) mw_X4_piledNow md_X4_piledNow rfl lk_X4_149 ⟨Nat.le_of_ble_eq_true rfl, Nat.le_of_ble_eq_true rfl⟩ hA hK hT B (by omega) mg_24 rfl rfl hl.1 rfl (Nat.le_of_ble_eq_true rfl) dX4_piled_7 ⟨Nat.le_of_ble_eq_true rfl, Nat.le_of_ble_eq_true rfl⟩) (Nat.le_of_ble_eq_true rfl) (Nat.le_of_ble_eq_true rfl) (fun r ad' f' H locs hw B => ?_)
    obtain ⟨rfl, rfl, rfl⟩ := hw
    have ev := (show v_X4_piled pz a1 = 0 from by unfold v_X4_piled; rw [if_pos sn1])
    exact rt_r (r := some (g.2.2 (100 + 10))) rfl X hr (Or.inl ⟨_, rfl⟩) (ad, mg g ad y cr dr 0 kn rf pl pz mc) B (PO_of B) ⟨rfl, ⟨_, rfl⟩, by rw [ev]⟩ (Nat.le_of_ble_eq_true rfl) (Nat.le_of_ble_eq_true rfl) dX4_piled_10
  · refine k_r (k := 6) (n := 166) hA B (b_V (q := 24) (rest := []) hb0 X (c_X4_piledNowY l g N ad y cr dr 0 kn rf pl pz mc (by omega) b0 hb0 a1 hz sn1 H.size) mw_X4_piledNow md_X4_piledNow rfl lk_X4_149 ⟨Nat.le_of_ble_eq_true rfl, Nat.le_of_ble_eq_true rfl⟩ hA hK hT B (by omega) mg_24 rfl rfl hl.1 rfl (Nat.le_of_ble_eq_true rfl) dX4_piled_7 ⟨Nat.le_of_ble_eq_true rfl, Nat.le_of_ble_eq_true rfl⟩) (Nat.le_of_ble_eq_true rfl) (Nat.le_of_ble_eq_true rfl) (fun r ad' f' H locs hw B => ?_)
    dsimp only at hw
    obtain ⟨a2, a2x, h2, hF2, rfl, rfl, rfl⟩ := hw
    have B : WB g (aw N ad sz) s.heap (N + 1 + 1) (va_up (va_up ad N a2) (N + 1) a2x) (mg g (va_up (va_up ad N a2) (N + 1) a2x) (va_up (va_up y N (c_st a2x)) (N + 1) (c_ba g (tlen (pl a1.toNatClampNeg)) h2)) cr dr 0 kn rf pl pz mc) H locs := B
    have B : WB g (aw N ad sz) s.heap N ad (mg g ad y cr dr 0 kn rf pl pz mc) H locs := WM_drop B (by omega) (by omega) (fun _ hk => ((up_lt (Nat.lt_succ_of_lt hk)).trans (up_lt hk))) (fun _ hk => ((up_lt (Nat.lt_succ_of_lt hk)).trans (up_lt hk)))
    have ev := (show v_X4_piled pz a1 = 0 from by unfold v_X4_piled; rw [if_neg sn1])
    exact rt_r (r := some (a2)) rfl X hr (Or.inl ⟨_, rfl⟩) (ad, mg g ad y cr dr 0 kn rf pl pz mc) B (PO_of B) ⟨rfl, ⟨_, rfl⟩, by rw [ev]⟩ (Nat.le_of_ble_eq_true rfl) (Nat.le_of_ble_eq_true rfl) dX4_piled_10
def v_X4_text (a1 : Int32) : Int32 := if v_X4_isNone a1 = 0 then 0 else 1
set_option maxHeartbeats 4000000 in
set_option maxRecDepth 100000 in
theorem c_X4_text (l : Launch) (g : GG) (N : Nat) (ad : Nat → Nat) (y : Nat → va_E) (cr dr : Nat → TR) (th kn rf : Int32) (pl : Nat → TR) (pz : Nat) (mc : Int32) (hN : 36 + pz ≤ N) (b0 : Nat) (hb0 : ad 24 = b0) (a1 : Int32) : KR l yX4_text cX4_text 2 (.object "java/lang/String") (rm 7 6 166) g [.ref b0, .int a1] N ad (mg g ad y cr dr th kn rf pl pz mc) N (fun r ad' f' => ad = ad' ∧ (∃ a : Nat, some a = r) ∧ mg g ad y cr dr (v_X4_text a1) kn rf pl pz mc = f') := by
  intro sz
  refine mt_start (by decide) (Nat.le_of_ble_eq_true rfl) ?_
  intro p e s m args below meth c hsz X hr hnam hA hK hT H locs B ls hl
  obtain ⟨hx, hb, hml, hown, hts, hlocks⟩ := id X
  have hl : lv_has ls 2 [(0, .ref b0), (1, .int a1)] := hl
  refine lv_aload_n hx hb dX4_text_0 rfl (lv_at hl 0 rfl) ?_
  refine lv_iload_n hx hb dX4_text_1 rfl (lv_at hl 1 rfl) ?_
  refine k_i (k := 0) (n := 0) hA B (u_S (rest := [.ref b0]) X (c_X4_isNone l g N ad (mg g ad y cr dr th kn rf pl pz mc) a1 H.size) mw_X4_isNone md_X4_isNone rfl lk_X4_95 ⟨Nat.le_of_ble_eq_true rfl, Nat.le_of_ble_eq_true rfl⟩ hA hK hT B hl.1 rfl (Nat.le_of_ble_eq_true rfl) dX4_text_2 ⟨Nat.le_of_ble_eq_true rfl, Nat.le_of_ble_eq_true rfl⟩) (Nat.le_of_ble_eq_true rfl) (Nat.le_of_ble_eq_true rfl) (fun r1 ad1 f' H locs hw B => ?_)
  obtain ⟨rfl, rfl, rfl⟩ := hw
  refine lv_iconst (v := 0) hx hb dX4_text_5 (by decide) ?_
  by_cases s2 : v_X4_isNone a1 = 0
  · rw [s2]
    refine k_i (k := 0) (n := 0) hA B (b_V (q := 24) (rest := []) hb0 X (c_X4_stops l g N ad y cr dr th kn rf pl pz mc (by omega) b0 hb0 0 0 H.size) mw_X4_stops md_X4_stops rfl lk_X4_99 ⟨Nat.le_of_ble_eq_true rfl, Nat.le_of_ble_eq_true rfl⟩ hA hK hT B (by omega) mg_24 rfl rfl hl.1 rfl (Nat.le_of_ble_eq_true rfl) dX4_text_6 ⟨Nat.le_of_ble_eq_true rfl, Nat.le_of_ble_eq_true rfl⟩) (Nat.le_of_ble_eq_true rfl) (Nat.le_of_ble_eq_true rfl) (fun r ad' f' H locs hw B => ?_)
    rw [st_00] at hw
    dsimp only at hw
    obtain ⟨rfl, rfl, rfl⟩ := hw
    have B : WB g (aw N ad sz) s.heap N ad (mg g ad y cr dr 0 kn rf pl pz mc) H locs := B
    refine lv_if_eq (tgt := 17) hx hb dX4_text_9 (by decide) (fun _ => ?_) (fun z => absurd z (by decide))
    refine lv_aload_n hx hb dX4_text_17 rfl (lv_at hl 0 rfl) ?_
    refine b_get (q := 24) (k := 1) hb0 X hK B rfl in_X4 (by omega) mg_24 (by decide) lk_X4_11 rfl rfl dX4_text_18 ?_
    refine lv_iload_n hx hb dX4_text_21 rfl (lv_at hl 1 rfl) ?_
    refine b_aald (q := 25) (t0 := 2) (v := ad (28 + a1.toNatClampNeg)) rfl X hK B (by omega) mg_25 rfl rfl (no_in s2) rfl dX4_text_22 ?_
    have g3 : a1.toNatClampNeg < 4 := (no_lt s2)
    refine k_r (k := 6) (n := 166) hA B (u_S (rest := []) X (c_W_told l g N ad (mg g ad y cr dr 0 kn rf pl pz mc) (28 + a1.toNatClampNeg) (ad (28 + a1.toNatClampNeg)) (cr a1.toNatClampNeg) (pl_cr hN g3) rfl (mg_cr g3) H.size) mw_X4_told md_X4_told rfl lk_X4_145 ⟨Nat.le_of_ble_eq_true rfl, Nat.le_of_ble_eq_true rfl⟩ hA hK hT B hl.1 rfl (Nat.le_of_ble_eq_true rfl) dX4_text_23 ⟨Nat.le_of_ble_eq_true rfl, Nat.le_of_ble_eq_true rfl⟩) (Nat.le_of_ble_eq_true rfl) (Nat.le_of_ble_eq_true rfl) (fun r ad' f' H locs hw B => ?_)
    obtain ⟨a4, a4x, h4, hF4, rfl, rfl, rfl⟩ := hw
    have B : WB g (aw N ad sz) s.heap (N + 1 + 1) (va_up (va_up ad N a4) (N + 1) a4x) (mg g (va_up (va_up ad N a4) (N + 1) a4x) (va_up (va_up y N (c_st a4x)) (N + 1) (c_ba g (tlen (cr a1.toNatClampNeg)) h4)) cr dr 0 kn rf pl pz mc) H locs := WM_push2 (by omega) B
    have B : WB g (aw N ad sz) s.heap N ad (mg g ad y cr dr 0 kn rf pl pz mc) H locs := WM_drop B (by omega) (by omega) (fun _ hk => ((up_lt (Nat.lt_succ_of_lt hk)).trans (up_lt hk))) (fun _ hk => ((up_lt (Nat.lt_succ_of_lt hk)).trans (up_lt hk)))
    have ev := (show v_X4_text a1 = 0 from by unfold v_X4_text; rw [if_pos s2])
    exact rt_r (r := some (a4)) rfl X hr (Or.inl ⟨_, rfl⟩) (ad, mg g ad y cr dr 0 kn rf pl pz mc) B (PO_of B) ⟨rfl, ⟨_, rfl⟩, by rw [ev]⟩ (Nat.le_of_ble_eq_true rfl) (Nat.le_of_ble_eq_true rfl) dX4_text_26
  · have s2x : (v_X4_isNone a1) = 1 := (b01_X4_isNone).resolve_left s2
    rw [s2x]
    refine k_i (k := 0) (n := 0) hA B (b_V (q := 24) (rest := []) hb0 X (c_X4_stops l g N ad y cr dr th kn rf pl pz mc (by omega) b0 hb0 1 0 H.size) mw_X4_stops md_X4_stops rfl lk_X4_99 ⟨Nat.le_of_ble_eq_true rfl, Nat.le_of_ble_eq_true rfl⟩ hA hK hT B (by omega) mg_24 rfl rfl hl.1 rfl (Nat.le_of_ble_eq_true rfl) dX4_text_6 ⟨Nat.le_of_ble_eq_true rfl, Nat.le_of_ble_eq_true rfl⟩) (Nat.le_of_ble_eq_true rfl) (Nat.le_of_ble_eq_true rfl) (fun r ad' f' H locs hw B => ?_)
    rw [st_10] at hw
    dsimp only at hw
    obtain ⟨rfl, rfl, rfl⟩ := hw
    have B : WB g (aw N ad sz) s.heap N ad (mg g ad y cr dr 1 kn rf pl pz mc) H locs := B
    refine lv_if_eq (tgt := 17) hx hb dX4_text_9 (by decide) (fun z => absurd z (by decide)) (fun _ => ?_)
    refine b_ldc (i := 10) (by decide) rfl rfl X hT dX4_text_12 ?_
    refine lv_goto (tgt := 26) hx hb dX4_text_14 (by decide) ?_
    have ev := (show v_X4_text a1 = 1 from by unfold v_X4_text; rw [if_neg s2])
    exact rt_r (r := some (g.2.2 (100 + 10))) rfl X hr (Or.inl ⟨_, rfl⟩) (ad, mg g ad y cr dr 1 kn rf pl pz mc) B (PO_of B) ⟨rfl, ⟨_, rfl⟩, by rw [ev]⟩ (Nat.le_of_ble_eq_true rfl) (Nat.le_of_ble_eq_true rfl) dX4_text_26
def v_X4_times (cr : Nat → TR) (a1 : Int32) (a2 : Int32) : Int32 := if v_X4_isNone a1 = 0 then (om (v_X4_sum (v_X4_nothing) a2.toInt64 (cr a1.toNatClampNeg)) 0 (fun t7 => 0)) else 1
set_option maxHeartbeats 4000000 in
set_option maxRecDepth 100000 in
theorem c_X4_times (l : Launch) (g : GG) (N : Nat) (ad : Nat → Nat) (y : Nat → va_E) (cr dr : Nat → TR) (th kn rf : Int32) (pl : Nat → TR) (pz : Nat) (mc : Int32) (hN : 36 + pz ≤ N) (b0 : Nat) (hb0 : ad 24 = b0) (a1 : Int32) (a2 : Int32) : KR l yX4_times cX4_times 3 (.object "java/lang/String") (rm 7 8 172) g [.ref b0, .int a1, .int a2] N ad (mg g ad y cr dr th kn rf pl pz mc) N (fun r ad' f' => ad = ad' ∧ (∃ a : Nat, some a = r) ∧ mg g ad y cr dr (v_X4_times cr a1 a2) kn rf pl pz mc = f') := by
  intro sz
  refine mt_start (by decide) (Nat.le_of_ble_eq_true rfl) ?_
  intro p e s m args below meth c hsz X hr hnam hA hK hT H locs B ls hl
  obtain ⟨hx, hb, hml, hown, hts, hlocks⟩ := id X
  have hl : lv_has ls 3 [(0, .ref b0), (1, .int a1), (2, .int a2)] := hl
  refine lv_aload_n hx hb dX4_times_0 rfl (lv_at hl 0 rfl) ?_
  refine lv_iload_n hx hb dX4_times_1 rfl (lv_at hl 1 rfl) ?_
  refine k_i (k := 0) (n := 0) hA B (u_S (rest := [.ref b0]) X (c_X4_isNone l g N ad (mg g ad y cr dr th kn rf pl pz mc) a1 H.size) mw_X4_isNone md_X4_isNone rfl lk_X4_95 ⟨Nat.le_of_ble_eq_true rfl, Nat.le_of_ble_eq_true rfl⟩ hA hK hT B hl.1 rfl (Nat.le_of_ble_eq_true rfl) dX4_times_2 ⟨Nat.le_of_ble_eq_true rfl, Nat.le_of_ble_eq_true rfl⟩) (Nat.le_of_ble_eq_true rfl) (Nat.le_of_ble_eq_true rfl) (fun r1 ad1 f' H locs hw B => ?_)
  obtain ⟨rfl, rfl, rfl⟩ := hw
  refine lv_iconst (v := 0) hx hb dX4_times_5 (by decide) ?_
  by_cases s2 : v_X4_isNone a1 = 0
  · rw [s2]
    refine k_i (k := 0) (n := 0) hA B (b_V (q := 24) (rest := []) hb0 X (c_X4_stops l g N ad y cr dr th kn rf pl pz mc (by omega) b0 hb0 0 0 H.size) mw_X4_stops md_X4_stops rfl lk_X4_99 ⟨Nat.le_of_ble_eq_true rfl, Nat.le_of_ble_eq_true rfl⟩ hA hK hT B (by omega) mg_24 rfl rfl hl.1 rfl (Nat.le_of_ble_eq_true rfl) dX4_times_6 ⟨Nat.le_of_ble_eq_true rfl, Nat.le_of_ble_eq_true rfl⟩) (Nat.le_of_ble_eq_true rfl) (Nat.le_of_ble_eq_true rfl) (fun r ad' f' H locs hw B => ?_)
    rw [st_00] at hw
    dsimp only at hw
    obtain ⟨rfl, rfl, rfl⟩ := hw
    have B : WB g (aw N ad sz) s.heap N ad (mg g ad y cr dr 0 kn rf pl pz mc) H locs := B
    refine lv_if_eq (tgt := 17) hx hb dX4_times_9 (by decide) (fun _ => ?_) (fun z => absurd z (by decide))
    refine k_r (k := 1) (n := 3) hA B (u_S (rest := []) X (c_X4_nothing l g N ad (mg g ad y cr dr 0 kn rf pl pz mc) H.size) mw_X4_nothing md_X4_nothing rfl lk_X4_51 ⟨Nat.le_of_ble_eq_true rfl, Nat.le_of_ble_eq_true rfl⟩ hA hK hT B hl.1 rfl (Nat.le_of_ble_eq_true rfl) dX4_times_17 ⟨Nat.le_of_ble_eq_true rfl, Nat.le_of_ble_eq_true rfl⟩) (Nat.le_of_ble_eq_true rfl) (Nat.le_of_ble_eq_true rfl) (fun r3 ad3 f' H locs hw B => ?_)
    obtain ⟨z4, rfl, rfl, rfl⟩ := hw
    have B : WB g (aw N ad sz) s.heap (N + 1) (va_up ad N z4) (mg g (va_up ad N z4) (va_up y N (c_row g (v_X4_nothing))) cr dr 0 kn rf pl pz mc) H locs := WM_push (by omega) B
    refine lv_iload_n hx hb dX4_times_20 rfl (lv_at hl 2 rfl) ?_
    refine lv_i2l (v := a2.toInt64) hx hb dX4_times_21 rfl ?_
    refine lv_aload_n hx hb dX4_times_22 rfl (lv_at hl 0 rfl) ?_
    refine b_get (q := 24) (k := 1) ((up_lt (by omega)).trans hb0) X hK B rfl in_X4 (by omega) mg_24 (by decide) lk_X4_11 rfl rfl dX4_times_23 ?_
    refine lv_iload_n hx hb dX4_times_26 rfl (lv_at hl 1 rfl) ?_
    refine b_aald (q := 25) (t0 := 2) (v := (va_up ad N z4) (28 + a1.toNatClampNeg)) rfl X hK B (by omega) mg_25 rfl rfl (no_in s2) rfl dX4_times_27 ?_
    have g5 : a1.toNatClampNeg < 4 := (no_lt s2)
    rw [show (va_up ad N z4) (28 + a1.toNatClampNeg) = ad (28 + a1.toNatClampNeg) from (up_lt (by omega))]
    refine k_r (k := 2) (n := 6) hA B (u_S (rest := []) X (c_X4_sum l g (N + 1) (va_up ad N z4) (mg g (va_up ad N z4) (va_up y N (c_row g (v_X4_nothing))) cr dr 0 kn rf pl pz mc) N z4 (v_X4_nothing) (Nat.lt_succ_self _) up_eq ((mg_hi (by omega)).trans up_eq) a2.toInt64 (28 + a1.toNatClampNeg) (ad (28 + a1.toNatClampNeg)) (cr a1.toNatClampNeg) (Nat.lt_succ_of_lt (pl_cr hN g5)) ((up_lt (pl_cr hN g5)).trans rfl) (mg_cr g5) H.size) mw_X4_sum md_X4_sum rfl lk_X4_57 ⟨Nat.le_of_ble_eq_true rfl, Nat.le_of_ble_eq_true rfl⟩ hA hK hT B hl.1 rfl (Nat.le_of_ble_eq_true rfl) dX4_times_28 ⟨Nat.le_of_ble_eq_true rfl, Nat.le_of_ble_eq_true rfl⟩) (Nat.le_of_ble_eq_true rfl) (Nat.le_of_ble_eq_true rfl) (fun r6 ad6 f' H locs hw B => ?_)
    generalize o7 : (v_X4_sum (v_X4_nothing) a2.toInt64 (cr a1.toNatClampNeg)) = v9 at hw B
    cases v9 with
    | none =>
      obtain ⟨rfl, rfl, rfl⟩ := pw_n hw
      refine k_r (k := 2) (n := 6) hA B (u_S (rest := []) X (c_W_toldN l g (N + 1) (va_up ad N z4) (mg g (va_up ad N z4) (va_up y N (c_row g (v_X4_nothing))) cr dr 0 kn rf pl pz mc) H.size) mw_X4_told md_X4_told rfl lk_X4_145 ⟨Nat.le_of_ble_eq_true rfl, Nat.le_of_ble_eq_true rfl⟩ hA hK hT B hl.1 rfl (Nat.le_of_ble_eq_true rfl) dX4_times_31 ⟨Nat.le_of_ble_eq_true rfl, Nat.le_of_ble_eq_true rfl⟩) (Nat.le_of_ble_eq_true rfl) (Nat.le_of_ble_eq_true rfl) (fun r ad' f' H locs hw B => ?_)
      obtain ⟨rfl, rfl, rfl⟩ := hw
      have B : WB g (aw N ad sz) s.heap N ad (mg g ad y cr dr 0 kn rf pl pz mc) H locs := WM_drop B (by omega) (by omega) (fun _ hk => (up_lt hk)) (fun _ hk => (up_lt hk))
      have ev := (show v_X4_times cr a1 a2 = 0 from by unfold v_X4_times; rw [if_pos s2, om_none o7])
      exact rt_r (r := some (g.2.2 (100 + 10))) rfl X hr (Or.inl ⟨_, rfl⟩) (ad, mg g ad y cr dr 0 kn rf pl pz mc) B (PO_of B) ⟨rfl, ⟨_, rfl⟩, by rw [ev]⟩ (Nat.le_of_ble_eq_true rfl) (Nat.le_of_ble_eq_true rfl) dX4_times_34
    | some t7 =>
      obtain ⟨z7, rfl, rfl, rfl⟩ := pw_s hw
      have B : WB g (aw N ad sz) s.heap (N + 1 + 1) (va_up (va_up ad N z4) (N + 1) z7) (mg g (va_up (va_up ad N z4) (N + 1) z7) (va_up (va_up y N (c_row g (v_X4_nothing))) (N + 1) (c_row g t7)) cr dr 0 kn rf pl pz mc) H locs := WM_push (by omega) B
      refine k_r (k := 8) (n := 172) hA B (u_S (rest := []) X (c_W_told l g (N + 1 + 1) (va_up (va_up ad N z4) (N + 1) z7) (mg g (va_up (va_up ad N z4) (N + 1) z7) (va_up (va_up y N (c_row g (v_X4_nothing))) (N + 1) (c_row g t7)) cr dr 0 kn rf pl pz mc) (N + 1) z7 t7 (Nat.lt_succ_self _) up_eq ((mg_hi (by omega)).trans up_eq) H.size) mw_X4_told md_X4_told rfl lk_X4_145 ⟨Nat.le_of_ble_eq_true rfl, Nat.le_of_ble_eq_true rfl⟩ hA hK hT B hl.1 rfl (Nat.le_of_ble_eq_true rfl) dX4_times_31 ⟨Nat.le_of_ble_eq_true rfl, Nat.le_of_ble_eq_true rfl⟩) (Nat.le_of_ble_eq_true rfl) (Nat.le_of_ble_eq_true rfl) (fun r ad' f' H locs hw B => ?_)
      obtain ⟨a8, a8x, h8, hF8, rfl, rfl, rfl⟩ := hw
      have B : WB g (aw N ad sz) s.heap (N + 1 + 1 + 1 + 1) (va_up (va_up (va_up (va_up ad N z4) (N + 1) z7) (N + 1 + 1) a8) (N + 1 + 1 + 1) a8x) (mg g (va_up (va_up (va_up (va_up ad N z4) (N + 1) z7) (N + 1 + 1) a8) (N + 1 + 1 + 1) a8x) (va_up (va_up (va_up (va_up y N (c_row g (v_X4_nothing))) (N + 1) (c_row g t7)) (N + 1 + 1) (c_st a8x)) (N + 1 + 1 + 1) (c_ba g (tlen t7) h8)) cr dr 0 kn rf pl pz mc) H locs := WM_push2 (by omega) B
      have B : WB g (aw N ad sz) s.heap N ad (mg g ad y cr dr 0 kn rf pl pz mc) H locs := WM_drop B (by omega) (by omega) (fun _ hk => ((((up_lt (Nat.lt_succ_of_lt (Nat.lt_succ_of_lt (Nat.lt_succ_of_lt hk)))).trans (up_lt (Nat.lt_succ_of_lt (Nat.lt_succ_of_lt hk)))).trans (up_lt (Nat.lt_succ_of_lt hk))).trans (up_lt hk))) (fun _ hk => ((((up_lt (Nat.lt_succ_of_lt (Nat.lt_succ_of_lt (Nat.lt_succ_of_lt hk)))).trans (up_lt (Nat.lt_succ_of_lt (Nat.lt_succ_of_lt hk)))).trans (up_lt (Nat.lt_succ_of_lt hk))).trans (up_lt hk)))
      have ev := (show v_X4_times cr a1 a2 = 0 from by unfold v_X4_times; rw [if_pos s2, om_some o7])
      exact rt_r (r := some (a8)) rfl X hr (Or.inl ⟨_, rfl⟩) (ad, mg g ad y cr dr 0 kn rf pl pz mc) B (PO_of B) ⟨rfl, ⟨_, rfl⟩, by rw [ev]⟩ (Nat.le_of_ble_eq_true rfl) (Nat.le_of_ble_eq_true rfl) dX4_times_34
  · have s2x : (v_X4_isNone a1) = 1 := (b01_X4_isNone).resolve_left s2
    rw [s2x]
    refine k_i (k := 0) (n := 0) hA B (b_V (q := 24) (rest := []) hb0 X (c_X4_stops l g N ad y cr dr th kn rf pl pz mc (by omega) b0 hb0 1 0 H.size) mw_X4_stops md_X4_stops rfl lk_X4_99 ⟨Nat.le_of_ble_eq_true rfl, Nat.le_of_ble_eq_true rfl⟩ hA hK hT B (by omega) mg_24 rfl rfl hl.1 rfl (Nat.le_of_ble_eq_true rfl) dX4_times_6 ⟨Nat.le_of_ble_eq_true rfl, Nat.le_of_ble_eq_true rfl⟩) (Nat.le_of_ble_eq_true rfl) (Nat.le_of_ble_eq_true rfl) (fun r ad' f' H locs hw B => ?_)
    rw [st_10] at hw
    dsimp only at hw
    obtain ⟨rfl, rfl, rfl⟩ := hw
    have B : WB g (aw N ad sz) s.heap N ad (mg g ad y cr dr 1 kn rf pl pz mc) H locs := B
    refine lv_if_eq (tgt := 17) hx hb dX4_times_9 (by decide) (fun z => absurd z (by decide)) (fun _ => ?_)
    refine b_ldc (i := 10) (by decide) rfl rfl X hT dX4_times_12 ?_
    refine lv_goto (tgt := 34) hx hb dX4_times_14 (by decide) ?_
    have ev := (show v_X4_times cr a1 a2 = 1 from by unfold v_X4_times; rw [if_neg s2])
    exact rt_r (r := some (g.2.2 (100 + 10))) rfl X hr (Or.inl ⟨_, rfl⟩) (ad, mg g ad y cr dr 1 kn rf pl pz mc) B (PO_of B) ⟨rfl, ⟨_, rfl⟩, by rw [ev]⟩ (Nat.le_of_ble_eq_true rfl) (Nat.le_of_ble_eq_true rfl) dX4_times_34
def v_X4_added (cr : Nat → TR) (a1 : Int32) (a2 : Int32) : Int32 := if (v_X4_isIn a2.toInt64 0 9) = 0 then (if v_X4_isNone a1 = 0 then 2 else 1) else (if v_X4_isNone a1 = 0 then (om (v_X4_addedUp (cr a1.toNatClampNeg) a2) 0 (fun t7 => 0)) else 1)
set_option maxHeartbeats 4000000 in
set_option maxRecDepth 100000 in
theorem c_X4_added (l : Launch) (g : GG) (N : Nat) (ad : Nat → Nat) (y : Nat → va_E) (cr dr : Nat → TR) (th kn rf : Int32) (pl : Nat → TR) (pz : Nat) (mc : Int32) (hN : 36 + pz ≤ N) (b0 : Nat) (hb0 : ad 24 = b0) (a1 : Int32) (a2 : Int32) : KR l yX4_added cX4_added 3 (.object "java/lang/String") (rm 7 17 199) g [.ref b0, .int a1, .int a2] N ad (mg g ad y cr dr th kn rf pl pz mc) N (fun r ad' f' => ad = ad' ∧ (∃ a : Nat, some a = r) ∧ mg g ad y cr dr (v_X4_added cr a1 a2) kn rf pl pz mc = f') := by
  intro sz
  refine mt_start (by decide) (Nat.le_of_ble_eq_true rfl) ?_
  intro p e s m args below meth c hsz X hr hnam hA hK hT H locs B ls hl
  obtain ⟨hx, hb, hml, hown, hts, hlocks⟩ := id X
  have hl : lv_has ls 3 [(0, .ref b0), (1, .int a1), (2, .int a2)] := hl
  refine lv_aload_n hx hb dX4_added_0 rfl (lv_at hl 0 rfl) ?_
  refine lv_iload_n hx hb dX4_added_1 rfl (lv_at hl 1 rfl) ?_
  refine k_i (k := 0) (n := 0) hA B (u_S (rest := [.ref b0]) X (c_X4_isNone l g N ad (mg g ad y cr dr th kn rf pl pz mc) a1 H.size) mw_X4_isNone md_X4_isNone rfl lk_X4_95 ⟨Nat.le_of_ble_eq_true rfl, Nat.le_of_ble_eq_true rfl⟩ hA hK hT B hl.1 rfl (Nat.le_of_ble_eq_true rfl) dX4_added_2 ⟨Nat.le_of_ble_eq_true rfl, Nat.le_of_ble_eq_true rfl⟩) (Nat.le_of_ble_eq_true rfl) (Nat.le_of_ble_eq_true rfl) (fun r1 ad1 f' H locs hw B => ?_)
  obtain ⟨rfl, rfl, rfl⟩ := hw
  refine lv_iload_n hx hb dX4_added_5 rfl (lv_at hl 2 rfl) ?_
  refine lv_i2l (v := a2.toInt64) hx hb dX4_added_6 rfl ?_
  refine lv_lconst (v := 0) hx hb dX4_added_7 (by decide) ?_
  refine lv_ldc2 hx hb hown (hts _ (List.mem_cons_of_mem _ lk_X4_165)) dX4_added_8 ?_
  refine k_i (k := 0) (n := 0) hA B (u_S (rest := [.int (v_X4_isNone a1), .ref b0]) X (c_X4_isIn l g N ad (mg g ad y cr dr th kn rf pl pz mc) a2.toInt64 0 9 H.size) mw_X4_isIn md_X4_isIn rfl lk_X4_37 ⟨Nat.le_of_ble_eq_true rfl, Nat.le_of_ble_eq_true rfl⟩ hA hK hT B hl.1 rfl (Nat.le_of_ble_eq_true rfl) dX4_added_11 ⟨Nat.le_of_ble_eq_true rfl, Nat.le_of_ble_eq_true rfl⟩) (Nat.le_of_ble_eq_true rfl) (Nat.le_of_ble_eq_true rfl) (fun r2 ad2 f' H locs hw B => ?_)
  obtain ⟨rfl, rfl, rfl⟩ := hw
  refine lv_if_ne (tgt := 21) hx hb dX4_added_14 (by decide) (fun c3 => ?_) (fun c3 => ?_)
  · refine lv_iconst (v := 0) hx hb dX4_added_21 (by decide) ?_
    by_cases s4 : v_X4_isNone a1 = 0
    · rw [s4]
      refine k_i (k := 0) (n := 0) hA B (b_V (q := 24) (rest := []) hb0 X (c_X4_stops l g N ad y cr dr th kn rf pl pz mc (by omega) b0 hb0 0 0 H.size) mw_X4_stops md_X4_stops rfl lk_X4_99 ⟨Nat.le_of_ble_eq_true rfl, Nat.le_of_ble_eq_true rfl⟩ hA hK hT B (by omega) mg_24 rfl rfl hl.1 rfl (Nat.le_of_ble_eq_true rfl) dX4_added_22 ⟨Nat.le_of_ble_eq_true rfl, Nat.le_of_ble_eq_true rfl⟩) (Nat.le_of_ble_eq_true rfl) (Nat.le_of_ble_eq_true rfl) (fun r ad' f' H locs hw B => ?_)
      rw [st_00] at hw
      dsimp only at hw
      obtain ⟨rfl, rfl, rfl⟩ := hw
      have B : WB g (aw N ad sz) s.heap N ad (mg g ad y cr dr 0 kn rf pl pz mc) H locs := B
      refine lv_if_eq (tgt := 33) hx hb dX4_added_25 (by decide) (fun _ => ?_) (fun z => absurd z (by decide))
      refine lv_aload_n hx hb dX4_added_33 rfl (lv_at hl 0 rfl) ?_
      refine b_get (q := 24) (k := 1) hb0 X hK B rfl in_X4 (by omega) mg_24 (by decide) lk_X4_11 rfl rfl dX4_added_34 ?_
      refine lv_iload_n hx hb dX4_added_37 rfl (lv_at hl 1 rfl) ?_
      refine b_aald (q := 25) (t0 := 2) (v := ad (28 + a1.toNatClampNeg)) rfl X hK B (by omega) mg_25 rfl rfl (no_in s4) rfl dX4_added_38 ?_
      have g5 : a1.toNatClampNeg < 4 := (no_lt s4)
      refine lv_iload_n hx hb dX4_added_39 rfl (lv_at hl 2 rfl) ?_
      refine k_r (k := 11) (n := 33) hA B (u_S (rest := []) X (c_X4_addedUp l g N ad (mg g ad y cr dr 0 kn rf pl pz mc) (28 + a1.toNatClampNeg) (ad (28 + a1.toNatClampNeg)) (cr a1.toNatClampNeg) (pl_cr hN g5) rfl (mg_cr g5) a2 (isin_9 c3) H.size) mw_X4_addedUp md_X4_addedUp rfl lk_X4_167 ⟨Nat.le_of_ble_eq_true rfl, Nat.le_of_ble_eq_true rfl⟩ hA hK hT B hl.1 rfl (Nat.le_of_ble_eq_true rfl) dX4_added_40 ⟨Nat.le_of_ble_eq_true rfl, Nat.le_of_ble_eq_true rfl⟩) (Nat.le_of_ble_eq_true rfl) (Nat.le_of_ble_eq_true rfl) (fun r6 ad6 f' H locs hw B => ?_)
      generalize o7 : (v_X4_addedUp (cr a1.toNatClampNeg) a2) = v9 at hw B
      cases v9 with
      | none =>
        obtain ⟨rfl, rfl, rfl⟩ := pw_n hw
        refine k_r (k := 11) (n := 33) hA B (u_S (rest := []) X (c_W_toldN l g N ad (mg g ad y cr dr 0 kn rf pl pz mc) H.size) mw_X4_told md_X4_told rfl lk_X4_145 ⟨Nat.le_of_ble_eq_true rfl, Nat.le_of_ble_eq_true rfl⟩ hA hK hT B hl.1 rfl (Nat.le_of_ble_eq_true rfl) dX4_added_43 ⟨Nat.le_of_ble_eq_true rfl, Nat.le_of_ble_eq_true rfl⟩) (Nat.le_of_ble_eq_true rfl) (Nat.le_of_ble_eq_true rfl) (fun r ad' f' H locs hw B => ?_)
        obtain ⟨rfl, rfl, rfl⟩ := hw
        have ev := (show v_X4_added cr a1 a2 = 0 from by unfold v_X4_added; rw [if_neg c3, if_pos s4, om_none o7])
        exact rt_r (r := some (g.2.2 (100 + 10))) rfl X hr (Or.inl ⟨_, rfl⟩) (ad, mg g ad y cr dr 0 kn rf pl pz mc) B (PO_of B) ⟨rfl, ⟨_, rfl⟩, by rw [ev]⟩ (Nat.le_of_ble_eq_true rfl) (Nat.le_of_ble_eq_true rfl) dX4_added_46
      | some t7 =>
        obtain ⟨z7, rfl, rfl, rfl⟩ := pw_s hw
        have B : WB g (aw N ad sz) s.heap (N + 1) (va_up ad N z7) (mg g (va_up ad N z7) (va_up y N (c_row g t7)) cr dr 0 kn rf pl pz mc) H locs := WM_push (by omega) B
        refine k_r (k := 17) (n := 199) hA B (u_S (rest := []) X (c_W_told l g (N + 1) (va_up ad N z7) (mg g (va_up ad N z7) (va_up y N (c_row g t7)) cr dr 0 kn rf pl pz mc) N z7 t7 (Nat.lt_succ_self _) up_eq ((mg_hi (by omega)).trans up_eq) H.size) mw_X4_told md_X4_told rfl lk_X4_145 ⟨Nat.le_of_ble_eq_true rfl, Nat.le_of_ble_eq_true rfl⟩ hA hK hT B hl.1 rfl (Nat.le_of_ble_eq_true rfl) dX4_added_43 ⟨Nat.le_of_ble_eq_true rfl, Nat.le_of_ble_eq_true rfl⟩) (Nat.le_of_ble_eq_true rfl) (Nat.le_of_ble_eq_true rfl) (fun r ad' f' H locs hw B => ?_)
        obtain ⟨a8, a8x, h8, hF8, rfl, rfl, rfl⟩ := hw
        have B : WB g (aw N ad sz) s.heap (N + 1 + 1 + 1) (va_up (va_up (va_up ad N z7) (N + 1) a8) (N + 1 + 1) a8x) (mg g (va_up (va_up (va_up ad N z7) (N + 1) a8) (N + 1 + 1) a8x) (va_up (va_up (va_up y N (c_row g t7)) (N + 1) (c_st a8x)) (N + 1 + 1) (c_ba g (tlen t7) h8)) cr dr 0 kn rf pl pz mc) H locs := WM_push2 (by omega) B
        have B : WB g (aw N ad sz) s.heap N ad (mg g ad y cr dr 0 kn rf pl pz mc) H locs := WM_drop B (by omega) (by omega) (fun _ hk => (((up_lt (Nat.lt_succ_of_lt (Nat.lt_succ_of_lt hk))).trans (up_lt (Nat.lt_succ_of_lt hk))).trans (up_lt hk))) (fun _ hk => (((up_lt (Nat.lt_succ_of_lt (Nat.lt_succ_of_lt hk))).trans (up_lt (Nat.lt_succ_of_lt hk))).trans (up_lt hk)))
        have ev := (show v_X4_added cr a1 a2 = 0 from by unfold v_X4_added; rw [if_neg c3, if_pos s4, om_some o7])
        exact rt_r (r := some (a8)) rfl X hr (Or.inl ⟨_, rfl⟩) (ad, mg g ad y cr dr 0 kn rf pl pz mc) B (PO_of B) ⟨rfl, ⟨_, rfl⟩, by rw [ev]⟩ (Nat.le_of_ble_eq_true rfl) (Nat.le_of_ble_eq_true rfl) dX4_added_46
    · have s4x : (v_X4_isNone a1) = 1 := (b01_X4_isNone).resolve_left s4
      rw [s4x]
      refine k_i (k := 0) (n := 0) hA B (b_V (q := 24) (rest := []) hb0 X (c_X4_stops l g N ad y cr dr th kn rf pl pz mc (by omega) b0 hb0 1 0 H.size) mw_X4_stops md_X4_stops rfl lk_X4_99 ⟨Nat.le_of_ble_eq_true rfl, Nat.le_of_ble_eq_true rfl⟩ hA hK hT B (by omega) mg_24 rfl rfl hl.1 rfl (Nat.le_of_ble_eq_true rfl) dX4_added_22 ⟨Nat.le_of_ble_eq_true rfl, Nat.le_of_ble_eq_true rfl⟩) (Nat.le_of_ble_eq_true rfl) (Nat.le_of_ble_eq_true rfl) (fun r ad' f' H locs hw B => ?_)
      rw [st_10] at hw
      dsimp only at hw
      obtain ⟨rfl, rfl, rfl⟩ := hw
      have B : WB g (aw N ad sz) s.heap N ad (mg g ad y cr dr 1 kn rf pl pz mc) H locs := B
      refine lv_if_eq (tgt := 33) hx hb dX4_added_25 (by decide) (fun z => absurd z (by decide)) (fun _ => ?_)
      refine b_ldc (i := 10) (by decide) rfl rfl X hT dX4_added_28 ?_
      refine lv_goto (tgt := 46) hx hb dX4_added_30 (by decide) ?_
      have ev := (show v_X4_added cr a1 a2 = 1 from by unfold v_X4_added; rw [if_neg c3, if_neg s4])
      exact rt_r (r := some (g.2.2 (100 + 10))) rfl X hr (Or.inl ⟨_, rfl⟩) (ad, mg g ad y cr dr 1 kn rf pl pz mc) B (PO_of B) ⟨rfl, ⟨_, rfl⟩, by rw [ev]⟩ (Nat.le_of_ble_eq_true rfl) (Nat.le_of_ble_eq_true rfl) dX4_added_46
  · refine lv_iconst (v := 1) hx hb dX4_added_17 (by decide) ?_
    refine lv_goto (tgt := 22) hx hb dX4_added_18 (by decide) ?_
    by_cases s9 : v_X4_isNone a1 = 0
    · rw [s9]
      refine k_i (k := 0) (n := 0) hA B (b_V (q := 24) (rest := []) hb0 X (c_X4_stops l g N ad y cr dr th kn rf pl pz mc (by omega) b0 hb0 0 1 H.size) mw_X4_stops md_X4_stops rfl lk_X4_99 ⟨Nat.le_of_ble_eq_true rfl, Nat.le_of_ble_eq_true rfl⟩ hA hK hT B (by omega) mg_24 rfl rfl hl.1 rfl (Nat.le_of_ble_eq_true rfl) dX4_added_22 ⟨Nat.le_of_ble_eq_true rfl, Nat.le_of_ble_eq_true rfl⟩) (Nat.le_of_ble_eq_true rfl) (Nat.le_of_ble_eq_true rfl) (fun r ad' f' H locs hw B => ?_)
      rw [st_01] at hw
      dsimp only at hw
      obtain ⟨rfl, rfl, rfl⟩ := hw
      have B : WB g (aw N ad sz) s.heap N ad (mg g ad y cr dr 2 kn rf pl pz mc) H locs := B
      refine lv_if_eq (tgt := 33) hx hb dX4_added_25 (by decide) (fun z => absurd z (by decide)) (fun _ => ?_)
      refine b_ldc (i := 10) (by decide) rfl rfl X hT dX4_added_28 ?_
      refine lv_goto (tgt := 46) hx hb dX4_added_30 (by decide) ?_
      have ev := (show v_X4_added cr a1 a2 = 2 from by unfold v_X4_added; rw [if_pos c3, if_pos s9])
      exact rt_r (r := some (g.2.2 (100 + 10))) rfl X hr (Or.inl ⟨_, rfl⟩) (ad, mg g ad y cr dr 2 kn rf pl pz mc) B (PO_of B) ⟨rfl, ⟨_, rfl⟩, by rw [ev]⟩ (Nat.le_of_ble_eq_true rfl) (Nat.le_of_ble_eq_true rfl) dX4_added_46
    · have s9x : (v_X4_isNone a1) = 1 := (b01_X4_isNone).resolve_left s9
      rw [s9x]
      refine k_i (k := 0) (n := 0) hA B (b_V (q := 24) (rest := []) hb0 X (c_X4_stops l g N ad y cr dr th kn rf pl pz mc (by omega) b0 hb0 1 1 H.size) mw_X4_stops md_X4_stops rfl lk_X4_99 ⟨Nat.le_of_ble_eq_true rfl, Nat.le_of_ble_eq_true rfl⟩ hA hK hT B (by omega) mg_24 rfl rfl hl.1 rfl (Nat.le_of_ble_eq_true rfl) dX4_added_22 ⟨Nat.le_of_ble_eq_true rfl, Nat.le_of_ble_eq_true rfl⟩) (Nat.le_of_ble_eq_true rfl) (Nat.le_of_ble_eq_true rfl) (fun r ad' f' H locs hw B => ?_)
      rw [st_11] at hw
      dsimp only at hw
      obtain ⟨rfl, rfl, rfl⟩ := hw
      have B : WB g (aw N ad sz) s.heap N ad (mg g ad y cr dr 1 kn rf pl pz mc) H locs := B
      refine lv_if_eq (tgt := 33) hx hb dX4_added_25 (by decide) (fun z => absurd z (by decide)) (fun _ => ?_)
      refine b_ldc (i := 10) (by decide) rfl rfl X hT dX4_added_28 ?_
      refine lv_goto (tgt := 46) hx hb dX4_added_30 (by decide) ?_
      have ev := (show v_X4_added cr a1 a2 = 1 from by unfold v_X4_added; rw [if_pos c3, if_neg s9])
      exact rt_r (r := some (g.2.2 (100 + 10))) rfl X hr (Or.inl ⟨_, rfl⟩) (ad, mg g ad y cr dr 1 kn rf pl pz mc) B (PO_of B) ⟨rfl, ⟨_, rfl⟩, by rw [ev]⟩ (Nat.le_of_ble_eq_true rfl) (Nat.le_of_ble_eq_true rfl) dX4_added_46
def v_X4_with (cr : Nat → TR) (a1 : Int32) (a2 : Int32) (a3 : Int32) : Int32 := if (v_X4_isNone a1) = 0 then (if (v_X4_isNone a2) = 0 then (if a3 = 0 then (om (v_X4_sum (cr a1.toNatClampNeg) 1 (cr a2.toNatClampNeg)) 0 (fun t9 => 0)) else (om (v_X4_sum (cr a1.toNatClampNeg) (-1) (cr a2.toNatClampNeg)) 0 (fun t13 => 0))) else 1) else 1
set_option maxHeartbeats 4000000 in
set_option maxRecDepth 100000 in
theorem c_X4_with (l : Launch) (g : GG) (N : Nat) (ad : Nat → Nat) (y : Nat → va_E) (cr dr : Nat → TR) (th kn rf : Int32) (pl : Nat → TR) (pz : Nat) (mc : Int32) (hN : 36 + pz ≤ N) (b0 : Nat) (hb0 : ad 24 = b0) (a1 : Int32) (a2 : Int32) (a3 : Int32) : KR l yX4_with cX4_with 4 (.object "java/lang/String") (rm 7 7 169) g [.ref b0, .int a1, .int a2, .int a3] N ad (mg g ad y cr dr th kn rf pl pz mc) N (fun r ad' f' => ad = ad' ∧ (∃ a : Nat, some a = r) ∧ mg g ad y cr dr (v_X4_with cr a1 a2 a3) kn rf pl pz mc = f') := by
  intro sz
  refine mt_start (by decide) (Nat.le_of_ble_eq_true rfl) ?_
  intro p e s m args below meth c hsz X hr hnam hA hK hT H locs B ls hl
  obtain ⟨hx, hb, hml, hown, hts, hlocks⟩ := id X
  have hl : lv_has ls 4 [(0, .ref b0), (1, .int a1), (2, .int a2), (3, .int a3)] := hl
  refine lv_aload_n hx hb dX4_with_0 rfl (lv_at hl 0 rfl) ?_
  refine lv_iload_n hx hb dX4_with_1 rfl (lv_at hl 1 rfl) ?_
  refine k_i (k := 0) (n := 0) hA B (u_S (rest := [.ref b0]) X (c_X4_isNone l g N ad (mg g ad y cr dr th kn rf pl pz mc) a1 H.size) mw_X4_isNone md_X4_isNone rfl lk_X4_95 ⟨Nat.le_of_ble_eq_true rfl, Nat.le_of_ble_eq_true rfl⟩ hA hK hT B hl.1 rfl (Nat.le_of_ble_eq_true rfl) dX4_with_2 ⟨Nat.le_of_ble_eq_true rfl, Nat.le_of_ble_eq_true rfl⟩) (Nat.le_of_ble_eq_true rfl) (Nat.le_of_ble_eq_true rfl) (fun r1 ad1 f' H locs hw B => ?_)
  obtain ⟨rfl, rfl, rfl⟩ := hw
  refine lv_if_ne (tgt := 15) hx hb dX4_with_5 (by decide) (fun c2 => ?_) (fun c2 => ?_)
  · refine lv_iconst (v := 1) hx hb dX4_with_15 (by decide) ?_
    refine lv_goto (tgt := 20) hx hb dX4_with_16 (by decide) ?_
    refine lv_iconst (v := 0) hx hb dX4_with_20 (by decide) ?_
    refine k_i (k := 0) (n := 0) hA B (b_V (q := 24) (rest := []) hb0 X (c_X4_stops l g N ad y cr dr th kn rf pl pz mc (by omega) b0 hb0 1 0 H.size) mw_X4_stops md_X4_stops rfl lk_X4_99 ⟨Nat.le_of_ble_eq_true rfl, Nat.le_of_ble_eq_true rfl⟩ hA hK hT B (by omega) mg_24 rfl rfl hl.1 rfl (Nat.le_of_ble_eq_true rfl) dX4_with_21 ⟨Nat.le_of_ble_eq_true rfl, Nat.le_of_ble_eq_true rfl⟩) (Nat.le_of_ble_eq_true rfl) (Nat.le_of_ble_eq_true rfl) (fun r ad' f' H locs hw B => ?_)
    rw [st_10] at hw
    dsimp only at hw
    obtain ⟨rfl, rfl, rfl⟩ := hw
    have B : WB g (aw N ad sz) s.heap N ad (mg g ad y cr dr 1 kn rf pl pz mc) H locs := B
    refine lv_if_eq (tgt := 32) hx hb dX4_with_24 (by decide) (fun z => absurd z (by decide)) (fun _ => ?_)
    refine b_ldc (i := 10) (by decide) rfl rfl X hT dX4_with_27 ?_
    refine lv_goto (tgt := 61) hx hb dX4_with_29 (by decide) ?_
    have ev := (show v_X4_with cr a1 a2 a3 = 1 from by unfold v_X4_with; rw [if_neg c2])
    exact rt_r (r := some (g.2.2 (100 + 10))) rfl X hr (Or.inl ⟨_, rfl⟩) (ad, mg g ad y cr dr 1 kn rf pl pz mc) B (PO_of B) ⟨rfl, ⟨_, rfl⟩, by rw [ev]⟩ (Nat.le_of_ble_eq_true rfl) (Nat.le_of_ble_eq_true rfl) dX4_with_61
  · refine lv_iload_n hx hb dX4_with_8 rfl (lv_at hl 2 rfl) ?_
    refine k_i (k := 0) (n := 0) hA B (u_S (rest := [.ref b0]) X (c_X4_isNone l g N ad (mg g ad y cr dr th kn rf pl pz mc) a2 H.size) mw_X4_isNone md_X4_isNone rfl lk_X4_95 ⟨Nat.le_of_ble_eq_true rfl, Nat.le_of_ble_eq_true rfl⟩ hA hK hT B hl.1 rfl (Nat.le_of_ble_eq_true rfl) dX4_with_9 ⟨Nat.le_of_ble_eq_true rfl, Nat.le_of_ble_eq_true rfl⟩) (Nat.le_of_ble_eq_true rfl) (Nat.le_of_ble_eq_true rfl) (fun r3 ad3 f' H locs hw B => ?_)
    obtain ⟨rfl, rfl, rfl⟩ := hw
    refine lv_if_eq (tgt := 19) hx hb dX4_with_12 (by decide) (fun c4 => ?_) (fun c4 => ?_)
    · refine lv_iconst (v := 0) hx hb dX4_with_19 (by decide) ?_
      refine lv_iconst (v := 0) hx hb dX4_with_20 (by decide) ?_
      refine k_i (k := 0) (n := 0) hA B (b_V (q := 24) (rest := []) hb0 X (c_X4_stops l g N ad y cr dr th kn rf pl pz mc (by omega) b0 hb0 0 0 H.size) mw_X4_stops md_X4_stops rfl lk_X4_99 ⟨Nat.le_of_ble_eq_true rfl, Nat.le_of_ble_eq_true rfl⟩ hA hK hT B (by omega) mg_24 rfl rfl hl.1 rfl (Nat.le_of_ble_eq_true rfl) dX4_with_21 ⟨Nat.le_of_ble_eq_true rfl, Nat.le_of_ble_eq_true rfl⟩) (Nat.le_of_ble_eq_true rfl) (Nat.le_of_ble_eq_true rfl) (fun r ad' f' H locs hw B => ?_)
      rw [st_00] at hw
      dsimp only at hw
      obtain ⟨rfl, rfl, rfl⟩ := hw
      have B : WB g (aw N ad sz) s.heap N ad (mg g ad y cr dr 0 kn rf pl pz mc) H locs := B
      refine lv_if_eq (tgt := 32) hx hb dX4_with_24 (by decide) (fun _ => ?_) (fun z => absurd z (by decide))
      refine lv_aload_n hx hb dX4_with_32 rfl (lv_at hl 0 rfl) ?_
      refine b_get (q := 24) (k := 1) hb0 X hK B rfl in_X4 (by omega) mg_24 (by decide) lk_X4_11 rfl rfl dX4_with_33 ?_
      refine lv_iload_n hx hb dX4_with_36 rfl (lv_at hl 1 rfl) ?_
      refine b_aald (q := 25) (t0 := 2) (v := ad (28 + a1.toNatClampNeg)) rfl X hK B (by omega) mg_25 rfl rfl (no_in c2) rfl dX4_with_37 ?_
      have g5 : a1.toNatClampNeg < 4 := (no_lt c2)
      refine lv_iload_n hx hb dX4_with_38 rfl (lv_at hl 3 rfl) ?_
      refine lv_if_eq (tgt := 48) hx hb dX4_with_39 (by decide) (fun c6 => ?_) (fun c6 => ?_)
      · refine lv_lconst (v := 1) hx hb dX4_with_48 (by decide) ?_
        refine lv_aload_n hx hb dX4_with_49 rfl (lv_at hl 0 rfl) ?_
        refine b_get (q := 24) (k := 1) hb0 X hK B rfl in_X4 (by omega) mg_24 (by decide) lk_X4_11 rfl rfl dX4_with_50 ?_
        refine lv_iload_n hx hb dX4_with_53 rfl (lv_at hl 2 rfl) ?_
        refine b_aald (q := 25) (t0 := 2) (v := ad (28 + a2.toNatClampNeg)) rfl X hK B (by omega) mg_25 rfl rfl (no_in c4) rfl dX4_with_54 ?_
        have g7 : a2.toNatClampNeg < 4 := (no_lt c4)
        refine k_r (k := 1) (n := 3) hA B (u_S (rest := []) X (c_X4_sum l g N ad (mg g ad y cr dr 0 kn rf pl pz mc) (28 + a1.toNatClampNeg) (ad (28 + a1.toNatClampNeg)) (cr a1.toNatClampNeg) (pl_cr hN g5) rfl (mg_cr g5) 1 (28 + a2.toNatClampNeg) (ad (28 + a2.toNatClampNeg)) (cr a2.toNatClampNeg) (pl_cr hN g7) rfl (mg_cr g7) H.size) mw_X4_sum md_X4_sum rfl lk_X4_57 ⟨Nat.le_of_ble_eq_true rfl, Nat.le_of_ble_eq_true rfl⟩ hA hK hT B hl.1 rfl (Nat.le_of_ble_eq_true rfl) dX4_with_55 ⟨Nat.le_of_ble_eq_true rfl, Nat.le_of_ble_eq_true rfl⟩) (Nat.le_of_ble_eq_true rfl) (Nat.le_of_ble_eq_true rfl) (fun r8 ad8 f' H locs hw B => ?_)
        generalize o9 : (v_X4_sum (cr a1.toNatClampNeg) 1 (cr a2.toNatClampNeg)) = v9 at hw B
        cases v9 with
        | none =>
          obtain ⟨rfl, rfl, rfl⟩ := pw_n hw
          refine k_r (k := 1) (n := 3) hA B (u_S (rest := []) X (c_W_toldN l g N ad (mg g ad y cr dr 0 kn rf pl pz mc) H.size) mw_X4_told md_X4_told rfl lk_X4_145 ⟨Nat.le_of_ble_eq_true rfl, Nat.le_of_ble_eq_true rfl⟩ hA hK hT B hl.1 rfl (Nat.le_of_ble_eq_true rfl) dX4_with_58 ⟨Nat.le_of_ble_eq_true rfl, Nat.le_of_ble_eq_true rfl⟩) (Nat.le_of_ble_eq_true rfl) (Nat.le_of_ble_eq_true rfl) (fun r ad' f' H locs hw B => ?_)
          obtain ⟨rfl, rfl, rfl⟩ := hw
          have ev := (show v_X4_with cr a1 a2 a3 = 0 from by unfold v_X4_with; rw [if_pos c2, if_pos c4, if_pos c6, om_none o9])
          exact rt_r (r := some (g.2.2 (100 + 10))) rfl X hr (Or.inl ⟨_, rfl⟩) (ad, mg g ad y cr dr 0 kn rf pl pz mc) B (PO_of B) ⟨rfl, ⟨_, rfl⟩, by rw [ev]⟩ (Nat.le_of_ble_eq_true rfl) (Nat.le_of_ble_eq_true rfl) dX4_with_61
        | some t9 =>
          obtain ⟨z9, rfl, rfl, rfl⟩ := pw_s hw
          have B : WB g (aw N ad sz) s.heap (N + 1) (va_up ad N z9) (mg g (va_up ad N z9) (va_up y N (c_row g t9)) cr dr 0 kn rf pl pz mc) H locs := WM_push (by omega) B
          refine k_r (k := 7) (n := 169) hA B (u_S (rest := []) X (c_W_told l g (N + 1) (va_up ad N z9) (mg g (va_up ad N z9) (va_up y N (c_row g t9)) cr dr 0 kn rf pl pz mc) N z9 t9 (Nat.lt_succ_self _) up_eq ((mg_hi (by omega)).trans up_eq) H.size) mw_X4_told md_X4_told rfl lk_X4_145 ⟨Nat.le_of_ble_eq_true rfl, Nat.le_of_ble_eq_true rfl⟩ hA hK hT B hl.1 rfl (Nat.le_of_ble_eq_true rfl) dX4_with_58 ⟨Nat.le_of_ble_eq_true rfl, Nat.le_of_ble_eq_true rfl⟩) (Nat.le_of_ble_eq_true rfl) (Nat.le_of_ble_eq_true rfl) (fun r ad' f' H locs hw B => ?_)
          obtain ⟨a10, a10x, h10, hF10, rfl, rfl, rfl⟩ := hw
          have B : WB g (aw N ad sz) s.heap (N + 1 + 1 + 1) (va_up (va_up (va_up ad N z9) (N + 1) a10) (N + 1 + 1) a10x) (mg g (va_up (va_up (va_up ad N z9) (N + 1) a10) (N + 1 + 1) a10x) (va_up (va_up (va_up y N (c_row g t9)) (N + 1) (c_st a10x)) (N + 1 + 1) (c_ba g (tlen t9) h10)) cr dr 0 kn rf pl pz mc) H locs := WM_push2 (by omega) B
          have B : WB g (aw N ad sz) s.heap N ad (mg g ad y cr dr 0 kn rf pl pz mc) H locs := WM_drop B (by omega) (by omega) (fun _ hk => (((up_lt (Nat.lt_succ_of_lt (Nat.lt_succ_of_lt hk))).trans (up_lt (Nat.lt_succ_of_lt hk))).trans (up_lt hk))) (fun _ hk => (((up_lt (Nat.lt_succ_of_lt (Nat.lt_succ_of_lt hk))).trans (up_lt (Nat.lt_succ_of_lt hk))).trans (up_lt hk)))
          have ev := (show v_X4_with cr a1 a2 a3 = 0 from by unfold v_X4_with; rw [if_pos c2, if_pos c4, if_pos c6, om_some o9])
          exact rt_r (r := some (a10)) rfl X hr (Or.inl ⟨_, rfl⟩) (ad, mg g ad y cr dr 0 kn rf pl pz mc) B (PO_of B) ⟨rfl, ⟨_, rfl⟩, by rw [ev]⟩ (Nat.le_of_ble_eq_true rfl) (Nat.le_of_ble_eq_true rfl) dX4_with_61
      · refine lv_ldc2 hx hb hown (hts _ (List.mem_cons_of_mem _ lk_X4_55)) dX4_with_42 ?_
        refine lv_goto (tgt := 49) hx hb dX4_with_45 (by decide) ?_
        refine lv_aload_n hx hb dX4_with_49 rfl (lv_at hl 0 rfl) ?_
        refine b_get (q := 24) (k := 1) hb0 X hK B rfl in_X4 (by omega) mg_24 (by decide) lk_X4_11 rfl rfl dX4_with_50 ?_
        refine lv_iload_n hx hb dX4_with_53 rfl (lv_at hl 2 rfl) ?_
        refine b_aald (q := 25) (t0 := 2) (v := ad (28 + a2.toNatClampNeg)) rfl X hK B (by omega) mg_25 rfl rfl (no_in c4) rfl dX4_with_54 ?_
        have g11 : a2.toNatClampNeg < 4 := (no_lt c4)
        refine k_r (k := 1) (n := 3) hA B (u_S (rest := []) X (c_X4_sum l g N ad (mg g ad y cr dr 0 kn rf pl pz mc) (28 + a1.toNatClampNeg) (ad (28 + a1.toNatClampNeg)) (cr a1.toNatClampNeg) (pl_cr hN g5) rfl (mg_cr g5) (-1) (28 + a2.toNatClampNeg) (ad (28 + a2.toNatClampNeg)) (cr a2.toNatClampNeg) (pl_cr hN g11) rfl (mg_cr g11) H.size) mw_X4_sum md_X4_sum rfl lk_X4_57 ⟨Nat.le_of_ble_eq_true rfl, Nat.le_of_ble_eq_true rfl⟩ hA hK hT B hl.1 rfl (Nat.le_of_ble_eq_true rfl) dX4_with_55 ⟨Nat.le_of_ble_eq_true rfl, Nat.le_of_ble_eq_true rfl⟩) (Nat.le_of_ble_eq_true rfl) (Nat.le_of_ble_eq_true rfl) (fun r12 ad12 f' H locs hw B => ?_)
        generalize o13 : (v_X4_sum (cr a1.toNatClampNeg) (-1) (cr a2.toNatClampNeg)) = v9 at hw B
        cases v9 with
        | none =>
          obtain ⟨rfl, rfl, rfl⟩ := pw_n hw
          refine k_r (k := 1) (n := 3) hA B (u_S (rest := []) X (c_W_toldN l g N ad (mg g ad y cr dr 0 kn rf pl pz mc) H.size) mw_X4_told md_X4_told rfl lk_X4_145 ⟨Nat.le_of_ble_eq_true rfl, Nat.le_of_ble_eq_true rfl⟩ hA hK hT B hl.1 rfl (Nat.le_of_ble_eq_true rfl) dX4_with_58 ⟨Nat.le_of_ble_eq_true rfl, Nat.le_of_ble_eq_true rfl⟩) (Nat.le_of_ble_eq_true rfl) (Nat.le_of_ble_eq_true rfl) (fun r ad' f' H locs hw B => ?_)
          obtain ⟨rfl, rfl, rfl⟩ := hw
          have ev := (show v_X4_with cr a1 a2 a3 = 0 from by unfold v_X4_with; rw [if_pos c2, if_pos c4, if_neg c6, om_none o13])
          exact rt_r (r := some (g.2.2 (100 + 10))) rfl X hr (Or.inl ⟨_, rfl⟩) (ad, mg g ad y cr dr 0 kn rf pl pz mc) B (PO_of B) ⟨rfl, ⟨_, rfl⟩, by rw [ev]⟩ (Nat.le_of_ble_eq_true rfl) (Nat.le_of_ble_eq_true rfl) dX4_with_61
        | some t13 =>
          obtain ⟨z13, rfl, rfl, rfl⟩ := pw_s hw
          have B : WB g (aw N ad sz) s.heap (N + 1) (va_up ad N z13) (mg g (va_up ad N z13) (va_up y N (c_row g t13)) cr dr 0 kn rf pl pz mc) H locs := WM_push (by omega) B
          refine k_r (k := 7) (n := 169) hA B (u_S (rest := []) X (c_W_told l g (N + 1) (va_up ad N z13) (mg g (va_up ad N z13) (va_up y N (c_row g t13)) cr dr 0 kn rf pl pz mc) N z13 t13 (Nat.lt_succ_self _) up_eq ((mg_hi (by omega)).trans up_eq) H.size) mw_X4_told md_X4_told rfl lk_X4_145 ⟨Nat.le_of_ble_eq_true rfl, Nat.le_of_ble_eq_true rfl⟩ hA hK hT B hl.1 rfl (Nat.le_of_ble_eq_true rfl) dX4_with_58 ⟨Nat.le_of_ble_eq_true rfl, Nat.le_of_ble_eq_true rfl⟩) (Nat.le_of_ble_eq_true rfl) (Nat.le_of_ble_eq_true rfl) (fun r ad' f' H locs hw B => ?_)
          obtain ⟨a14, a14x, h14, hF14, rfl, rfl, rfl⟩ := hw
          have B : WB g (aw N ad sz) s.heap (N + 1 + 1 + 1) (va_up (va_up (va_up ad N z13) (N + 1) a14) (N + 1 + 1) a14x) (mg g (va_up (va_up (va_up ad N z13) (N + 1) a14) (N + 1 + 1) a14x) (va_up (va_up (va_up y N (c_row g t13)) (N + 1) (c_st a14x)) (N + 1 + 1) (c_ba g (tlen t13) h14)) cr dr 0 kn rf pl pz mc) H locs := WM_push2 (by omega) B
          have B : WB g (aw N ad sz) s.heap N ad (mg g ad y cr dr 0 kn rf pl pz mc) H locs := WM_drop B (by omega) (by omega) (fun _ hk => (((up_lt (Nat.lt_succ_of_lt (Nat.lt_succ_of_lt hk))).trans (up_lt (Nat.lt_succ_of_lt hk))).trans (up_lt hk))) (fun _ hk => (((up_lt (Nat.lt_succ_of_lt (Nat.lt_succ_of_lt hk))).trans (up_lt (Nat.lt_succ_of_lt hk))).trans (up_lt hk)))
          have ev := (show v_X4_with cr a1 a2 a3 = 0 from by unfold v_X4_with; rw [if_pos c2, if_pos c4, if_neg c6, om_some o13])
          exact rt_r (r := some (a14)) rfl X hr (Or.inl ⟨_, rfl⟩) (ad, mg g ad y cr dr 0 kn rf pl pz mc) B (PO_of B) ⟨rfl, ⟨_, rfl⟩, by rw [ev]⟩ (Nat.le_of_ble_eq_true rfl) (Nat.le_of_ble_eq_true rfl) dX4_with_61
    · refine lv_iconst (v := 1) hx hb dX4_with_15 (by decide) ?_
      refine lv_goto (tgt := 20) hx hb dX4_with_16 (by decide) ?_
      refine lv_iconst (v := 0) hx hb dX4_with_20 (by decide) ?_
      refine k_i (k := 0) (n := 0) hA B (b_V (q := 24) (rest := []) hb0 X (c_X4_stops l g N ad y cr dr th kn rf pl pz mc (by omega) b0 hb0 1 0 H.size) mw_X4_stops md_X4_stops rfl lk_X4_99 ⟨Nat.le_of_ble_eq_true rfl, Nat.le_of_ble_eq_true rfl⟩ hA hK hT B (by omega) mg_24 rfl rfl hl.1 rfl (Nat.le_of_ble_eq_true rfl) dX4_with_21 ⟨Nat.le_of_ble_eq_true rfl, Nat.le_of_ble_eq_true rfl⟩) (Nat.le_of_ble_eq_true rfl) (Nat.le_of_ble_eq_true rfl) (fun r ad' f' H locs hw B => ?_)
      rw [st_10] at hw
      dsimp only at hw
      obtain ⟨rfl, rfl, rfl⟩ := hw
      have B : WB g (aw N ad sz) s.heap N ad (mg g ad y cr dr 1 kn rf pl pz mc) H locs := B
      refine lv_if_eq (tgt := 32) hx hb dX4_with_24 (by decide) (fun z => absurd z (by decide)) (fun _ => ?_)
      refine b_ldc (i := 10) (by decide) rfl rfl X hT dX4_with_27 ?_
      refine lv_goto (tgt := 61) hx hb dX4_with_29 (by decide) ?_
      have ev := (show v_X4_with cr a1 a2 a3 = 1 from by unfold v_X4_with; rw [if_pos c2, if_neg c4])
      exact rt_r (r := some (g.2.2 (100 + 10))) rfl X hr (Or.inl ⟨_, rfl⟩) (ad, mg g ad y cr dr 1 kn rf pl pz mc) B (PO_of B) ⟨rfl, ⟨_, rfl⟩, by rw [ev]⟩ (Nat.le_of_ble_eq_true rfl) (Nat.le_of_ble_eq_true rfl) dX4_with_61
def v_X4_tidy (cr : Nat → TR) (a1 : Int32) : Int32 := if v_X4_isNone a1 = 0 then (om (v_X4_tidied (cr a1.toNatClampNeg)) 0 (fun t5 => 0)) else 1
set_option maxHeartbeats 4000000 in
set_option maxRecDepth 100000 in
theorem c_X4_tidy (l : Launch) (g : GG) (N : Nat) (ad : Nat → Nat) (y : Nat → va_E) (cr dr : Nat → TR) (th kn rf : Int32) (pl : Nat → TR) (pz : Nat) (mc : Int32) (hN : 36 + pz ≤ N) (b0 : Nat) (hb0 : ad 24 = b0) (a1 : Int32) : KR l yX4_tidy cX4_tidy 2 (.object "java/lang/String") (rm 7 7 169) g [.ref b0, .int a1] N ad (mg g ad y cr dr th kn rf pl pz mc) N (fun r ad' f' => ad = ad' ∧ (∃ a : Nat, some a = r) ∧ mg g ad y cr dr (v_X4_tidy cr a1) kn rf pl pz mc = f') := by
  intro sz
  refine mt_start (by decide) (Nat.le_of_ble_eq_true rfl) ?_
  intro p e s m args below meth c hsz X hr hnam hA hK hT H locs B ls hl
  obtain ⟨hx, hb, hml, hown, hts, hlocks⟩ := id X
  have hl : lv_has ls 2 [(0, .ref b0), (1, .int a1)] := hl
  refine lv_aload_n hx hb dX4_tidy_0 rfl (lv_at hl 0 rfl) ?_
  refine lv_iload_n hx hb dX4_tidy_1 rfl (lv_at hl 1 rfl) ?_
  refine k_i (k := 0) (n := 0) hA B (u_S (rest := [.ref b0]) X (c_X4_isNone l g N ad (mg g ad y cr dr th kn rf pl pz mc) a1 H.size) mw_X4_isNone md_X4_isNone rfl lk_X4_95 ⟨Nat.le_of_ble_eq_true rfl, Nat.le_of_ble_eq_true rfl⟩ hA hK hT B hl.1 rfl (Nat.le_of_ble_eq_true rfl) dX4_tidy_2 ⟨Nat.le_of_ble_eq_true rfl, Nat.le_of_ble_eq_true rfl⟩) (Nat.le_of_ble_eq_true rfl) (Nat.le_of_ble_eq_true rfl) (fun r1 ad1 f' H locs hw B => ?_)
  obtain ⟨rfl, rfl, rfl⟩ := hw
  refine lv_iconst (v := 0) hx hb dX4_tidy_5 (by decide) ?_
  by_cases s2 : v_X4_isNone a1 = 0
  · rw [s2]
    refine k_i (k := 0) (n := 0) hA B (b_V (q := 24) (rest := []) hb0 X (c_X4_stops l g N ad y cr dr th kn rf pl pz mc (by omega) b0 hb0 0 0 H.size) mw_X4_stops md_X4_stops rfl lk_X4_99 ⟨Nat.le_of_ble_eq_true rfl, Nat.le_of_ble_eq_true rfl⟩ hA hK hT B (by omega) mg_24 rfl rfl hl.1 rfl (Nat.le_of_ble_eq_true rfl) dX4_tidy_6 ⟨Nat.le_of_ble_eq_true rfl, Nat.le_of_ble_eq_true rfl⟩) (Nat.le_of_ble_eq_true rfl) (Nat.le_of_ble_eq_true rfl) (fun r ad' f' H locs hw B => ?_)
    rw [st_00] at hw
    dsimp only at hw
    obtain ⟨rfl, rfl, rfl⟩ := hw
    have B : WB g (aw N ad sz) s.heap N ad (mg g ad y cr dr 0 kn rf pl pz mc) H locs := B
    refine lv_if_eq (tgt := 17) hx hb dX4_tidy_9 (by decide) (fun _ => ?_) (fun z => absurd z (by decide))
    refine lv_aload_n hx hb dX4_tidy_17 rfl (lv_at hl 0 rfl) ?_
    refine b_get (q := 24) (k := 1) hb0 X hK B rfl in_X4 (by omega) mg_24 (by decide) lk_X4_11 rfl rfl dX4_tidy_18 ?_
    refine lv_iload_n hx hb dX4_tidy_21 rfl (lv_at hl 1 rfl) ?_
    refine b_aald (q := 25) (t0 := 2) (v := ad (28 + a1.toNatClampNeg)) rfl X hK B (by omega) mg_25 rfl rfl (no_in s2) rfl dX4_tidy_22 ?_
    have g3 : a1.toNatClampNeg < 4 := (no_lt s2)
    refine k_r (k := 1) (n := 3) hA B (u_S (rest := []) X (c_X4_tidied l g N ad (mg g ad y cr dr 0 kn rf pl pz mc) (28 + a1.toNatClampNeg) (ad (28 + a1.toNatClampNeg)) (cr a1.toNatClampNeg) (pl_cr hN g3) rfl (mg_cr g3) H.size) mw_X4_tidied md_X4_tidied rfl lk_X4_125 ⟨Nat.le_of_ble_eq_true rfl, Nat.le_of_ble_eq_true rfl⟩ hA hK hT B hl.1 rfl (Nat.le_of_ble_eq_true rfl) dX4_tidy_23 ⟨Nat.le_of_ble_eq_true rfl, Nat.le_of_ble_eq_true rfl⟩) (Nat.le_of_ble_eq_true rfl) (Nat.le_of_ble_eq_true rfl) (fun r4 ad4 f' H locs hw B => ?_)
    generalize o5 : (v_X4_tidied (cr a1.toNatClampNeg)) = v9 at hw B
    cases v9 with
    | none =>
      obtain ⟨rfl, rfl, rfl⟩ := pw_n hw
      refine k_r (k := 1) (n := 3) hA B (u_S (rest := []) X (c_W_toldN l g N ad (mg g ad y cr dr 0 kn rf pl pz mc) H.size) mw_X4_told md_X4_told rfl lk_X4_145 ⟨Nat.le_of_ble_eq_true rfl, Nat.le_of_ble_eq_true rfl⟩ hA hK hT B hl.1 rfl (Nat.le_of_ble_eq_true rfl) dX4_tidy_26 ⟨Nat.le_of_ble_eq_true rfl, Nat.le_of_ble_eq_true rfl⟩) (Nat.le_of_ble_eq_true rfl) (Nat.le_of_ble_eq_true rfl) (fun r ad' f' H locs hw B => ?_)
      obtain ⟨rfl, rfl, rfl⟩ := hw
      have ev := (show v_X4_tidy cr a1 = 0 from by unfold v_X4_tidy; rw [if_pos s2, om_none o5])
      exact rt_r (r := some (g.2.2 (100 + 10))) rfl X hr (Or.inl ⟨_, rfl⟩) (ad, mg g ad y cr dr 0 kn rf pl pz mc) B (PO_of B) ⟨rfl, ⟨_, rfl⟩, by rw [ev]⟩ (Nat.le_of_ble_eq_true rfl) (Nat.le_of_ble_eq_true rfl) dX4_tidy_29
    | some t5 =>
      obtain ⟨z5, rfl, rfl, rfl⟩ := pw_s hw
      have B : WB g (aw N ad sz) s.heap (N + 1) (va_up ad N z5) (mg g (va_up ad N z5) (va_up y N (c_row g t5)) cr dr 0 kn rf pl pz mc) H locs := WM_push (by omega) B
      refine k_r (k := 7) (n := 169) hA B (u_S (rest := []) X (c_W_told l g (N + 1) (va_up ad N z5) (mg g (va_up ad N z5) (va_up y N (c_row g t5)) cr dr 0 kn rf pl pz mc) N z5 t5 (Nat.lt_succ_self _) up_eq ((mg_hi (by omega)).trans up_eq) H.size) mw_X4_told md_X4_told rfl lk_X4_145 ⟨Nat.le_of_ble_eq_true rfl, Nat.le_of_ble_eq_true rfl⟩ hA hK hT B hl.1 rfl (Nat.le_of_ble_eq_true rfl) dX4_tidy_26 ⟨Nat.le_of_ble_eq_true rfl, Nat.le_of_ble_eq_true rfl⟩) (Nat.le_of_ble_eq_true rfl) (Nat.le_of_ble_eq_true rfl) (fun r ad' f' H locs hw B => ?_)
      obtain ⟨a6, a6x, h6, hF6, rfl, rfl, rfl⟩ := hw
      have B : WB g (aw N ad sz) s.heap (N + 1 + 1 + 1) (va_up (va_up (va_up ad N z5) (N + 1) a6) (N + 1 + 1) a6x) (mg g (va_up (va_up (va_up ad N z5) (N + 1) a6) (N + 1 + 1) a6x) (va_up (va_up (va_up y N (c_row g t5)) (N + 1) (c_st a6x)) (N + 1 + 1) (c_ba g (tlen t5) h6)) cr dr 0 kn rf pl pz mc) H locs := WM_push2 (by omega) B
      have B : WB g (aw N ad sz) s.heap N ad (mg g ad y cr dr 0 kn rf pl pz mc) H locs := WM_drop B (by omega) (by omega) (fun _ hk => (((up_lt (Nat.lt_succ_of_lt (Nat.lt_succ_of_lt hk))).trans (up_lt (Nat.lt_succ_of_lt hk))).trans (up_lt hk))) (fun _ hk => (((up_lt (Nat.lt_succ_of_lt (Nat.lt_succ_of_lt hk))).trans (up_lt (Nat.lt_succ_of_lt hk))).trans (up_lt hk)))
      have ev := (show v_X4_tidy cr a1 = 0 from by unfold v_X4_tidy; rw [if_pos s2, om_some o5])
      exact rt_r (r := some (a6)) rfl X hr (Or.inl ⟨_, rfl⟩) (ad, mg g ad y cr dr 0 kn rf pl pz mc) B (PO_of B) ⟨rfl, ⟨_, rfl⟩, by rw [ev]⟩ (Nat.le_of_ble_eq_true rfl) (Nat.le_of_ble_eq_true rfl) dX4_tidy_29
  · have s2x : (v_X4_isNone a1) = 1 := (b01_X4_isNone).resolve_left s2
    rw [s2x]
    refine k_i (k := 0) (n := 0) hA B (b_V (q := 24) (rest := []) hb0 X (c_X4_stops l g N ad y cr dr th kn rf pl pz mc (by omega) b0 hb0 1 0 H.size) mw_X4_stops md_X4_stops rfl lk_X4_99 ⟨Nat.le_of_ble_eq_true rfl, Nat.le_of_ble_eq_true rfl⟩ hA hK hT B (by omega) mg_24 rfl rfl hl.1 rfl (Nat.le_of_ble_eq_true rfl) dX4_tidy_6 ⟨Nat.le_of_ble_eq_true rfl, Nat.le_of_ble_eq_true rfl⟩) (Nat.le_of_ble_eq_true rfl) (Nat.le_of_ble_eq_true rfl) (fun r ad' f' H locs hw B => ?_)
    rw [st_10] at hw
    dsimp only at hw
    obtain ⟨rfl, rfl, rfl⟩ := hw
    have B : WB g (aw N ad sz) s.heap N ad (mg g ad y cr dr 1 kn rf pl pz mc) H locs := B
    refine lv_if_eq (tgt := 17) hx hb dX4_tidy_9 (by decide) (fun z => absurd z (by decide)) (fun _ => ?_)
    refine b_ldc (i := 10) (by decide) rfl rfl X hT dX4_tidy_12 ?_
    refine lv_goto (tgt := 29) hx hb dX4_tidy_14 (by decide) ?_
    have ev := (show v_X4_tidy cr a1 = 1 from by unfold v_X4_tidy; rw [if_neg s2])
    exact rt_r (r := some (g.2.2 (100 + 10))) rfl X hr (Or.inl ⟨_, rfl⟩) (ad, mg g ad y cr dr 1 kn rf pl pz mc) B (PO_of B) ⟨rfl, ⟨_, rfl⟩, by rw [ev]⟩ (Nat.le_of_ble_eq_true rfl) (Nat.le_of_ble_eq_true rfl) dX4_tidy_29
def v_X4_opposite (cr : Nat → TR) (a1 : Int32) : Int32 := if v_X4_isNone a1 = 0 then (om (v_X4_opposed (cr a1.toNatClampNeg)) 0 (fun t5 => 0)) else 1
set_option maxHeartbeats 4000000 in
set_option maxRecDepth 100000 in
theorem c_X4_opposite (l : Launch) (g : GG) (N : Nat) (ad : Nat → Nat) (y : Nat → va_E) (cr dr : Nat → TR) (th kn rf : Int32) (pl : Nat → TR) (pz : Nat) (mc : Int32) (hN : 36 + pz ≤ N) (b0 : Nat) (hb0 : ad 24 = b0) (a1 : Int32) : KR l yX4_opposite cX4_opposite 2 (.object "java/lang/String") (rm 7 8 172) g [.ref b0, .int a1] N ad (mg g ad y cr dr th kn rf pl pz mc) N (fun r ad' f' => ad = ad' ∧ (∃ a : Nat, some a = r) ∧ mg g ad y cr dr (v_X4_opposite cr a1) kn rf pl pz mc = f') := by
  intro sz
  refine mt_start (by decide) (Nat.le_of_ble_eq_true rfl) ?_
  intro p e s m args below meth c hsz X hr hnam hA hK hT H locs B ls hl
  obtain ⟨hx, hb, hml, hown, hts, hlocks⟩ := id X
  have hl : lv_has ls 2 [(0, .ref b0), (1, .int a1)] := hl
  refine lv_aload_n hx hb dX4_opposite_0 rfl (lv_at hl 0 rfl) ?_
  refine lv_iload_n hx hb dX4_opposite_1 rfl (lv_at hl 1 rfl) ?_
  refine k_i (k := 0) (n := 0) hA B (u_S (rest := [.ref b0]) X (c_X4_isNone l g N ad (mg g ad y cr dr th kn rf pl pz mc) a1 H.size) mw_X4_isNone md_X4_isNone rfl lk_X4_95 ⟨Nat.le_of_ble_eq_true rfl, Nat.le_of_ble_eq_true rfl⟩ hA hK hT B hl.1 rfl (Nat.le_of_ble_eq_true rfl) dX4_opposite_2 ⟨Nat.le_of_ble_eq_true rfl, Nat.le_of_ble_eq_true rfl⟩) (Nat.le_of_ble_eq_true rfl) (Nat.le_of_ble_eq_true rfl) (fun r1 ad1 f' H locs hw B => ?_)
  obtain ⟨rfl, rfl, rfl⟩ := hw
  refine lv_iconst (v := 0) hx hb dX4_opposite_5 (by decide) ?_
  by_cases s2 : v_X4_isNone a1 = 0
  · rw [s2]
    refine k_i (k := 0) (n := 0) hA B (b_V (q := 24) (rest := []) hb0 X (c_X4_stops l g N ad y cr dr th kn rf pl pz mc (by omega) b0 hb0 0 0 H.size) mw_X4_stops md_X4_stops rfl lk_X4_99 ⟨Nat.le_of_ble_eq_true rfl, Nat.le_of_ble_eq_true rfl⟩ hA hK hT B (by omega) mg_24 rfl rfl hl.1 rfl (Nat.le_of_ble_eq_true rfl) dX4_opposite_6 ⟨Nat.le_of_ble_eq_true rfl, Nat.le_of_ble_eq_true rfl⟩) (Nat.le_of_ble_eq_true rfl) (Nat.le_of_ble_eq_true rfl) (fun r ad' f' H locs hw B => ?_)
    rw [st_00] at hw
    dsimp only at hw
    obtain ⟨rfl, rfl, rfl⟩ := hw
    have B : WB g (aw N ad sz) s.heap N ad (mg g ad y cr dr 0 kn rf pl pz mc) H locs := B
    refine lv_if_eq (tgt := 17) hx hb dX4_opposite_9 (by decide) (fun _ => ?_) (fun z => absurd z (by decide))
    refine lv_aload_n hx hb dX4_opposite_17 rfl (lv_at hl 0 rfl) ?_
    refine b_get (q := 24) (k := 1) hb0 X hK B rfl in_X4 (by omega) mg_24 (by decide) lk_X4_11 rfl rfl dX4_opposite_18 ?_
    refine lv_iload_n hx hb dX4_opposite_21 rfl (lv_at hl 1 rfl) ?_
    refine b_aald (q := 25) (t0 := 2) (v := ad (28 + a1.toNatClampNeg)) rfl X hK B (by omega) mg_25 rfl rfl (no_in s2) rfl dX4_opposite_22 ?_
    have g3 : a1.toNatClampNeg < 4 := (no_lt s2)
    refine k_r (k := 2) (n := 6) hA B (u_S (rest := []) X (c_X4_opposed l g N ad (mg g ad y cr dr 0 kn rf pl pz mc) (28 + a1.toNatClampNeg) (ad (28 + a1.toNatClampNeg)) (cr a1.toNatClampNeg) (pl_cr hN g3) rfl (mg_cr g3) H.size) mw_X4_opposed md_X4_opposed rfl lk_X4_121 ⟨Nat.le_of_ble_eq_true rfl, Nat.le_of_ble_eq_true rfl⟩ hA hK hT B hl.1 rfl (Nat.le_of_ble_eq_true rfl) dX4_opposite_23 ⟨Nat.le_of_ble_eq_true rfl, Nat.le_of_ble_eq_true rfl⟩) (Nat.le_of_ble_eq_true rfl) (Nat.le_of_ble_eq_true rfl) (fun r4 ad4 f' H locs hw B => ?_)
    generalize o5 : (v_X4_opposed (cr a1.toNatClampNeg)) = v9 at hw B
    cases v9 with
    | none =>
      obtain ⟨rfl, rfl, rfl⟩ := pw_n hw
      refine k_r (k := 2) (n := 6) hA B (u_S (rest := []) X (c_W_toldN l g N ad (mg g ad y cr dr 0 kn rf pl pz mc) H.size) mw_X4_told md_X4_told rfl lk_X4_145 ⟨Nat.le_of_ble_eq_true rfl, Nat.le_of_ble_eq_true rfl⟩ hA hK hT B hl.1 rfl (Nat.le_of_ble_eq_true rfl) dX4_opposite_26 ⟨Nat.le_of_ble_eq_true rfl, Nat.le_of_ble_eq_true rfl⟩) (Nat.le_of_ble_eq_true rfl) (Nat.le_of_ble_eq_true rfl) (fun r ad' f' H locs hw B => ?_)
      obtain ⟨rfl, rfl, rfl⟩ := hw
      have ev := (show v_X4_opposite cr a1 = 0 from by unfold v_X4_opposite; rw [if_pos s2, om_none o5])
      exact rt_r (r := some (g.2.2 (100 + 10))) rfl X hr (Or.inl ⟨_, rfl⟩) (ad, mg g ad y cr dr 0 kn rf pl pz mc) B (PO_of B) ⟨rfl, ⟨_, rfl⟩, by rw [ev]⟩ (Nat.le_of_ble_eq_true rfl) (Nat.le_of_ble_eq_true rfl) dX4_opposite_29
    | some t5 =>
      obtain ⟨z5, rfl, rfl, rfl⟩ := pw_s hw
      have B : WB g (aw N ad sz) s.heap (N + 1) (va_up ad N z5) (mg g (va_up ad N z5) (va_up y N (c_row g t5)) cr dr 0 kn rf pl pz mc) H locs := WM_push (by omega) B
      refine k_r (k := 8) (n := 172) hA B (u_S (rest := []) X (c_W_told l g (N + 1) (va_up ad N z5) (mg g (va_up ad N z5) (va_up y N (c_row g t5)) cr dr 0 kn rf pl pz mc) N z5 t5 (Nat.lt_succ_self _) up_eq ((mg_hi (by omega)).trans up_eq) H.size) mw_X4_told md_X4_told rfl lk_X4_145 ⟨Nat.le_of_ble_eq_true rfl, Nat.le_of_ble_eq_true rfl⟩ hA hK hT B hl.1 rfl (Nat.le_of_ble_eq_true rfl) dX4_opposite_26 ⟨Nat.le_of_ble_eq_true rfl, Nat.le_of_ble_eq_true rfl⟩) (Nat.le_of_ble_eq_true rfl) (Nat.le_of_ble_eq_true rfl) (fun r ad' f' H locs hw B => ?_)
      obtain ⟨a6, a6x, h6, hF6, rfl, rfl, rfl⟩ := hw
      have B : WB g (aw N ad sz) s.heap (N + 1 + 1 + 1) (va_up (va_up (va_up ad N z5) (N + 1) a6) (N + 1 + 1) a6x) (mg g (va_up (va_up (va_up ad N z5) (N + 1) a6) (N + 1 + 1) a6x) (va_up (va_up (va_up y N (c_row g t5)) (N + 1) (c_st a6x)) (N + 1 + 1) (c_ba g (tlen t5) h6)) cr dr 0 kn rf pl pz mc) H locs := WM_push2 (by omega) B
      have B : WB g (aw N ad sz) s.heap N ad (mg g ad y cr dr 0 kn rf pl pz mc) H locs := WM_drop B (by omega) (by omega) (fun _ hk => (((up_lt (Nat.lt_succ_of_lt (Nat.lt_succ_of_lt hk))).trans (up_lt (Nat.lt_succ_of_lt hk))).trans (up_lt hk))) (fun _ hk => (((up_lt (Nat.lt_succ_of_lt (Nat.lt_succ_of_lt hk))).trans (up_lt (Nat.lt_succ_of_lt hk))).trans (up_lt hk)))
      have ev := (show v_X4_opposite cr a1 = 0 from by unfold v_X4_opposite; rw [if_pos s2, om_some o5])
      exact rt_r (r := some (a6)) rfl X hr (Or.inl ⟨_, rfl⟩) (ad, mg g ad y cr dr 0 kn rf pl pz mc) B (PO_of B) ⟨rfl, ⟨_, rfl⟩, by rw [ev]⟩ (Nat.le_of_ble_eq_true rfl) (Nat.le_of_ble_eq_true rfl) dX4_opposite_29
  · have s2x : (v_X4_isNone a1) = 1 := (b01_X4_isNone).resolve_left s2
    rw [s2x]
    refine k_i (k := 0) (n := 0) hA B (b_V (q := 24) (rest := []) hb0 X (c_X4_stops l g N ad y cr dr th kn rf pl pz mc (by omega) b0 hb0 1 0 H.size) mw_X4_stops md_X4_stops rfl lk_X4_99 ⟨Nat.le_of_ble_eq_true rfl, Nat.le_of_ble_eq_true rfl⟩ hA hK hT B (by omega) mg_24 rfl rfl hl.1 rfl (Nat.le_of_ble_eq_true rfl) dX4_opposite_6 ⟨Nat.le_of_ble_eq_true rfl, Nat.le_of_ble_eq_true rfl⟩) (Nat.le_of_ble_eq_true rfl) (Nat.le_of_ble_eq_true rfl) (fun r ad' f' H locs hw B => ?_)
    rw [st_10] at hw
    dsimp only at hw
    obtain ⟨rfl, rfl, rfl⟩ := hw
    have B : WB g (aw N ad sz) s.heap N ad (mg g ad y cr dr 1 kn rf pl pz mc) H locs := B
    refine lv_if_eq (tgt := 17) hx hb dX4_opposite_9 (by decide) (fun z => absurd z (by decide)) (fun _ => ?_)
    refine b_ldc (i := 10) (by decide) rfl rfl X hT dX4_opposite_12 ?_
    refine lv_goto (tgt := 29) hx hb dX4_opposite_14 (by decide) ?_
    have ev := (show v_X4_opposite cr a1 = 1 from by unfold v_X4_opposite; rw [if_neg s2])
    exact rt_r (r := some (g.2.2 (100 + 10))) rfl X hr (Or.inl ⟨_, rfl⟩) (ad, mg g ad y cr dr 1 kn rf pl pz mc) B (PO_of B) ⟨rfl, ⟨_, rfl⟩, by rw [ev]⟩ (Nat.le_of_ble_eq_true rfl) (Nat.le_of_ble_eq_true rfl) dX4_opposite_29
def v_X4_dateText (a1 : Int32) : Int32 := if v_X4_isNone a1 = 0 then 0 else 1
set_option maxHeartbeats 4000000 in
set_option maxRecDepth 100000 in
theorem c_X4_dateText (l : Launch) (g : GG) (N : Nat) (ad : Nat → Nat) (y : Nat → va_E) (cr dr : Nat → TR) (th kn rf : Int32) (pl : Nat → TR) (pz : Nat) (mc : Int32) (hN : 36 + pz ≤ N) (b0 : Nat) (hb0 : ad 24 = b0) (a1 : Int32) (hdr : ∀ i, i < 4 → okd (dr i)) : KR l yX4_dateText cX4_dateText 2 (.object "java/lang/String") (rm 7 4 34) g [.ref b0, .int a1] N ad (mg g ad y cr dr th kn rf pl pz mc) N (fun r ad' f' => ad = ad' ∧ (∃ a : Nat, some a = r) ∧ mg g ad y cr dr (v_X4_dateText a1) kn rf pl pz mc = f') := by
  intro sz
  refine mt_start (by decide) (Nat.le_of_ble_eq_true rfl) ?_
  intro p e s m args below meth c hsz X hr hnam hA hK hT H locs B ls hl
  obtain ⟨hx, hb, hml, hown, hts, hlocks⟩ := id X
  have hl : lv_has ls 2 [(0, .ref b0), (1, .int a1)] := hl
  refine lv_aload_n hx hb dX4_dateText_0 rfl (lv_at hl 0 rfl) ?_
  refine lv_iload_n hx hb dX4_dateText_1 rfl (lv_at hl 1 rfl) ?_
  refine k_i (k := 0) (n := 0) hA B (u_S (rest := [.ref b0]) X (c_X4_isNone l g N ad (mg g ad y cr dr th kn rf pl pz mc) a1 H.size) mw_X4_isNone md_X4_isNone rfl lk_X4_95 ⟨Nat.le_of_ble_eq_true rfl, Nat.le_of_ble_eq_true rfl⟩ hA hK hT B hl.1 rfl (Nat.le_of_ble_eq_true rfl) dX4_dateText_2 ⟨Nat.le_of_ble_eq_true rfl, Nat.le_of_ble_eq_true rfl⟩) (Nat.le_of_ble_eq_true rfl) (Nat.le_of_ble_eq_true rfl) (fun r1 ad1 f' H locs hw B => ?_)
  obtain ⟨rfl, rfl, rfl⟩ := hw
  refine lv_iconst (v := 0) hx hb dX4_dateText_5 (by decide) ?_
  by_cases s2 : v_X4_isNone a1 = 0
  · rw [s2]
    refine k_i (k := 0) (n := 0) hA B (b_V (q := 24) (rest := []) hb0 X (c_X4_stops l g N ad y cr dr th kn rf pl pz mc (by omega) b0 hb0 0 0 H.size) mw_X4_stops md_X4_stops rfl lk_X4_99 ⟨Nat.le_of_ble_eq_true rfl, Nat.le_of_ble_eq_true rfl⟩ hA hK hT B (by omega) mg_24 rfl rfl hl.1 rfl (Nat.le_of_ble_eq_true rfl) dX4_dateText_6 ⟨Nat.le_of_ble_eq_true rfl, Nat.le_of_ble_eq_true rfl⟩) (Nat.le_of_ble_eq_true rfl) (Nat.le_of_ble_eq_true rfl) (fun r ad' f' H locs hw B => ?_)
    rw [st_00] at hw
    dsimp only at hw
    obtain ⟨rfl, rfl, rfl⟩ := hw
    have B : WB g (aw N ad sz) s.heap N ad (mg g ad y cr dr 0 kn rf pl pz mc) H locs := B
    refine lv_if_eq (tgt := 17) hx hb dX4_dateText_9 (by decide) (fun _ => ?_) (fun z => absurd z (by decide))
    refine lv_aload_n hx hb dX4_dateText_17 rfl (lv_at hl 0 rfl) ?_
    refine b_get (q := 24) (k := 3) hb0 X hK B rfl in_X4 (by omega) mg_24 (by decide) lk_X4_23 rfl rfl dX4_dateText_18 ?_
    refine lv_iload_n hx hb dX4_dateText_21 rfl (lv_at hl 1 rfl) ?_
    refine b_aald (q := 26) (t0 := 2) (v := ad (32 + a1.toNatClampNeg)) rfl X hK B (by omega) mg_26 rfl rfl (no_in s2) rfl dX4_dateText_22 ?_
    have g3 : a1.toNatClampNeg < 4 := (no_lt s2)
    refine k_r (k := 4) (n := 34) hA B (u_S (rest := []) X (c_W_date l g N ad (mg g ad y cr dr 0 kn rf pl pz mc) (32 + a1.toNatClampNeg) (ad (32 + a1.toNatClampNeg)) (dr a1.toNatClampNeg) (pl_dr hN g3) rfl (mg_dr g3) (hdr _ g3) H.size) mw_X4_dateTold md_X4_dateTold rfl lk_X4_232 ⟨Nat.le_of_ble_eq_true rfl, Nat.le_of_ble_eq_true rfl⟩ hA hK hT B hl.1 rfl (Nat.le_of_ble_eq_true rfl) dX4_dateText_23 ⟨Nat.le_of_ble_eq_true rfl, Nat.le_of_ble_eq_true rfl⟩) (Nat.le_of_ble_eq_true rfl) (Nat.le_of_ble_eq_true rfl) (fun r ad' f' H locs hw B => ?_)
    obtain ⟨a4, a4x, h4, hF4, rfl, rfl, rfl⟩ := hw
    have B : WB g (aw N ad sz) s.heap (N + 1 + 1) (va_up (va_up ad N a4) (N + 1) a4x) (mg g (va_up (va_up ad N a4) (N + 1) a4x) (va_up (va_up y N (c_st a4x)) (N + 1) (c_ba g (dlen (dr a1.toNatClampNeg)) h4)) cr dr 0 kn rf pl pz mc) H locs := WM_push2 (by omega) B
    have B : WB g (aw N ad sz) s.heap N ad (mg g ad y cr dr 0 kn rf pl pz mc) H locs := WM_drop B (by omega) (by omega) (fun _ hk => ((up_lt (Nat.lt_succ_of_lt hk)).trans (up_lt hk))) (fun _ hk => ((up_lt (Nat.lt_succ_of_lt hk)).trans (up_lt hk)))
    have ev := (show v_X4_dateText a1 = 0 from by unfold v_X4_dateText; rw [if_pos s2])
    exact rt_r (r := some (a4)) rfl X hr (Or.inl ⟨_, rfl⟩) (ad, mg g ad y cr dr 0 kn rf pl pz mc) B (PO_of B) ⟨rfl, ⟨_, rfl⟩, by rw [ev]⟩ (Nat.le_of_ble_eq_true rfl) (Nat.le_of_ble_eq_true rfl) dX4_dateText_26
  · have s2x : (v_X4_isNone a1) = 1 := (b01_X4_isNone).resolve_left s2
    rw [s2x]
    refine k_i (k := 0) (n := 0) hA B (b_V (q := 24) (rest := []) hb0 X (c_X4_stops l g N ad y cr dr th kn rf pl pz mc (by omega) b0 hb0 1 0 H.size) mw_X4_stops md_X4_stops rfl lk_X4_99 ⟨Nat.le_of_ble_eq_true rfl, Nat.le_of_ble_eq_true rfl⟩ hA hK hT B (by omega) mg_24 rfl rfl hl.1 rfl (Nat.le_of_ble_eq_true rfl) dX4_dateText_6 ⟨Nat.le_of_ble_eq_true rfl, Nat.le_of_ble_eq_true rfl⟩) (Nat.le_of_ble_eq_true rfl) (Nat.le_of_ble_eq_true rfl) (fun r ad' f' H locs hw B => ?_)
    rw [st_10] at hw
    dsimp only at hw
    obtain ⟨rfl, rfl, rfl⟩ := hw
    have B : WB g (aw N ad sz) s.heap N ad (mg g ad y cr dr 1 kn rf pl pz mc) H locs := B
    refine lv_if_eq (tgt := 17) hx hb dX4_dateText_9 (by decide) (fun z => absurd z (by decide)) (fun _ => ?_)
    refine b_ldc (i := 10) (by decide) rfl rfl X hT dX4_dateText_12 ?_
    refine lv_goto (tgt := 26) hx hb dX4_dateText_14 (by decide) ?_
    have ev := (show v_X4_dateText a1 = 1 from by unfold v_X4_dateText; rw [if_neg s2])
    exact rt_r (r := some (g.2.2 (100 + 10))) rfl X hr (Or.inl ⟨_, rfl⟩) (ad, mg g ad y cr dr 1 kn rf pl pz mc) B (PO_of B) ⟨rfl, ⟨_, rfl⟩, by rw [ev]⟩ (Nat.le_of_ble_eq_true rfl) (Nat.le_of_ble_eq_true rfl) dX4_dateText_26
def v_X4_moved (cr : Nat → TR) (dr : Nat → TR) (a1 : Int32) (a2 : Int32) (a3 : Int32) : Int32 := if (v_X4_isNone a1) = 0 then (if (v_X4_isNone a2) = 0 then (if a3 = 0 then (om (v_X4_onBy (dr a1.toNatClampNeg) (cr a2.toNatClampNeg) 1) 0 (fun t7 => 0)) else (om (v_X4_onBy (dr a1.toNatClampNeg) (cr a2.toNatClampNeg) (-1)) 0 (fun t10 => 0))) else 1) else 1
set_option maxHeartbeats 4000000 in
set_option maxRecDepth 100000 in
theorem c_X4_moved (l : Launch) (g : GG) (N : Nat) (ad : Nat → Nat) (y : Nat → va_E) (cr dr : Nat → TR) (th kn rf : Int32) (pl : Nat → TR) (pz : Nat) (mc : Int32) (hN : 36 + pz ≤ N) (b0 : Nat) (hb0 : ad 24 = b0) (a1 : Int32) (a2 : Int32) (a3 : Int32) (hdr : ∀ i, i < 4 → okd (dr i)) : KR l yX4_moved cX4_moved 4 (.object "java/lang/String") (rm 8 6 40) g [.ref b0, .int a1, .int a2, .int a3] N ad (mg g ad y cr dr th kn rf pl pz mc) N (fun r ad' f' => ad = ad' ∧ (∃ a : Nat, some a = r) ∧ mg g ad y cr dr (v_X4_moved cr dr a1 a2 a3) kn rf pl pz mc = f') := by
  intro sz
  refine mt_start (by decide) (Nat.le_of_ble_eq_true rfl) ?_
  intro p e s m args below meth c hsz X hr hnam hA hK hT H locs B ls hl
  obtain ⟨hx, hb, hml, hown, hts, hlocks⟩ := id X
  have hl : lv_has ls 4 [(0, .ref b0), (1, .int a1), (2, .int a2), (3, .int a3)] := hl
  refine lv_aload_n hx hb dX4_moved_0 rfl (lv_at hl 0 rfl) ?_
  refine lv_iload_n hx hb dX4_moved_1 rfl (lv_at hl 1 rfl) ?_
  refine k_i (k := 0) (n := 0) hA B (u_S (rest := [.ref b0]) X (c_X4_isNone l g N ad (mg g ad y cr dr th kn rf pl pz mc) a1 H.size) mw_X4_isNone md_X4_isNone rfl lk_X4_95 ⟨Nat.le_of_ble_eq_true rfl, Nat.le_of_ble_eq_true rfl⟩ hA hK hT B hl.1 rfl (Nat.le_of_ble_eq_true rfl) dX4_moved_2 ⟨Nat.le_of_ble_eq_true rfl, Nat.le_of_ble_eq_true rfl⟩) (Nat.le_of_ble_eq_true rfl) (Nat.le_of_ble_eq_true rfl) (fun r1 ad1 f' H locs hw B => ?_)
  obtain ⟨rfl, rfl, rfl⟩ := hw
  refine lv_if_ne (tgt := 15) hx hb dX4_moved_5 (by decide) (fun c2 => ?_) (fun c2 => ?_)
  · refine lv_iconst (v := 1) hx hb dX4_moved_15 (by decide) ?_
    refine lv_goto (tgt := 20) hx hb dX4_moved_16 (by decide) ?_
    refine lv_iconst (v := 0) hx hb dX4_moved_20 (by decide) ?_
    refine k_i (k := 0) (n := 0) hA B (b_V (q := 24) (rest := []) hb0 X (c_X4_stops l g N ad y cr dr th kn rf pl pz mc (by omega) b0 hb0 1 0 H.size) mw_X4_stops md_X4_stops rfl lk_X4_99 ⟨Nat.le_of_ble_eq_true rfl, Nat.le_of_ble_eq_true rfl⟩ hA hK hT B (by omega) mg_24 rfl rfl hl.1 rfl (Nat.le_of_ble_eq_true rfl) dX4_moved_21 ⟨Nat.le_of_ble_eq_true rfl, Nat.le_of_ble_eq_true rfl⟩) (Nat.le_of_ble_eq_true rfl) (Nat.le_of_ble_eq_true rfl) (fun r ad' f' H locs hw B => ?_)
    rw [st_10] at hw
    dsimp only at hw
    obtain ⟨rfl, rfl, rfl⟩ := hw
    have B : WB g (aw N ad sz) s.heap N ad (mg g ad y cr dr 1 kn rf pl pz mc) H locs := B
    refine lv_if_eq (tgt := 32) hx hb dX4_moved_24 (by decide) (fun z => absurd z (by decide)) (fun _ => ?_)
    refine b_ldc (i := 10) (by decide) rfl rfl X hT dX4_moved_27 ?_
    refine lv_goto (tgt := 39) hx hb dX4_moved_29 (by decide) ?_
    have ev := (show v_X4_moved cr dr a1 a2 a3 = 1 from by unfold v_X4_moved; rw [if_neg c2])
    exact rt_r (r := some (g.2.2 (100 + 10))) rfl X hr (Or.inl ⟨_, rfl⟩) (ad, mg g ad y cr dr 1 kn rf pl pz mc) B (PO_of B) ⟨rfl, ⟨_, rfl⟩, by rw [ev]⟩ (Nat.le_of_ble_eq_true rfl) (Nat.le_of_ble_eq_true rfl) dX4_moved_39
  · refine lv_iload_n hx hb dX4_moved_8 rfl (lv_at hl 2 rfl) ?_
    refine k_i (k := 0) (n := 0) hA B (u_S (rest := [.ref b0]) X (c_X4_isNone l g N ad (mg g ad y cr dr th kn rf pl pz mc) a2 H.size) mw_X4_isNone md_X4_isNone rfl lk_X4_95 ⟨Nat.le_of_ble_eq_true rfl, Nat.le_of_ble_eq_true rfl⟩ hA hK hT B hl.1 rfl (Nat.le_of_ble_eq_true rfl) dX4_moved_9 ⟨Nat.le_of_ble_eq_true rfl, Nat.le_of_ble_eq_true rfl⟩) (Nat.le_of_ble_eq_true rfl) (Nat.le_of_ble_eq_true rfl) (fun r3 ad3 f' H locs hw B => ?_)
    obtain ⟨rfl, rfl, rfl⟩ := hw
    refine lv_if_eq (tgt := 19) hx hb dX4_moved_12 (by decide) (fun c4 => ?_) (fun c4 => ?_)
    · refine lv_iconst (v := 0) hx hb dX4_moved_19 (by decide) ?_
      refine lv_iconst (v := 0) hx hb dX4_moved_20 (by decide) ?_
      refine k_i (k := 0) (n := 0) hA B (b_V (q := 24) (rest := []) hb0 X (c_X4_stops l g N ad y cr dr th kn rf pl pz mc (by omega) b0 hb0 0 0 H.size) mw_X4_stops md_X4_stops rfl lk_X4_99 ⟨Nat.le_of_ble_eq_true rfl, Nat.le_of_ble_eq_true rfl⟩ hA hK hT B (by omega) mg_24 rfl rfl hl.1 rfl (Nat.le_of_ble_eq_true rfl) dX4_moved_21 ⟨Nat.le_of_ble_eq_true rfl, Nat.le_of_ble_eq_true rfl⟩) (Nat.le_of_ble_eq_true rfl) (Nat.le_of_ble_eq_true rfl) (fun r ad' f' H locs hw B => ?_)
      rw [st_00] at hw
      dsimp only at hw
      obtain ⟨rfl, rfl, rfl⟩ := hw
      have B : WB g (aw N ad sz) s.heap N ad (mg g ad y cr dr 0 kn rf pl pz mc) H locs := B
      refine lv_if_eq (tgt := 32) hx hb dX4_moved_24 (by decide) (fun _ => ?_) (fun z => absurd z (by decide))
      refine lv_aload_n hx hb dX4_moved_32 rfl (lv_at hl 0 rfl) ?_
      refine lv_iload_n hx hb dX4_moved_33 rfl (lv_at hl 1 rfl) ?_
      refine lv_iload_n hx hb dX4_moved_34 rfl (lv_at hl 2 rfl) ?_
      refine lv_iload_n hx hb dX4_moved_35 rfl (lv_at hl 3 rfl) ?_
      by_cases sg5 : a3 = 0
      · cases o6 : (v_X4_onBy (dr a1.toNatClampNeg) (cr a2.toNatClampNeg) 1) with
        | none =>
          refine k_r (k := 2) (n := 6) hA B (b_V (q := 24) (rest := []) hb0 X (c_X4_movedNowN l g N ad y cr dr 0 kn rf pl pz mc (by omega) b0 hb0 a1 a2 a3 c2 c4 hdr (show v_X4_onBy (dr a1.toNatClampNeg) (cr a2.toNatClampNeg) (msg a3) = none by rw [show msg a3 = 1 from (if_pos sg5)]; exact o6) H.size) mw_X4_movedNow md_X4_movedNow rfl lk_X4_235 ⟨Nat.le_of_ble_eq_true rfl, Nat.le_of_ble_eq_true rfl⟩ hA hK hT B (by omega) mg_24 rfl rfl hl.1 rfl (Nat.le_of_ble_eq_true rfl) dX4_moved_36 ⟨Nat.le_of_ble_eq_true rfl, Nat.le_of_ble_eq_true rfl⟩) (Nat.le_of_ble_eq_true rfl) (Nat.le_of_ble_eq_true rfl) (fun r ad' f' H locs hw B => ?_)
          obtain ⟨rfl, rfl, rfl⟩ := hw
          have ev := (show v_X4_moved cr dr a1 a2 a3 = 0 from by unfold v_X4_moved; rw [if_pos c2, if_pos c4, if_pos sg5, om_none o6])
          exact rt_r (r := some (g.2.2 (100 + 10))) rfl X hr (Or.inl ⟨_, rfl⟩) (ad, mg g ad y cr dr 0 kn rf pl pz mc) B (PO_of B) ⟨rfl, ⟨_, rfl⟩, by rw [ev]⟩ (Nat.le_of_ble_eq_true rfl) (Nat.le_of_ble_eq_true rfl) dX4_moved_39
        | some t7 =>
          refine k_r (k := 6) (n := 40) hA B (b_V (q := 24) (rest := []) hb0 X (c_X4_movedNowY l g N ad y cr dr 0 kn rf pl pz mc (by omega) b0 hb0 a1 a2 a3 c2 c4 hdr t7 (show v_X4_onBy (dr a1.toNatClampNeg) (cr a2.toNatClampNeg) (msg a3) = some t7 by rw [show msg a3 = 1 from (if_pos sg5)]; exact o6) H.size) mw_X4_movedNow md_X4_movedNow rfl lk_X4_235 ⟨Nat.le_of_ble_eq_true rfl, Nat.le_of_ble_eq_true rfl⟩ hA hK hT B (by omega) mg_24 rfl rfl hl.1 rfl (Nat.le_of_ble_eq_true rfl) dX4_moved_36 ⟨Nat.le_of_ble_eq_true rfl, Nat.le_of_ble_eq_true rfl⟩) (Nat.le_of_ble_eq_true rfl) (Nat.le_of_ble_eq_true rfl) (fun r ad' f' H locs hw B => ?_)
          dsimp only at hw
          obtain ⟨a8, a8x, h8, hF8, rfl, rfl, rfl⟩ := hw
          have B : WB g (aw N ad sz) s.heap (N + 1 + 1) (va_up (va_up ad N a8) (N + 1) a8x) (mg g (va_up (va_up ad N a8) (N + 1) a8x) (va_up (va_up y N (c_st a8x)) (N + 1) (c_ba g (dlen t7) h8)) cr dr 0 kn rf pl pz mc) H locs := B
          have B : WB g (aw N ad sz) s.heap N ad (mg g ad y cr dr 0 kn rf pl pz mc) H locs := WM_drop B (by omega) (by omega) (fun _ hk => ((up_lt (Nat.lt_succ_of_lt hk)).trans (up_lt hk))) (fun _ hk => ((up_lt (Nat.lt_succ_of_lt hk)).trans (up_lt hk)))
          have ev := (show v_X4_moved cr dr a1 a2 a3 = 0 from by unfold v_X4_moved; rw [if_pos c2, if_pos c4, if_pos sg5, om_some o6])
          exact rt_r (r := some (a8)) rfl X hr (Or.inl ⟨_, rfl⟩) (ad, mg g ad y cr dr 0 kn rf pl pz mc) B (PO_of B) ⟨rfl, ⟨_, rfl⟩, by rw [ev]⟩ (Nat.le_of_ble_eq_true rfl) (Nat.le_of_ble_eq_true rfl) dX4_moved_39
      · cases o9 : (v_X4_onBy (dr a1.toNatClampNeg) (cr a2.toNatClampNeg) (-1)) with
        | none =>
          refine k_r (k := 2) (n := 6) hA B (b_V (q := 24) (rest := []) hb0 X (c_X4_movedNowN l g N ad y cr dr 0 kn rf pl pz mc (by omega) b0 hb0 a1 a2 a3 c2 c4 hdr (show v_X4_onBy (dr a1.toNatClampNeg) (cr a2.toNatClampNeg) (msg a3) = none by rw [show msg a3 = (-1) from (if_neg sg5)]; exact o9) H.size) mw_X4_movedNow md_X4_movedNow rfl lk_X4_235 ⟨Nat.le_of_ble_eq_true rfl, Nat.le_of_ble_eq_true rfl⟩ hA hK hT B (by omega) mg_24 rfl rfl hl.1 rfl (Nat.le_of_ble_eq_true rfl) dX4_moved_36 ⟨Nat.le_of_ble_eq_true rfl, Nat.le_of_ble_eq_true rfl⟩) (Nat.le_of_ble_eq_true rfl) (Nat.le_of_ble_eq_true rfl) (fun r ad' f' H locs hw B => ?_)
          obtain ⟨rfl, rfl, rfl⟩ := hw
          have ev := (show v_X4_moved cr dr a1 a2 a3 = 0 from by unfold v_X4_moved; rw [if_pos c2, if_pos c4, if_neg sg5, om_none o9])
          exact rt_r (r := some (g.2.2 (100 + 10))) rfl X hr (Or.inl ⟨_, rfl⟩) (ad, mg g ad y cr dr 0 kn rf pl pz mc) B (PO_of B) ⟨rfl, ⟨_, rfl⟩, by rw [ev]⟩ (Nat.le_of_ble_eq_true rfl) (Nat.le_of_ble_eq_true rfl) dX4_moved_39
        | some t10 =>
          refine k_r (k := 6) (n := 40) hA B (b_V (q := 24) (rest := []) hb0 X (c_X4_movedNowY l g N ad y cr dr 0 kn rf pl pz mc (by omega) b0 hb0 a1 a2 a3 c2 c4 hdr t10 (show v_X4_onBy (dr a1.toNatClampNeg) (cr a2.toNatClampNeg) (msg a3) = some t10 by rw [show msg a3 = (-1) from (if_neg sg5)]; exact o9) H.size) mw_X4_movedNow md_X4_movedNow rfl lk_X4_235 ⟨Nat.le_of_ble_eq_true rfl, Nat.le_of_ble_eq_true rfl⟩ hA hK hT B (by omega) mg_24 rfl rfl hl.1 rfl (Nat.le_of_ble_eq_true rfl) dX4_moved_36 ⟨Nat.le_of_ble_eq_true rfl, Nat.le_of_ble_eq_true rfl⟩) (Nat.le_of_ble_eq_true rfl) (Nat.le_of_ble_eq_true rfl) (fun r ad' f' H locs hw B => ?_)
          dsimp only at hw
          obtain ⟨a11, a11x, h11, hF11, rfl, rfl, rfl⟩ := hw
          have B : WB g (aw N ad sz) s.heap (N + 1 + 1) (va_up (va_up ad N a11) (N + 1) a11x) (mg g (va_up (va_up ad N a11) (N + 1) a11x) (va_up (va_up y N (c_st a11x)) (N + 1) (c_ba g (dlen t10) h11)) cr dr 0 kn rf pl pz mc) H locs := B
          have B : WB g (aw N ad sz) s.heap N ad (mg g ad y cr dr 0 kn rf pl pz mc) H locs := WM_drop B (by omega) (by omega) (fun _ hk => ((up_lt (Nat.lt_succ_of_lt hk)).trans (up_lt hk))) (fun _ hk => ((up_lt (Nat.lt_succ_of_lt hk)).trans (up_lt hk)))
          have ev := (show v_X4_moved cr dr a1 a2 a3 = 0 from by unfold v_X4_moved; rw [if_pos c2, if_pos c4, if_neg sg5, om_some o9])
          exact rt_r (r := some (a11)) rfl X hr (Or.inl ⟨_, rfl⟩) (ad, mg g ad y cr dr 0 kn rf pl pz mc) B (PO_of B) ⟨rfl, ⟨_, rfl⟩, by rw [ev]⟩ (Nat.le_of_ble_eq_true rfl) (Nat.le_of_ble_eq_true rfl) dX4_moved_39
    · refine lv_iconst (v := 1) hx hb dX4_moved_15 (by decide) ?_
      refine lv_goto (tgt := 20) hx hb dX4_moved_16 (by decide) ?_
      refine lv_iconst (v := 0) hx hb dX4_moved_20 (by decide) ?_
      refine k_i (k := 0) (n := 0) hA B (b_V (q := 24) (rest := []) hb0 X (c_X4_stops l g N ad y cr dr th kn rf pl pz mc (by omega) b0 hb0 1 0 H.size) mw_X4_stops md_X4_stops rfl lk_X4_99 ⟨Nat.le_of_ble_eq_true rfl, Nat.le_of_ble_eq_true rfl⟩ hA hK hT B (by omega) mg_24 rfl rfl hl.1 rfl (Nat.le_of_ble_eq_true rfl) dX4_moved_21 ⟨Nat.le_of_ble_eq_true rfl, Nat.le_of_ble_eq_true rfl⟩) (Nat.le_of_ble_eq_true rfl) (Nat.le_of_ble_eq_true rfl) (fun r ad' f' H locs hw B => ?_)
      rw [st_10] at hw
      dsimp only at hw
      obtain ⟨rfl, rfl, rfl⟩ := hw
      have B : WB g (aw N ad sz) s.heap N ad (mg g ad y cr dr 1 kn rf pl pz mc) H locs := B
      refine lv_if_eq (tgt := 32) hx hb dX4_moved_24 (by decide) (fun z => absurd z (by decide)) (fun _ => ?_)
      refine b_ldc (i := 10) (by decide) rfl rfl X hT dX4_moved_27 ?_
      refine lv_goto (tgt := 39) hx hb dX4_moved_29 (by decide) ?_
      have ev := (show v_X4_moved cr dr a1 a2 a3 = 1 from by unfold v_X4_moved; rw [if_pos c2, if_neg c4])
      exact rt_r (r := some (g.2.2 (100 + 10))) rfl X hr (Or.inl ⟨_, rfl⟩) (ad, mg g ad y cr dr 1 kn rf pl pz mc) B (PO_of B) ⟨rfl, ⟨_, rfl⟩, by rw [ev]⟩ (Nat.le_of_ble_eq_true rfl) (Nat.le_of_ble_eq_true rfl) dX4_moved_39
def v_X4_apart_ (dr : Nat → TR) (a1 : Int32) (a2 : Int32) : Int32 := if (v_X4_isNone a1) = 0 then (if (v_X4_isNone a2) = 0 then (om (v_X4_apart (dr a1.toNatClampNeg) (dr a2.toNatClampNeg)) 0 (fun t8 => 0)) else 1) else 1
set_option maxHeartbeats 4000000 in
set_option maxRecDepth 100000 in
theorem c_X4_apart_ (l : Launch) (g : GG) (N : Nat) (ad : Nat → Nat) (y : Nat → va_E) (cr dr : Nat → TR) (th kn rf : Int32) (pl : Nat → TR) (pz : Nat) (mc : Int32) (hN : 36 + pz ≤ N) (b0 : Nat) (hb0 : ad 24 = b0) (a1 : Int32) (a2 : Int32) (hdr : ∀ i, i < 4 → okd (dr i)) : KR l yX4_apart_ cX4_apart_ 3 (.object "java/lang/String") (rm 7 8 172) g [.ref b0, .int a1, .int a2] N ad (mg g ad y cr dr th kn rf pl pz mc) N (fun r ad' f' => ad = ad' ∧ (∃ a : Nat, some a = r) ∧ mg g ad y cr dr (v_X4_apart_ dr a1 a2) kn rf pl pz mc = f') := by
  intro sz
  refine mt_start (by decide) (Nat.le_of_ble_eq_true rfl) ?_
  intro p e s m args below meth c hsz X hr hnam hA hK hT H locs B ls hl
  obtain ⟨hx, hb, hml, hown, hts, hlocks⟩ := id X
  have hl : lv_has ls 3 [(0, .ref b0), (1, .int a1), (2, .int a2)] := hl
  refine lv_aload_n hx hb dX4_apart__0 rfl (lv_at hl 0 rfl) ?_
  refine lv_iload_n hx hb dX4_apart__1 rfl (lv_at hl 1 rfl) ?_
  refine k_i (k := 0) (n := 0) hA B (u_S (rest := [.ref b0]) X (c_X4_isNone l g N ad (mg g ad y cr dr th kn rf pl pz mc) a1 H.size) mw_X4_isNone md_X4_isNone rfl lk_X4_95 ⟨Nat.le_of_ble_eq_true rfl, Nat.le_of_ble_eq_true rfl⟩ hA hK hT B hl.1 rfl (Nat.le_of_ble_eq_true rfl) dX4_apart__2 ⟨Nat.le_of_ble_eq_true rfl, Nat.le_of_ble_eq_true rfl⟩) (Nat.le_of_ble_eq_true rfl) (Nat.le_of_ble_eq_true rfl) (fun r1 ad1 f' H locs hw B => ?_)
  obtain ⟨rfl, rfl, rfl⟩ := hw
  refine lv_if_ne (tgt := 15) hx hb dX4_apart__5 (by decide) (fun c2 => ?_) (fun c2 => ?_)
  · refine lv_iconst (v := 1) hx hb dX4_apart__15 (by decide) ?_
    refine lv_goto (tgt := 20) hx hb dX4_apart__16 (by decide) ?_
    refine lv_iconst (v := 0) hx hb dX4_apart__20 (by decide) ?_
    refine k_i (k := 0) (n := 0) hA B (b_V (q := 24) (rest := []) hb0 X (c_X4_stops l g N ad y cr dr th kn rf pl pz mc (by omega) b0 hb0 1 0 H.size) mw_X4_stops md_X4_stops rfl lk_X4_99 ⟨Nat.le_of_ble_eq_true rfl, Nat.le_of_ble_eq_true rfl⟩ hA hK hT B (by omega) mg_24 rfl rfl hl.1 rfl (Nat.le_of_ble_eq_true rfl) dX4_apart__21 ⟨Nat.le_of_ble_eq_true rfl, Nat.le_of_ble_eq_true rfl⟩) (Nat.le_of_ble_eq_true rfl) (Nat.le_of_ble_eq_true rfl) (fun r ad' f' H locs hw B => ?_)
    rw [st_10] at hw
    dsimp only at hw
    obtain ⟨rfl, rfl, rfl⟩ := hw
    have B : WB g (aw N ad sz) s.heap N ad (mg g ad y cr dr 1 kn rf pl pz mc) H locs := B
    refine lv_if_eq (tgt := 32) hx hb dX4_apart__24 (by decide) (fun z => absurd z (by decide)) (fun _ => ?_)
    refine b_ldc (i := 10) (by decide) rfl rfl X hT dX4_apart__27 ?_
    refine lv_goto (tgt := 50) hx hb dX4_apart__29 (by decide) ?_
    have ev := (show v_X4_apart_ dr a1 a2 = 1 from by unfold v_X4_apart_; rw [if_neg c2])
    exact rt_r (r := some (g.2.2 (100 + 10))) rfl X hr (Or.inl ⟨_, rfl⟩) (ad, mg g ad y cr dr 1 kn rf pl pz mc) B (PO_of B) ⟨rfl, ⟨_, rfl⟩, by rw [ev]⟩ (Nat.le_of_ble_eq_true rfl) (Nat.le_of_ble_eq_true rfl) dX4_apart__50
  · refine lv_iload_n hx hb dX4_apart__8 rfl (lv_at hl 2 rfl) ?_
    refine k_i (k := 0) (n := 0) hA B (u_S (rest := [.ref b0]) X (c_X4_isNone l g N ad (mg g ad y cr dr th kn rf pl pz mc) a2 H.size) mw_X4_isNone md_X4_isNone rfl lk_X4_95 ⟨Nat.le_of_ble_eq_true rfl, Nat.le_of_ble_eq_true rfl⟩ hA hK hT B hl.1 rfl (Nat.le_of_ble_eq_true rfl) dX4_apart__9 ⟨Nat.le_of_ble_eq_true rfl, Nat.le_of_ble_eq_true rfl⟩) (Nat.le_of_ble_eq_true rfl) (Nat.le_of_ble_eq_true rfl) (fun r3 ad3 f' H locs hw B => ?_)
    obtain ⟨rfl, rfl, rfl⟩ := hw
    refine lv_if_eq (tgt := 19) hx hb dX4_apart__12 (by decide) (fun c4 => ?_) (fun c4 => ?_)
    · refine lv_iconst (v := 0) hx hb dX4_apart__19 (by decide) ?_
      refine lv_iconst (v := 0) hx hb dX4_apart__20 (by decide) ?_
      refine k_i (k := 0) (n := 0) hA B (b_V (q := 24) (rest := []) hb0 X (c_X4_stops l g N ad y cr dr th kn rf pl pz mc (by omega) b0 hb0 0 0 H.size) mw_X4_stops md_X4_stops rfl lk_X4_99 ⟨Nat.le_of_ble_eq_true rfl, Nat.le_of_ble_eq_true rfl⟩ hA hK hT B (by omega) mg_24 rfl rfl hl.1 rfl (Nat.le_of_ble_eq_true rfl) dX4_apart__21 ⟨Nat.le_of_ble_eq_true rfl, Nat.le_of_ble_eq_true rfl⟩) (Nat.le_of_ble_eq_true rfl) (Nat.le_of_ble_eq_true rfl) (fun r ad' f' H locs hw B => ?_)
      rw [st_00] at hw
      dsimp only at hw
      obtain ⟨rfl, rfl, rfl⟩ := hw
      have B : WB g (aw N ad sz) s.heap N ad (mg g ad y cr dr 0 kn rf pl pz mc) H locs := B
      refine lv_if_eq (tgt := 32) hx hb dX4_apart__24 (by decide) (fun _ => ?_) (fun z => absurd z (by decide))
      refine lv_aload_n hx hb dX4_apart__32 rfl (lv_at hl 0 rfl) ?_
      refine b_get (q := 24) (k := 3) hb0 X hK B rfl in_X4 (by omega) mg_24 (by decide) lk_X4_23 rfl rfl dX4_apart__33 ?_
      refine lv_iload_n hx hb dX4_apart__36 rfl (lv_at hl 1 rfl) ?_
      refine b_aald (q := 26) (t0 := 2) (v := ad (32 + a1.toNatClampNeg)) rfl X hK B (by omega) mg_26 rfl rfl (no_in c2) rfl dX4_apart__37 ?_
      have g5 : a1.toNatClampNeg < 4 := (no_lt c2)
      refine lv_aload_n hx hb dX4_apart__38 rfl (lv_at hl 0 rfl) ?_
      refine b_get (q := 24) (k := 3) hb0 X hK B rfl in_X4 (by omega) mg_24 (by decide) lk_X4_23 rfl rfl dX4_apart__39 ?_
      refine lv_iload_n hx hb dX4_apart__42 rfl (lv_at hl 2 rfl) ?_
      refine b_aald (q := 26) (t0 := 2) (v := ad (32 + a2.toNatClampNeg)) rfl X hK B (by omega) mg_26 rfl rfl (no_in c4) rfl dX4_apart__43 ?_
      have g6 : a2.toNatClampNeg < 4 := (no_lt c4)
      refine k_r (k := 2) (n := 6) hA B (u_S (rest := []) X (c_X4_apart l g N ad (mg g ad y cr dr 0 kn rf pl pz mc) (32 + a1.toNatClampNeg) (ad (32 + a1.toNatClampNeg)) (dr a1.toNatClampNeg) (pl_dr hN g5) rfl (mg_dr g5) (32 + a2.toNatClampNeg) (ad (32 + a2.toNatClampNeg)) (dr a2.toNatClampNeg) (pl_dr hN g6) rfl (mg_dr g6) (hdr _ g5) (hdr _ g6) H.size) mw_X4_apart md_X4_apart rfl lk_X4_219 ⟨Nat.le_of_ble_eq_true rfl, Nat.le_of_ble_eq_true rfl⟩ hA hK hT B hl.1 rfl (Nat.le_of_ble_eq_true rfl) dX4_apart__44 ⟨Nat.le_of_ble_eq_true rfl, Nat.le_of_ble_eq_true rfl⟩) (Nat.le_of_ble_eq_true rfl) (Nat.le_of_ble_eq_true rfl) (fun r7 ad7 f' H locs hw B => ?_)
      generalize o8 : (v_X4_apart (dr a1.toNatClampNeg) (dr a2.toNatClampNeg)) = v9 at hw B
      cases v9 with
      | none =>
        obtain ⟨rfl, rfl, rfl⟩ := pw_n hw
        refine k_r (k := 2) (n := 6) hA B (u_S (rest := []) X (c_W_toldN l g N ad (mg g ad y cr dr 0 kn rf pl pz mc) H.size) mw_X4_told md_X4_told rfl lk_X4_145 ⟨Nat.le_of_ble_eq_true rfl, Nat.le_of_ble_eq_true rfl⟩ hA hK hT B hl.1 rfl (Nat.le_of_ble_eq_true rfl) dX4_apart__47 ⟨Nat.le_of_ble_eq_true rfl, Nat.le_of_ble_eq_true rfl⟩) (Nat.le_of_ble_eq_true rfl) (Nat.le_of_ble_eq_true rfl) (fun r ad' f' H locs hw B => ?_)
        obtain ⟨rfl, rfl, rfl⟩ := hw
        have ev := (show v_X4_apart_ dr a1 a2 = 0 from by unfold v_X4_apart_; rw [if_pos c2, if_pos c4, om_none o8])
        exact rt_r (r := some (g.2.2 (100 + 10))) rfl X hr (Or.inl ⟨_, rfl⟩) (ad, mg g ad y cr dr 0 kn rf pl pz mc) B (PO_of B) ⟨rfl, ⟨_, rfl⟩, by rw [ev]⟩ (Nat.le_of_ble_eq_true rfl) (Nat.le_of_ble_eq_true rfl) dX4_apart__50
      | some t8 =>
        obtain ⟨z8, rfl, rfl, rfl⟩ := pw_s hw
        have B : WB g (aw N ad sz) s.heap (N + 1) (va_up ad N z8) (mg g (va_up ad N z8) (va_up y N (c_row g t8)) cr dr 0 kn rf pl pz mc) H locs := WM_push (by omega) B
        refine k_r (k := 8) (n := 172) hA B (u_S (rest := []) X (c_W_told l g (N + 1) (va_up ad N z8) (mg g (va_up ad N z8) (va_up y N (c_row g t8)) cr dr 0 kn rf pl pz mc) N z8 t8 (Nat.lt_succ_self _) up_eq ((mg_hi (by omega)).trans up_eq) H.size) mw_X4_told md_X4_told rfl lk_X4_145 ⟨Nat.le_of_ble_eq_true rfl, Nat.le_of_ble_eq_true rfl⟩ hA hK hT B hl.1 rfl (Nat.le_of_ble_eq_true rfl) dX4_apart__47 ⟨Nat.le_of_ble_eq_true rfl, Nat.le_of_ble_eq_true rfl⟩) (Nat.le_of_ble_eq_true rfl) (Nat.le_of_ble_eq_true rfl) (fun r ad' f' H locs hw B => ?_)
        obtain ⟨a9, a9x, h9, hF9, rfl, rfl, rfl⟩ := hw
        have B : WB g (aw N ad sz) s.heap (N + 1 + 1 + 1) (va_up (va_up (va_up ad N z8) (N + 1) a9) (N + 1 + 1) a9x) (mg g (va_up (va_up (va_up ad N z8) (N + 1) a9) (N + 1 + 1) a9x) (va_up (va_up (va_up y N (c_row g t8)) (N + 1) (c_st a9x)) (N + 1 + 1) (c_ba g (tlen t8) h9)) cr dr 0 kn rf pl pz mc) H locs := WM_push2 (by omega) B
        have B : WB g (aw N ad sz) s.heap N ad (mg g ad y cr dr 0 kn rf pl pz mc) H locs := WM_drop B (by omega) (by omega) (fun _ hk => (((up_lt (Nat.lt_succ_of_lt (Nat.lt_succ_of_lt hk))).trans (up_lt (Nat.lt_succ_of_lt hk))).trans (up_lt hk))) (fun _ hk => (((up_lt (Nat.lt_succ_of_lt (Nat.lt_succ_of_lt hk))).trans (up_lt (Nat.lt_succ_of_lt hk))).trans (up_lt hk)))
        have ev := (show v_X4_apart_ dr a1 a2 = 0 from by unfold v_X4_apart_; rw [if_pos c2, if_pos c4, om_some o8])
        exact rt_r (r := some (a9)) rfl X hr (Or.inl ⟨_, rfl⟩) (ad, mg g ad y cr dr 0 kn rf pl pz mc) B (PO_of B) ⟨rfl, ⟨_, rfl⟩, by rw [ev]⟩ (Nat.le_of_ble_eq_true rfl) (Nat.le_of_ble_eq_true rfl) dX4_apart__50
    · refine lv_iconst (v := 1) hx hb dX4_apart__15 (by decide) ?_
      refine lv_goto (tgt := 20) hx hb dX4_apart__16 (by decide) ?_
      refine lv_iconst (v := 0) hx hb dX4_apart__20 (by decide) ?_
      refine k_i (k := 0) (n := 0) hA B (b_V (q := 24) (rest := []) hb0 X (c_X4_stops l g N ad y cr dr th kn rf pl pz mc (by omega) b0 hb0 1 0 H.size) mw_X4_stops md_X4_stops rfl lk_X4_99 ⟨Nat.le_of_ble_eq_true rfl, Nat.le_of_ble_eq_true rfl⟩ hA hK hT B (by omega) mg_24 rfl rfl hl.1 rfl (Nat.le_of_ble_eq_true rfl) dX4_apart__21 ⟨Nat.le_of_ble_eq_true rfl, Nat.le_of_ble_eq_true rfl⟩) (Nat.le_of_ble_eq_true rfl) (Nat.le_of_ble_eq_true rfl) (fun r ad' f' H locs hw B => ?_)
      rw [st_10] at hw
      dsimp only at hw
      obtain ⟨rfl, rfl, rfl⟩ := hw
      have B : WB g (aw N ad sz) s.heap N ad (mg g ad y cr dr 1 kn rf pl pz mc) H locs := B
      refine lv_if_eq (tgt := 32) hx hb dX4_apart__24 (by decide) (fun z => absurd z (by decide)) (fun _ => ?_)
      refine b_ldc (i := 10) (by decide) rfl rfl X hT dX4_apart__27 ?_
      refine lv_goto (tgt := 50) hx hb dX4_apart__29 (by decide) ?_
      have ev := (show v_X4_apart_ dr a1 a2 = 1 from by unfold v_X4_apart_; rw [if_pos c2, if_neg c4])
      exact rt_r (r := some (g.2.2 (100 + 10))) rfl X hr (Or.inl ⟨_, rfl⟩) (ad, mg g ad y cr dr 1 kn rf pl pz mc) B (PO_of B) ⟨rfl, ⟨_, rfl⟩, by rw [ev]⟩ (Nat.le_of_ble_eq_true rfl) (Nat.le_of_ble_eq_true rfl) dX4_apart__50
def v_X4_total_ (a1 : Int32) : Int32 := if v_X4_isNone a1 = 0 then 0 else 1
set_option maxHeartbeats 4000000 in
set_option maxRecDepth 100000 in
theorem c_X4_total_ (l : Launch) (g : GG) (N : Nat) (ad : Nat → Nat) (y : Nat → va_E) (cr dr : Nat → TR) (th kn rf : Int32) (pl : Nat → TR) (pz : Nat) (mc : Int32) (hN : 36 + pz ≤ N) (b0 : Nat) (hb0 : ad 24 = b0) (a1 : Int32) : KR l yX4_total_ cX4_total_ 2 (.object "java/lang/String") (rm 6 4 36) g [.ref b0, .int a1] N ad (mg g ad y cr dr th kn rf pl pz mc) N (fun r ad' f' => ad = ad' ∧ (∃ a : Nat, some a = r) ∧ mg g ad y cr dr (v_X4_total_ a1) kn rf pl pz mc = f') := by
  intro sz
  refine mt_start (by decide) (Nat.le_of_ble_eq_true rfl) ?_
  intro p e s m args below meth c hsz X hr hnam hA hK hT H locs B ls hl
  obtain ⟨hx, hb, hml, hown, hts, hlocks⟩ := id X
  have hl : lv_has ls 2 [(0, .ref b0), (1, .int a1)] := hl
  refine lv_aload_n hx hb dX4_total__0 rfl (lv_at hl 0 rfl) ?_
  refine lv_iload_n hx hb dX4_total__1 rfl (lv_at hl 1 rfl) ?_
  refine k_i (k := 0) (n := 0) hA B (u_S (rest := [.ref b0]) X (c_X4_isNone l g N ad (mg g ad y cr dr th kn rf pl pz mc) a1 H.size) mw_X4_isNone md_X4_isNone rfl lk_X4_95 ⟨Nat.le_of_ble_eq_true rfl, Nat.le_of_ble_eq_true rfl⟩ hA hK hT B hl.1 rfl (Nat.le_of_ble_eq_true rfl) dX4_total__2 ⟨Nat.le_of_ble_eq_true rfl, Nat.le_of_ble_eq_true rfl⟩) (Nat.le_of_ble_eq_true rfl) (Nat.le_of_ble_eq_true rfl) (fun r1 ad1 f' H locs hw B => ?_)
  obtain ⟨rfl, rfl, rfl⟩ := hw
  refine lv_iconst (v := 0) hx hb dX4_total__5 (by decide) ?_
  by_cases s2 : v_X4_isNone a1 = 0
  · rw [s2]
    refine k_i (k := 0) (n := 0) hA B (b_V (q := 24) (rest := []) hb0 X (c_X4_stops l g N ad y cr dr th kn rf pl pz mc (by omega) b0 hb0 0 0 H.size) mw_X4_stops md_X4_stops rfl lk_X4_99 ⟨Nat.le_of_ble_eq_true rfl, Nat.le_of_ble_eq_true rfl⟩ hA hK hT B (by omega) mg_24 rfl rfl hl.1 rfl (Nat.le_of_ble_eq_true rfl) dX4_total__6 ⟨Nat.le_of_ble_eq_true rfl, Nat.le_of_ble_eq_true rfl⟩) (Nat.le_of_ble_eq_true rfl) (Nat.le_of_ble_eq_true rfl) (fun r ad' f' H locs hw B => ?_)
    rw [st_00] at hw
    dsimp only at hw
    obtain ⟨rfl, rfl, rfl⟩ := hw
    have B : WB g (aw N ad sz) s.heap N ad (mg g ad y cr dr 0 kn rf pl pz mc) H locs := B
    refine lv_if_eq (tgt := 17) hx hb dX4_total__9 (by decide) (fun _ => ?_) (fun z => absurd z (by decide))
    refine g_new (ci := 1) (fs := [.null, .int 0, .int 0, .int 0]) (k1 := 1) (k2 := 4) X hA hK B rfl in_J4 tyJ4_ok lk_X4_63 (tb_in (lw_at 113 (by decide +kernel)) rfl) ii_J4 (by decide +kernel) (Nat.le_of_ble_eq_true rfl) (Nat.le_of_ble_eq_true rfl) (Nat.le_of_ble_eq_true rfl) (Nat.le_of_ble_eq_true rfl) dX4_total__17 (fun z3 H B => ?_)
    have B : WB g (aw N ad sz) s.heap (N + 1) (va_up ad N z3) (mg g (va_up ad N z3) (va_up y N (.inr (1, [.null, .int 0, .int 0, .int 0]))) cr dr 0 kn rf pl pz mc) H locs := WM_push (by omega) B
    refine lv_dup hx hb dX4_total__20 rfl ?_
    refine k_v (k := 2) (n := 20) hA B (b_I (rest := [.ref z3]) X (c_S_new l g (N + 1) (va_up ad N z3) (mg g (va_up ad N z3) (va_up y N (.inr (1, [.null, .int 0, .int 0, .int 0]))) cr dr 0 kn rf pl pz mc) N z3 (by omega) up_eq ((mg_hi (by omega)).trans up_eq) H.size) mw_J4_init_da8c8 rfl md_J4_init_da8c8 rfl lk_X4_65 ⟨Nat.le_of_ble_eq_true rfl, Nat.le_of_ble_eq_true rfl⟩ hA hK hT B hl.1 rfl (Nat.le_of_ble_eq_true rfl) dX4_total__21 ⟨Nat.le_of_ble_eq_true rfl, Nat.le_of_ble_eq_true rfl⟩) (Nat.le_of_ble_eq_true rfl) (Nat.le_of_ble_eq_true rfl) (fun ad' f' H locs hw B => ?_)
    obtain ⟨v4, rfl, rfl⟩ := hw
    have B := WM_up2 (by omega) (by omega) B (fun j hj => up_lt (by omega))
    rw [bx_uu] at B
    have B : WB g (aw N ad sz) s.heap (N + 1 + 1) (va_up (va_up ad N z3) (N + 1) v4) (mg g (va_up (va_up ad N z3) (N + 1) v4) (va_up (va_up y N (c_sb v4 0 0)) (N + 1) (c_ba g 16 (fun _ => 0))) cr dr 0 kn rf pl pz mc) H locs := B
    refine b_ldc (i := 10) (by decide) rfl rfl X hT dX4_total__24 ?_
    have hkk5 : st_len.getD 10 0 = 0 := rfl
    obtain ⟨e5a, e5b, e5c⟩ := g_no (q := (0 + st_len.getD 10 0)) (m := 16) (by omega)
    refine k_r (k := 2) (n := 20) hA B (b_V (q := N) (rest := []) ((up_lt (by omega)).trans up_eq) X (c_S_appK l g (N + 1 + 1) (va_up (va_up ad N z3) (N + 1) v4) (mg g (va_up (va_up ad N z3) (N + 1) v4) (va_up (va_up y N (c_sb v4 0 0)) (N + 1) (c_ba g 16 (fun _ => 0))) cr dr 0 kn rf pl pz mc) N (N + 1) z3 v4 0 16 0 (fun _ => 0) (by omega) (by omega) (by omega) ((up_lt (by omega)).trans up_eq) up_eq ((mg_hi (by omega)).trans ((up_lt (by omega)).trans up_eq)) ((mg_hi (by omega)).trans up_eq) sb_fit0 (by omega) (by omega) 10 (by decide) (by omega) H.size) mw_J4_append_15ec4 md_J4_append_15ec4 rfl lk_X4_72 ⟨Nat.le_of_ble_eq_true rfl, Nat.le_of_ble_eq_true rfl⟩ hA hK hT B (by omega) ((mg_hi (by omega)).trans ((up_lt (by omega)).trans up_eq)) rfl rfl hl.1 rfl (Nat.le_of_ble_eq_true rfl) dX4_total__26 (by dsimp only [rm]; omega)) (by dsimp only [rm]; omega) (by dsimp only [rm]; omega) (fun r ad' f' H locs hw B => ?_)
    obtain ⟨v5, h5, hF5, rfl, rfl, rfl⟩ := hw
    have B := WM_up2 (by omega) (by omega) B (fun j hj => va_up_ne _ _ (by omega))
    rw [bx_uu, sw_4 (by omega), e5a] at B
    have B : WB g (aw N ad sz) s.heap (N + 1 + 1) (va_up (va_up ad N z3) (N + 1) v5) (mg g (va_up (va_up ad N z3) (N + 1) v5) (va_up (va_up y N (c_sb v5 0 (0 + st_len.getD 10 0))) (N + 1) (c_ba g 16 h5)) cr dr 0 kn rf pl pz mc) H locs := B
    refine lv_aload_n hx hb dX4_total__29 rfl (lv_at hl 0 rfl) ?_
    refine b_get (q := 24) (k := 1) ((up_lt (by omega)).trans ((up_lt (by omega)).trans hb0)) X hK B rfl in_X4 (by omega) mg_24 (by decide) lk_X4_11 rfl rfl dX4_total__30 ?_
    refine lv_iload_n hx hb dX4_total__33 rfl (lv_at hl 1 rfl) ?_
    refine b_aald (q := 25) (t0 := 2) (v := (va_up (va_up ad N z3) (N + 1) v5) (28 + a1.toNatClampNeg)) rfl X hK B (by omega) mg_25 rfl rfl (no_in s2) rfl dX4_total__34 ?_
    have g6 : a1.toNatClampNeg < 4 := (no_lt s2)
    rw [show (va_up (va_up ad N z3) (N + 1) v5) (28 + a1.toNatClampNeg) = ad (28 + a1.toNatClampNeg) from ((up_lt (by omega)).trans (up_lt (by omega)))]
    refine k_l (k := 2) (n := 20) hA B (u_S (rest := [.ref z3]) X (c_X4_total l g (N + 1 + 1) (va_up (va_up ad N z3) (N + 1) v5) (mg g (va_up (va_up ad N z3) (N + 1) v5) (va_up (va_up y N (c_sb v5 0 (0 + st_len.getD 10 0))) (N + 1) (c_ba g 16 h5)) cr dr 0 kn rf pl pz mc) (28 + a1.toNatClampNeg) (ad (28 + a1.toNatClampNeg)) (cr a1.toNatClampNeg) (Nat.lt_succ_of_lt (Nat.lt_succ_of_lt (pl_cr hN g6))) ((up_lt (Nat.lt_succ_of_lt (pl_cr hN g6))).trans ((up_lt (pl_cr hN g6)).trans rfl)) (mg_cr g6) H.size) mw_X4_total md_X4_total rfl lk_X4_43 ⟨Nat.le_of_ble_eq_true rfl, Nat.le_of_ble_eq_true rfl⟩ hA hK hT B hl.1 rfl (Nat.le_of_ble_eq_true rfl) dX4_total__35 ⟨Nat.le_of_ble_eq_true rfl, Nat.le_of_ble_eq_true rfl⟩) (Nat.le_of_ble_eq_true rfl) (Nat.le_of_ble_eq_true rfl) (fun r7 ad7 f' H locs hw B => ?_)
    obtain ⟨rfl, rfl, rfl⟩ := hw
    have hz8 := tot_sz (cr a1.toNatClampNeg)
    obtain ⟨e8a, e8b, e8c⟩ := g_no (q := ((0 + st_len.getD 10 0) + ssl (v_X4_total (cr a1.toNatClampNeg)))) (m := 16) (by omega)
    refine k_r (k := 2) (n := 20) hA B (b_V (q := N) (rest := []) ((up_lt (by omega)).trans up_eq) X (c_S_appJ l g (N + 1 + 1) (va_up (va_up ad N z3) (N + 1) v5) (mg g (va_up (va_up ad N z3) (N + 1) v5) (va_up (va_up y N (c_sb v5 0 (0 + st_len.getD 10 0))) (N + 1) (c_ba g 16 h5)) cr dr 0 kn rf pl pz mc) N (N + 1) z3 v5 (0 + st_len.getD 10 0) 16 0 h5 (by omega) (by omega) (by omega) ((up_lt (by omega)).trans up_eq) up_eq ((mg_hi (by omega)).trans ((up_lt (by omega)).trans up_eq)) ((mg_hi (by omega)).trans up_eq) hF5 (by omega) (by omega) (v_X4_total (cr a1.toNatClampNeg)) (by omega) H.size) mw_J4_append_f7089 md_J4_append_f7089 rfl lk_X4_153 ⟨Nat.le_of_ble_eq_true rfl, Nat.le_of_ble_eq_true rfl⟩ hA hK hT B (by omega) ((mg_hi (by omega)).trans ((up_lt (by omega)).trans up_eq)) rfl rfl hl.1 rfl (Nat.le_of_ble_eq_true rfl) dX4_total__38 (by dsimp only [rm]; omega)) (by dsimp only [rm]; omega) (by dsimp only [rm]; omega) (fun r ad' f' H locs hw B => ?_)
    obtain ⟨v8, h8, hF8, rfl, rfl, rfl⟩ := hw
    have B := WM_up2 (by omega) (by omega) B (fun j hj => va_up_ne _ _ (by omega))
    rw [bx_uu, sw_4 (by omega), e8a] at B
    have B : WB g (aw N ad sz) s.heap (N + 1 + 1) (va_up (va_up ad N z3) (N + 1) v8) (mg g (va_up (va_up ad N z3) (N + 1) v8) (va_up (va_up y N (c_sb v8 0 ((0 + st_len.getD 10 0) + ssl (v_X4_total (cr a1.toNatClampNeg))))) (N + 1) (c_ba g 16 h8)) cr dr 0 kn rf pl pz mc) H locs := B
    refine k_r (k := 4) (n := 36) hA B (b_V (q := N) (rest := []) ((up_lt (by omega)).trans up_eq) X (c_S_toS l g (N + 1 + 1) (va_up (va_up ad N z3) (N + 1) v8) (mg g (va_up (va_up ad N z3) (N + 1) v8) (va_up (va_up y N (c_sb v8 0 ((0 + st_len.getD 10 0) + ssl (v_X4_total (cr a1.toNatClampNeg))))) (N + 1) (c_ba g 16 h8)) cr dr 0 kn rf pl pz mc) N (N + 1) z3 v8 ((0 + st_len.getD 10 0) + ssl (v_X4_total (cr a1.toNatClampNeg))) 16 0 h8 (by omega) (by omega) (by omega) ((up_lt (by omega)).trans up_eq) up_eq ((mg_hi (by omega)).trans ((up_lt (by omega)).trans up_eq)) ((mg_hi (by omega)).trans up_eq) hF8 (by omega) (by omega) H.size) mw_J4_toString_0e30d md_J4_toString_0e30d rfl lk_X4_79 ⟨Nat.le_of_ble_eq_true rfl, Nat.le_of_ble_eq_true rfl⟩ hA hK hT B (by omega) ((mg_hi (by omega)).trans ((up_lt (by omega)).trans up_eq)) rfl rfl hl.1 rfl (Nat.le_of_ble_eq_true rfl) dX4_total__41 (by dsimp only [rm]; omega)) (by dsimp only [rm]; omega) (by dsimp only [rm]; omega) (fun r ad' f' H locs hw B => ?_)
    obtain ⟨a9, a9x, h9, hF9, rfl, rfl, rfl⟩ := hw
    have B : WB g (aw N ad sz) s.heap (N + 1 + 1 + 1 + 1) (va_up (va_up (va_up (va_up ad N z3) (N + 1) v8) (N + 1 + 1) a9) (N + 1 + 1 + 1) a9x) (mg g (va_up (va_up (va_up (va_up ad N z3) (N + 1) v8) (N + 1 + 1) a9) (N + 1 + 1 + 1) a9x) (va_up (va_up (va_up (va_up y N (c_sb v8 0 ((0 + st_len.getD 10 0) + ssl (v_X4_total (cr a1.toNatClampNeg))))) (N + 1) (c_ba g 16 h8)) (N + 1 + 1) (c_st a9x)) (N + 1 + 1 + 1) (c_ba g ((0 + st_len.getD 10 0) + ssl (v_X4_total (cr a1.toNatClampNeg))) h9)) cr dr 0 kn rf pl pz mc) H locs := WM_push2 (by omega) B
    have B : WB g (aw N ad sz) s.heap N ad (mg g ad y cr dr 0 kn rf pl pz mc) H locs := WM_drop B (by omega) (by omega) (fun _ hk => ((((up_lt (Nat.lt_succ_of_lt (Nat.lt_succ_of_lt (Nat.lt_succ_of_lt hk)))).trans (up_lt (Nat.lt_succ_of_lt (Nat.lt_succ_of_lt hk)))).trans (up_lt (Nat.lt_succ_of_lt hk))).trans (up_lt hk))) (fun _ hk => ((((up_lt (Nat.lt_succ_of_lt (Nat.lt_succ_of_lt (Nat.lt_succ_of_lt hk)))).trans (up_lt (Nat.lt_succ_of_lt (Nat.lt_succ_of_lt hk)))).trans (up_lt (Nat.lt_succ_of_lt hk))).trans (up_lt hk)))
    have ev := (show v_X4_total_ a1 = 0 from by unfold v_X4_total_; rw [if_pos s2])
    exact rt_r (r := some (a9)) rfl X hr (Or.inl ⟨_, rfl⟩) (ad, mg g ad y cr dr 0 kn rf pl pz mc) B (PO_of B) ⟨rfl, ⟨_, rfl⟩, by rw [ev]⟩ (Nat.le_of_ble_eq_true rfl) (Nat.le_of_ble_eq_true rfl) dX4_total__44
  · have s2x : (v_X4_isNone a1) = 1 := (b01_X4_isNone).resolve_left s2
    rw [s2x]
    refine k_i (k := 0) (n := 0) hA B (b_V (q := 24) (rest := []) hb0 X (c_X4_stops l g N ad y cr dr th kn rf pl pz mc (by omega) b0 hb0 1 0 H.size) mw_X4_stops md_X4_stops rfl lk_X4_99 ⟨Nat.le_of_ble_eq_true rfl, Nat.le_of_ble_eq_true rfl⟩ hA hK hT B (by omega) mg_24 rfl rfl hl.1 rfl (Nat.le_of_ble_eq_true rfl) dX4_total__6 ⟨Nat.le_of_ble_eq_true rfl, Nat.le_of_ble_eq_true rfl⟩) (Nat.le_of_ble_eq_true rfl) (Nat.le_of_ble_eq_true rfl) (fun r ad' f' H locs hw B => ?_)
    rw [st_10] at hw
    dsimp only at hw
    obtain ⟨rfl, rfl, rfl⟩ := hw
    have B : WB g (aw N ad sz) s.heap N ad (mg g ad y cr dr 1 kn rf pl pz mc) H locs := B
    refine lv_if_eq (tgt := 17) hx hb dX4_total__9 (by decide) (fun z => absurd z (by decide)) (fun _ => ?_)
    refine b_ldc (i := 10) (by decide) rfl rfl X hT dX4_total__12 ?_
    refine lv_goto (tgt := 44) hx hb dX4_total__14 (by decide) ?_
    have ev := (show v_X4_total_ a1 = 1 from by unfold v_X4_total_; rw [if_neg s2])
    exact rt_r (r := some (g.2.2 (100 + 10))) rfl X hr (Or.inl ⟨_, rfl⟩) (ad, mg g ad y cr dr 1 kn rf pl pz mc) B (PO_of B) ⟨rfl, ⟨_, rfl⟩, by rw [ev]⟩ (Nat.le_of_ble_eq_true rfl) (Nat.le_of_ble_eq_true rfl) dX4_total__44
end
