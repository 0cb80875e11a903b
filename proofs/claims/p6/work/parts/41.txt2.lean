set_option maxHeartbeats 4000000 in
theorem c_T_chk (l : Launch) (g : GG) (N : Nat) (ad : Nat → Nat) (f : Nat → va_E) (n : Nat) (hn : n ≤ 150) : KV l yJ7_checkLength_df160 cJ7_checkLength_df160 2 (rm 0 0 0) g [.int 0, .int (nI n)] N ad f N (fun ad' f' => ad = ad' ∧ f = f') := by
  intro sz
  refine mt_start (by decide) (Nat.le_of_ble_eq_true rfl) ?_
  intro p e0 s m9 args below meth c hsz X hr hnam hA hK hT H locs B ls hl
  obtain ⟨hx, hb, hml, hown, hts, hlocks⟩ := id X
  have hl : lv_has ls 2 [(0, .int 0), (1, .int (nI n))] := hl
  refine lv_iload_n hx hb dJ7_checkLength_df160_0 rfl (lv_at hl 1 rfl) ?_
  refine lv_iload_n hx hb dJ7_checkLength_df160_1 rfl (lv_at hl 0 rfl) ?_
  refine lv_icmp_ge (tgt := 37) hx hb dJ7_checkLength_df160_2 (by decide) (fun _ => ?_) (fun z => absurd (nI_pos' (by omega)) z)
  exact rt_v X hr (ad, f) B (PO_of B) ⟨rfl, rfl⟩ (by dsimp only [rm]; omega) (by dsimp only [rm]; omega) dJ7_checkLength_df160_37
set_option maxHeartbeats 4000000 in
theorem c_T_cpRB (l : Launch) (g : GG) (N : Nat) (ad : Nat → Nat) (f : Nat → va_E) (qb b m : Nat) (h : Nat → Int32) (hqb : qb < N) (hbb : ad qb = b) (hfb : f qb = c_ba g m h) (hF : sb_Fit h) (hm : m ≤ 150) (n : Nat) (hnm : n ≤ m) : KR l yJ7_copyOfRangeByte_39247 cJ7_copyOfRangeByte_39247 5 (.array .byte) (rm 1 1 n) g [.ref b, .int 0, .int (nI n)] N ad f (N + 1) (fun r ad' f' => ∃ (a : Nat) (h' : Nat → Int32), sb_Fit h' ∧ some a = r ∧ va_up ad N a = ad' ∧ va_up f N (c_ba g n h') = f') := by
  intro sz
  refine mt_start (by decide) (Nat.le_of_ble_eq_true rfl) ?_
  intro p e0 s m9 args below meth c hsz X hr hnam hA hK hT H locs B ls hl
  obtain ⟨hx, hb, hml, hown, hts, hlocks⟩ := id X
  have hl : lv_has ls 5 [(0, .ref b), (1, .int 0), (2, .int (nI n))] := hl
  refine lv_iload_n hx hb dJ7_copyOfRangeByte_39247_0 rfl (lv_at hl 1 rfl) ?_
  refine lv_iload_n hx hb dJ7_copyOfRangeByte_39247_1 rfl (lv_at hl 2 rfl) ?_
  refine k_v (k := (0)) (n := (0)) hA B (u_S (rest := []) X (c_T_chk l g N ad f n (by omega) H.size) mw_J7_checkLength_df160 md_J7_checkLength_df160 rfl lk_J7_343 ⟨Nat.le_of_ble_eq_true rfl, Nat.le_of_ble_eq_true rfl⟩ hA hK hT B hl.1 rfl (Nat.le_of_ble_eq_true rfl) dJ7_copyOfRangeByte_39247_2 (by dsimp only [rm]; omega)) (by dsimp only [rm]; omega) (by dsimp only [rm]; omega) (fun ad' f' H locs hw B => ?_)
  obtain ⟨rfl, rfl⟩ := hw
  refine lv_iload_n hx hb dJ7_copyOfRangeByte_39247_5 rfl (lv_at hl 2 rfl) ?_
  refine lv_iload_n hx hb dJ7_copyOfRangeByte_39247_6 rfl (lv_at hl 1 rfl) ?_
  refine lv_isub hx hb dJ7_copyOfRangeByte_39247_7 ?_
  rw [n_0]
  refine lv_istore_n (lv' := [(3, .int (nI n)), (0, .ref b), (1, .int 0), (2, .int (nI n))]) hx hb dJ7_copyOfRangeByte_39247_8 rfl hl (by decide) rfl (fun ls hl => ?_)
  refine lv_iload_n hx hb dJ7_copyOfRangeByte_39247_9 rfl (lv_at hl 0 rfl) ?_
  refine b_newb (k := n) (cz := ((0) + 1)) (sz := ((0) + n)) X hA hK B (nI_pos (by omega)) (nI_clamp (by omega)) (by omega) (by dsimp only [rm]; omega) (by dsimp only [rm]; omega) (Nat.le_refl _) (Nat.le_refl _) dJ7_copyOfRangeByte_39247_10 (fun z1 H B => ?_)
  refine W.widen (show ((0) + 1) ≤ (1) by omega) (show ((0) + n) ≤ (0 + n) by omega) ?_
  refine lv_astore (lv' := [(4, .ref z1), (3, .int (nI n)), (0, .ref b), (1, .int 0), (2, .int (nI n))]) hx hb dJ7_copyOfRangeByte_39247_12 hl (by decide) rfl (fun ls hl => ?_)
  refine lv_aload_n hx hb dJ7_copyOfRangeByte_39247_14 rfl (lv_at hl 2 rfl) ?_
  refine lv_iload_n hx hb dJ7_copyOfRangeByte_39247_15 rfl (lv_at hl 3 rfl) ?_
  refine lv_aload hx hb dJ7_copyOfRangeByte_39247_16 (lv_at hl 0 rfl) ?_
  refine lv_iconst (v := 0) hx hb dJ7_copyOfRangeByte_39247_18 (by decide) ?_
  refine lv_aload_n hx hb dJ7_copyOfRangeByte_39247_19 rfl (lv_at hl 2 rfl) ?_
  refine b_alen (t0 := 1) (v := nI m) ((up_lt hqb).trans hbb) X hK B (Nat.lt_succ_of_lt hqb) ((up_lt hqb).trans hfb) rfl rfl dJ7_copyOfRangeByte_39247_20 ?_
  refine lv_iload_n hx hb dJ7_copyOfRangeByte_39247_21 rfl (lv_at hl 3 rfl) ?_
  refine lv_isub hx hb dJ7_copyOfRangeByte_39247_22 ?_
  rw [n_0]
  refine lv_iload_n hx hb dJ7_copyOfRangeByte_39247_23 rfl (lv_at hl 1 rfl) ?_
  refine va_mmin (R := (rm 1 1 n)) (cells := (1)) (slots := (0 + n)) (rest := [.int 0, .ref z1, .int 0, .ref b]) hx hb (by rw [hml]; exact hl.1.symm) hown (hts _ (List.mem_cons_of_mem _ lk_J7_304)) (hts _ (List.mem_cons_of_mem _ mw_min.2.1)) (hts _ (List.mem_cons_of_mem _ mw_min.2.2)) (hts _ (List.mem_cons_of_mem _ mw_min.1)) (Nat.le_of_ble_eq_true rfl) (Nat.le_of_ble_eq_true rfl) (by dsimp only [rm]; omega) (by dsimp only [rm]; omega) dJ7_copyOfRangeByte_39247_24 ?_
  rw [n_mn hnm (by omega)]
  refine b_copyb (q0 := qb) (q1 := N) (rest := []) ((up_lt hqb).trans hbb) up_eq X hl.1 lk_J7_150 hK B (Nat.lt_succ_of_lt hqb) (Nat.lt_succ_self _) ((up_lt hqb).trans hfb) up_eq hF (by decide) (by decide) (nI_pos (by omega)) (by rw [sb_cl0, nI_clamp (by omega)]; omega) (by rw [sb_cl0, nI_clamp (by omega)]; omega) (Nat.le_of_ble_eq_true rfl) (Nat.le_of_ble_eq_true rfl) dJ7_copyOfRangeByte_39247_27 (fun H locs B => ?_)
  rw [bx_uu] at B
  have B : WB g (aw N ad sz) s.heap (N + 1) (va_up ad N z1) (va_up f N (c_ba g n (va_cpy h (fun _ => 0) (0 : Int32).toNatClampNeg (0 : Int32).toNatClampNeg (nI n).toNatClampNeg))) H locs := B
  refine lv_aload hx hb dJ7_copyOfRangeByte_39247_30 (lv_at hl 0 rfl) ?_
  exact rt_r (r := some z1) rfl X hr (Or.inr ⟨_, rfl⟩) (va_up ad N z1, va_up f N (c_ba g n (va_cpy h (fun _ => 0) (0 : Int32).toNatClampNeg (0 : Int32).toNatClampNeg (nI n).toNatClampNeg))) B (PO_of B) ⟨_, _, sb_fitC hF sb_fit0, rfl, rfl, rfl⟩ (by dsimp only [rm]; omega) (by dsimp only [rm]; omega) dJ7_copyOfRangeByte_39247_32
set_option maxHeartbeats 4000000 in
theorem c_T_cpR (l : Launch) (g : GG) (N : Nat) (ad : Nat → Nat) (f : Nat → va_E) (qb b m : Nat) (h : Nat → Int32) (hqb : qb < N) (hbb : ad qb = b) (hfb : f qb = c_ba g m h) (hF : sb_Fit h) (hm : m ≤ 150) (n : Nat) (hnm : n ≤ m) : KR l yJ7_copyOfRange_39247 cJ7_copyOfRange_39247 3 (.array .byte) (rm 2 1 n) g [.ref b, .int 0, .int (nI n)] N ad f (N + 1) (fun r ad' f' => ∃ (a : Nat) (h' : Nat → Int32), sb_Fit h' ∧ some a = r ∧ va_up ad N a = ad' ∧ va_up f N (c_ba g n h') = f') := by
  intro sz
  refine mt_start (by decide) (Nat.le_of_ble_eq_true rfl) ?_
  intro p e0 s m9 args below meth c hsz X hr hnam hA hK hT H locs B ls hl
  obtain ⟨hx, hb, hml, hown, hts, hlocks⟩ := id X
  have hl : lv_has ls 3 [(0, .ref b), (1, .int 0), (2, .int (nI n))] := hl
  refine lv_iload_n hx hb dJ7_copyOfRange_39247_0 rfl (lv_at hl 1 rfl) ?_
  refine lv_if_ne (tgt := 10) hx hb dJ7_copyOfRange_39247_1 (by decide) (fun z => absurd z (by decide)) (fun _ => ?_)
  refine lv_iload_n hx hb dJ7_copyOfRange_39247_4 rfl (lv_at hl 2 rfl) ?_
  refine lv_aload_n hx hb dJ7_copyOfRange_39247_5 rfl (lv_at hl 0 rfl) ?_
  refine b_alen (t0 := 1) (v := nI m) hbb X hK B hqb hfb rfl rfl dJ7_copyOfRange_39247_6 ?_
  refine lv_icmp_eq (tgt := 17) hx hb dJ7_copyOfRange_39247_7 (by decide) (fun c1 => ?_) (fun c1 => ?_)
  · have e1 : n = m := (nI_eq (by omega) (by omega)).mp c1
    refine lv_aload_n hx hb dJ7_copyOfRange_39247_17 rfl (lv_at hl 0 rfl) ?_
    refine b_clone (R := (rm 2 1 n)) (q := qb) (cz := ((0) + 1)) (sz := ((0) + m)) (rest := []) hbb X hl.1 lk_J7_310 hA hK hT B hqb hfb hF (Nat.le_of_ble_eq_true rfl) (Nat.le_of_ble_eq_true rfl) (by dsimp only [rm]; omega) (by dsimp only [rm]; omega) (Nat.le_refl _) (Nat.le_refl _) dJ7_copyOfRange_39247_18 (fun z2 H B => ?_)
    refine W.widen (show ((0) + 1) ≤ (1) by omega) (show ((0) + m) ≤ (0 + m) by omega) ?_
    refine b_castB (q := N) up_eq X hK B (Nat.lt_succ_self _) up_eq lk_J7_311 dJ7_copyOfRange_39247_21 ?_
    exact rt_r (r := some z2) rfl X hr (Or.inr ⟨_, rfl⟩) (va_up ad N z2, va_up f N (c_ba g m h)) B (PO_of B) ⟨_, _, hF, rfl, rfl, by rw [e1]⟩ (by dsimp only [rm]; omega) (by dsimp only [rm]; omega) dJ7_copyOfRange_39247_24
  · refine lv_aload_n hx hb dJ7_copyOfRange_39247_10 rfl (lv_at hl 0 rfl) ?_
    refine lv_iload_n hx hb dJ7_copyOfRange_39247_11 rfl (lv_at hl 1 rfl) ?_
    refine lv_iload_n hx hb dJ7_copyOfRange_39247_12 rfl (lv_at hl 2 rfl) ?_
    refine k_r (k := (0 + 1)) (n := (0 + n)) hA B (u_S (rest := []) X (c_T_cpRB l g N ad f qb b m h hqb hbb hfb hF hm n hnm H.size) mw_J7_copyOfRangeByte_39247 md_J7_copyOfRangeByte_39247 rfl lk_J7_339 ⟨Nat.le_of_ble_eq_true rfl, Nat.le_of_ble_eq_true rfl⟩ hA hK hT B hl.1 rfl (Nat.le_of_ble_eq_true rfl) dJ7_copyOfRange_39247_13 (by dsimp only [rm]; omega)) (by dsimp only [rm]; omega) (by dsimp only [rm]; omega) (fun r ad' f' H locs hw B => ?_)
    obtain ⟨a1, h1, hF1, rfl, rfl, rfl⟩ := hw
    exact rt_r (r := some a1) rfl X hr (Or.inr ⟨_, rfl⟩) (va_up ad N a1, va_up f N (c_ba g n h1)) B (PO_of B) ⟨_, _, hF1, rfl, rfl, rfl⟩ (by dsimp only [rm]; omega) (by dsimp only [rm]; omega) dJ7_copyOfRange_39247_16
set_option maxHeartbeats 4000000 in
theorem c_S_init2 (l : Launch) (g : GG) (N : Nat) (ad : Nat → Nat) (f : Nat → va_E) (qs qv bs v n m : Nat) (ml : Int32) (h : Nat → Int32) (hqs : qs < N) (hqv : qv < N) (hne : qs ≠ qv) (hbs : ad qs = bs) (hbv : ad qv = v) (hfs : f qs = c_sb v ml n) (hfv : f qv = c_ba g m h) (hF : sb_Fit h) (qn bn : Nat) (hqn : qn < N) (hbn : ad qn = bn) (hfn : f qn = .inr (0, [.null, .int 0, .int 0, .int 0])) (hn1 : qn ≠ qs) (hn2 : qn ≠ qv) (hnm : n ≤ m) (hm : m ≤ 150) : KV l yJ0_init_db425 cJ0_init_db425 5 (rm 3 1 n) g [.ref bn, .ref bs, .null] N ad f (N + 1) (fun ad' f' => ∃ (a : Nat) (h' : Nat → Int32), sb_Fit h' ∧ va_up ad N a = ad' ∧ va_up (va_up f qn (c_st a)) N (c_ba g n h') = f') := by
  intro sz
  refine mt_start (by decide) (Nat.le_of_ble_eq_true rfl) ?_
  intro p e0 s m9 args below meth c hsz X hr hnam hA hK hT H locs B ls hl
  obtain ⟨hx, hb, hml, hown, hts, hlocks⟩ := id X
  have hl : lv_has ls 5 [(0, .ref bn), (1, .ref bs), (2, .null)] := hl
  refine lv_aload_n hx hb dJ0_init_db425_0 rfl (lv_at hl 0 rfl) ?_
  refine b_obj (R := (rm 3 1 n)) (rest := []) X hl.1 lk_J0_1 dJ0_init_db425_1 (Nat.le_of_ble_eq_true rfl) (Nat.le_of_ble_eq_true rfl) ?_
  refine lv_aload_n hx hb dJ0_init_db425_4 rfl (lv_at hl 1 rfl) ?_
  refine k_r (k := (0)) (n := (0)) hA B (u_H (x := yJ5_getValue_6d5f1) (q := qs) (rest := []) hbs X (c_S_val l g N ad f qs qv bs v n m ml h hqs hqv hne hbs hbv hfs hfv hF H.size) mc_J5_getValue_6d5f1 ⟨mc_J5_getValue_6d5f1.1, mc_J5_getValue_6d5f1.2.1⟩ (tb_in (lw_at 328 (by decide +kernel)) rfl) (tb_in (lw_at 329 (by decide +kernel)) rfl) md_J5_getValue_6d5f1 rfl lk_J0_552 ⟨Nat.le_of_ble_eq_true rfl, Nat.le_of_ble_eq_true rfl⟩ hA hK hT B hqs hfs hl.1 rfl (Nat.le_of_ble_eq_true rfl) dJ0_init_db425_5 (by dsimp only [rm]; omega)) (by dsimp only [rm]; omega) (by dsimp only [rm]; omega) (fun r ad' f' H locs hw B => ?_)
  obtain ⟨rfl, rfl, rfl⟩ := hw
  refine lv_astore_n (lv' := [(3, .ref v), (0, .ref bn), (1, .ref bs), (2, .null)]) hx hb dJ0_init_db425_8 rfl hl (by decide) rfl (fun ls hl => ?_)
  refine lv_aload_n hx hb dJ0_init_db425_9 rfl (lv_at hl 2 rfl) ?_
  refine k_i (k := (0)) (n := (0)) hA B (u_H (x := yJ5_length_8abf5) (q := qs) (rest := []) hbs X (c_S_len l g N ad f qs qv bs v n m ml h hqs hqv hne hbs hbv hfs hfv hF H.size) mc_J4_length_8abf5 ⟨mc_J5_length_8abf5.1, mc_J5_length_8abf5.2.1⟩ (tb_in (lw_at 333 (by decide +kernel)) rfl) (tb_in (lw_at 334 (by decide +kernel)) rfl) md_J5_length_8abf5 rfl lk_J0_549 ⟨Nat.le_of_ble_eq_true rfl, Nat.le_of_ble_eq_true rfl⟩ hA hK hT B hqs hfs hl.1 rfl (Nat.le_of_ble_eq_true rfl) dJ0_init_db425_10 (by dsimp only [rm]; omega)) (by dsimp only [rm]; omega) (by dsimp only [rm]; omega) (fun r ad' f' H locs hw B => ?_)
  obtain ⟨rfl, rfl, rfl⟩ := hw
  refine lv_istore (lv' := [(4, .int (nI n)), (3, .ref v), (0, .ref bn), (1, .ref bs), (2, .null)]) hx hb dJ0_init_db425_13 hl (by decide) rfl (fun ls hl => ?_)
  refine lv_aload_n hx hb dJ0_init_db425_15 rfl (lv_at hl 3 rfl) ?_
  refine k_i (k := (0)) (n := (0)) hA B (u_H (x := yJ5_isLatin1_aae02) (q := qs) (rest := []) hbs X (c_S_lat l g N ad f qs qv bs v n m ml h hqs hqv hne hbs hbv hfs hfv hF H.size) mc_J5_isLatin1_aae02 ⟨mc_J5_isLatin1_aae02.1, mc_J5_isLatin1_aae02.2.1⟩ (tb_in (lw_at 191 (by decide +kernel)) rfl) (tb_in (lw_at 192 (by decide +kernel)) rfl) md_J5_isLatin1_aae02 rfl lk_J0_1047 ⟨Nat.le_of_ble_eq_true rfl, Nat.le_of_ble_eq_true rfl⟩ hA hK hT B hqs hfs hl.1 rfl (Nat.le_of_ble_eq_true rfl) dJ0_init_db425_16 (by dsimp only [rm]; omega)) (by dsimp only [rm]; omega) (by dsimp only [rm]; omega) (fun r ad' f' H locs hw B => ?_)
  obtain ⟨rfl, rfl, rfl⟩ := hw
  refine lv_if_eq (tgt := 41) hx hb dJ0_init_db425_19 (by decide) (fun z => absurd z (by decide)) (fun _ => ?_)
  refine lv_aload_n hx hb dJ0_init_db425_22 rfl (lv_at hl 2 rfl) ?_
  refine lv_iconst (v := 0) hx hb dJ0_init_db425_23 (by decide) ?_
  refine b_putF (q := qn) (k := 1) hbn X hnam hK B rfl in_J0 tyJ0_ok nmJ0 hqn hfn (by decide) lk_J0_15 rfl rfl rfl rfl rfl rfl (Nat.le_of_ble_eq_true rfl) dJ0_init_db425_24 (fun H locs B => ?_)
  have B : WB g (aw N ad sz) s.heap N ad (va_up f qn (.inr (0, [.null, .int 0, .int 0, .int 0]))) H locs := B
  refine lv_aload_n hx hb dJ0_init_db425_27 rfl (lv_at hl 2 rfl) ?_
  refine lv_aload_n hx hb dJ0_init_db425_28 rfl (lv_at hl 1 rfl) ?_
  refine lv_iconst (v := 0) hx hb dJ0_init_db425_29 (by decide) ?_
  refine lv_iload hx hb dJ0_init_db425_30 (lv_at hl 0 rfl) ?_
  refine k_r (k := (0 + 1)) (n := (0 + n)) hA B (u_S (rest := [.ref bn]) X (c_T_cpR l g N ad (va_up f qn (.inr (0, [.null, .int 0, .int 0, .int 0]))) qv v m h hqv hbv ((va_up_ne _ _ (fun z => hn2 z.symm)).trans hfv) hF hm n hnm H.size) mw_J7_copyOfRange_39247 md_J7_copyOfRange_39247 rfl lk_J0_54 ⟨Nat.le_of_ble_eq_true rfl, Nat.le_of_ble_eq_true rfl⟩ hA hK hT B hl.1 rfl (Nat.le_of_ble_eq_true rfl) dJ0_init_db425_32 (by dsimp only [rm]; omega)) (by dsimp only [rm]; omega) (by dsimp only [rm]; omega) (fun r ad' f' H locs hw B => ?_)
  obtain ⟨a1, h1, hF1, rfl, rfl, rfl⟩ := hw
  refine b_putF (q := qn) (k := 0) ((up_lt hqn).trans hbn) X hnam hK B rfl in_J0 tyJ0_ok nmJ0 (Nat.lt_succ_of_lt hqn) ((up_lt hqn).trans (va_up_self _ _ _)) (by decide) lk_J0_9 rfl rfl rfl rfl rfl rfl (Nat.le_of_ble_eq_true rfl) dJ0_init_db425_35 (fun H locs B => ?_)
  rw [sn_2 (by omega)] at B
  have B : WB g (aw N ad sz) s.heap (N + 1) (va_up ad N a1) (va_up (va_up f qn (.inr (0, [.ref a1, .int 0, .int 0, .int 0]))) N (c_ba g n h1)) H locs := B
  refine lv_goto (tgt := 97) hx hb dJ0_init_db425_38 (by decide) ?_
  exact rt_v X hr (va_up ad N a1, va_up (va_up f qn (.inr (0, [.ref a1, .int 0, .int 0, .int 0]))) N (c_ba g n h1)) B (PO_of B) ⟨_, _, hF1, rfl, rfl⟩ (by dsimp only [rm]; omega) (by dsimp only [rm]; omega) dJ0_init_db425_97
set_option maxHeartbeats 4000000 in
theorem c_S_init1 (l : Launch) (g : GG) (N : Nat) (ad : Nat → Nat) (f : Nat → va_E) (qs qv bs v n m : Nat) (ml : Int32) (h : Nat → Int32) (hqs : qs < N) (hqv : qv < N) (hne : qs ≠ qv) (hbs : ad qs = bs) (hbv : ad qv = v) (hfs : f qs = c_sb v ml n) (hfv : f qv = c_ba g m h) (hF : sb_Fit h) (qn bn : Nat) (hqn : qn < N) (hbn : ad qn = bn) (hfn : f qn = .inr (0, [.null, .int 0, .int 0, .int 0])) (hn1 : qn ≠ qs) (hn2 : qn ≠ qv) (hnm : n ≤ m) (hm : m ≤ 150) : KV l yJ0_init_81219 cJ0_init_81219 2 (rm 4 1 n) g [.ref bn, .ref bs] N ad f (N + 1) (fun ad' f' => ∃ (a : Nat) (h' : Nat → Int32), sb_Fit h' ∧ va_up ad N a = ad' ∧ va_up (va_up f qn (c_st a)) N (c_ba g n h') = f') := by
  intro sz
  refine mt_start (by decide) (Nat.le_of_ble_eq_true rfl) ?_
  intro p e0 s m9 args below meth c hsz X hr hnam hA hK hT H locs B ls hl
  obtain ⟨hx, hb, hml, hown, hts, hlocks⟩ := id X
  have hl : lv_has ls 2 [(0, .ref bn), (1, .ref bs)] := hl
  refine lv_aload_n hx hb dJ0_init_81219_0 rfl (lv_at hl 0 rfl) ?_
  refine lv_aload_n hx hb dJ0_init_81219_1 rfl (lv_at hl 1 rfl) ?_
  refine lv_null hx hb dJ0_init_81219_2 ?_
  refine k_v (k := (0 + 1)) (n := (0 + n)) hA B (b_I (rest := []) X (c_S_init2 l g N ad f qs qv bs v n m ml h hqs hqv hne hbs hbv hfs hfv hF qn bn hqn hbn hfn hn1 hn2 hnm hm H.size) mw_J0_init_db425 rfl md_J0_init_db425 rfl lk_J0_489 ⟨Nat.le_of_ble_eq_true rfl, Nat.le_of_ble_eq_true rfl⟩ hA hK hT B hl.1 rfl (Nat.le_of_ble_eq_true rfl) dJ0_init_81219_3 (by dsimp only [rm]; omega)) (by dsimp only [rm]; omega) (by dsimp only [rm]; omega) (fun ad' f' H locs hw B => ?_)
  obtain ⟨a1, h1, hF1, rfl, rfl⟩ := hw
  exact rt_v X hr (va_up ad N a1, va_up (va_up f qn (c_st a1)) N (c_ba g n h1)) B (PO_of B) ⟨_, _, hF1, rfl, rfl⟩ (by dsimp only [rm]; omega) (by dsimp only [rm]; omega) dJ0_init_81219_6
set_option maxHeartbeats 4000000 in
theorem c_S_toS (l : Launch) (g : GG) (N : Nat) (ad : Nat → Nat) (f : Nat → va_E) (qs qv bs v n m : Nat) (ml : Int32) (h : Nat → Int32) (hqs : qs < N) (hqv : qv < N) (hne : qs ≠ qv) (hbs : ad qs = bs) (hbv : ad qv = v) (hfs : f qs = c_sb v ml n) (hfv : f qv = c_ba g m h) (hF : sb_Fit h) (hnm : n ≤ m) (hm : m ≤ 150) : KR l yJ4_toString_0e30d cJ4_toString_0e30d 1 (.object "java/lang/String") (rm 5 2 (4 + n)) g [.ref bs] N ad f (N + 1 + 1) (fun r ad' f' => ∃ (a a2 : Nat) (h' : Nat → Int32), sb_Fit h' ∧ some a = r ∧ va_up (va_up ad N a) (N + 1) a2 = ad' ∧ va_up (va_up f N (c_st a2)) (N + 1) (c_ba g n h') = f') := by
  intro sz
  refine mt_start (by decide) (Nat.le_of_ble_eq_true rfl) ?_
  intro p e0 s m9 args below meth c hsz X hr hnam hA hK hT H locs B ls hl
  obtain ⟨hx, hb, hml, hown, hts, hlocks⟩ := id X
  have hl : lv_has ls 1 [(0, .ref bs)] := hl
  refine g_new (ci := 0) (fs := [.null, .int 0, .int 0, .int 0]) (k1 := ((0) + 1)) (k2 := ((0) + 4)) X hA hK B rfl in_J0 tyJ0_ok lk_J4_18 (tb_in (lw_at 318 (by decide +kernel)) rfl) ii_J0 (by decide +kernel) (by dsimp only [rm]; omega) (by dsimp only [rm]; omega) (Nat.le_refl _) (Nat.le_refl _) dJ4_toString_0e30d_0 (fun z1 H B => ?_)
  refine W.widen (show ((0) + 1) ≤ (1) by omega) (show ((0) + 4) ≤ (4) by omega) ?_
  refine lv_dup hx hb dJ4_toString_0e30d_3 rfl ?_
  refine lv_aload_n hx hb dJ4_toString_0e30d_4 rfl (lv_at hl 0 rfl) ?_
  refine k_v (k := (1 + 1)) (n := (4 + n)) hA B (b_I (rest := [.ref z1]) X (c_S_init1 l g (N + 1) (va_up ad N z1) (va_up f N (.inr (0, [.null, .int 0, .int 0, .int 0]))) qs qv bs v n m ml h (Nat.lt_succ_of_lt hqs) (Nat.lt_succ_of_lt hqv) hne ((up_lt hqs).trans hbs) ((up_lt hqv).trans hbv) ((up_lt hqs).trans hfs) ((up_lt hqv).trans hfv) hF N z1 (Nat.lt_succ_self _) up_eq up_eq (Nat.ne_of_gt hqs) (Nat.ne_of_gt hqv) hnm hm H.size) mw_J0_init_81219 rfl md_J0_init_81219 rfl lk_J4_137 ⟨Nat.le_of_ble_eq_true rfl, Nat.le_of_ble_eq_true rfl⟩ hA hK hT B hl.1 rfl (Nat.le_of_ble_eq_true rfl) dJ4_toString_0e30d_5 (by dsimp only [rm]; omega)) (by dsimp only [rm]; omega) (by dsimp only [rm]; omega) (fun ad' f' H locs hw B => ?_)
  obtain ⟨a1, h1, hF1, rfl, rfl⟩ := hw
  rw [bx_uu] at B
  have B : WB g (aw N ad sz) s.heap (N + 1 + 1) (va_up (va_up ad N z1) (N + 1) a1) (va_up (va_up f N (c_st a1)) (N + 1) (c_ba g n h1)) H locs := B
  exact rt_r (r := some z1) rfl X hr (Or.inl ⟨_, rfl⟩) (va_up (va_up ad N z1) (N + 1) a1, va_up (va_up f N (c_st a1)) (N + 1) (c_ba g n h1)) B (PO_of B) ⟨_, _, _, hF1, rfl, rfl, rfl⟩ (by dsimp only [rm]; omega) (by dsimp only [rm]; omega) dJ4_toString_0e30d_8
