set_option maxHeartbeats 4000000 in
theorem c_S_lat (l : Launch) (g : GG) (N : Nat) (ad : Nat → Nat) (f : Nat → va_E) (qs qv bs v n m : Nat) (ml : Int32) (h : Nat → Int32) (hqs : qs < N) (hqv : qv < N) (hne : qs ≠ qv) (hbs : ad qs = bs) (hbv : ad qv = v) (hfs : f qs = c_sb v ml n) (hfv : f qv = c_ba g m h) (hF : sb_Fit h) : KI l yJ5_isLatin1_aae02 cJ5_isLatin1_aae02 1 (some .boolean) (rm 0 0 0) g [.ref bs] N ad f N (fun r ad' f' => ad = ad' ∧ 1 = r ∧ f = f') := by
  intro sz
  refine mt_start (by decide) (Nat.le_of_ble_eq_true rfl) ?_
  intro p e0 s m9 args below meth c hsz X hr hnam hA hK hT H locs B ls hl
  obtain ⟨hx, hb, hml, hown, hts, hlocks⟩ := id X
  have hl : lv_has ls 1 [(0, .ref bs)] := hl
  refine va_gets hx hb hT.2.1.1 B.2.2 hown (hts _ (List.mem_cons_of_mem _ lk_J5_18)) (fun _ h => h) dJ5_isLatin1_aae02_0 ?_
  refine lv_if_eq (tgt := 17) hx hb dJ5_isLatin1_aae02_3 (by decide) (fun z => absurd z (by decide)) (fun _ => ?_)
  refine lv_aload_n hx hb dJ5_isLatin1_aae02_6 rfl (lv_at hl 0 rfl) ?_
  refine b_get (q := qs) (k := 1) hbs X hK B rfl in_J4 hqs hfs (by decide) lk_J5_22 rfl rfl dJ5_isLatin1_aae02_7 ?_
  refine lv_if_ne (tgt := 17) hx hb dJ5_isLatin1_aae02_10 (by decide) (fun z => absurd z (by decide)) (fun _ => ?_)
  refine lv_iconst (v := 1) hx hb dJ5_isLatin1_aae02_13 (by decide) ?_
  refine lv_goto (tgt := 18) hx hb dJ5_isLatin1_aae02_14 (by decide) ?_
  exact rt_i X hr (ad, f) B (PO_of B) ⟨rfl, rfl, rfl⟩ rfl (by dsimp only [rm]; omega) (by dsimp only [rm]; omega) dJ5_isLatin1_aae02_18
set_option maxHeartbeats 4000000 in
theorem c_S_val (l : Launch) (g : GG) (N : Nat) (ad : Nat → Nat) (f : Nat → va_E) (qs qv bs v n m : Nat) (ml : Int32) (h : Nat → Int32) (hqs : qs < N) (hqv : qv < N) (hne : qs ≠ qv) (hbs : ad qs = bs) (hbv : ad qv = v) (hfs : f qs = c_sb v ml n) (hfv : f qv = c_ba g m h) (hF : sb_Fit h) : KR l yJ5_getValue_6d5f1 cJ5_getValue_6d5f1 1 (.array .byte) (rm 0 0 0) g [.ref bs] N ad f N (fun r ad' f' => ad = ad' ∧ some v = r ∧ f = f') := by
  intro sz
  refine mt_start (by decide) (Nat.le_of_ble_eq_true rfl) ?_
  intro p e0 s m9 args below meth c hsz X hr hnam hA hK hT H locs B ls hl
  obtain ⟨hx, hb, hml, hown, hts, hlocks⟩ := id X
  have hl : lv_has ls 1 [(0, .ref bs)] := hl
  refine lv_aload_n hx hb dJ5_getValue_6d5f1_0 rfl (lv_at hl 0 rfl) ?_
  refine b_get (q := qs) (k := 0) hbs X hK B rfl in_J4 hqs hfs (by decide) lk_J5_15 rfl rfl dJ5_getValue_6d5f1_1 ?_
  exact rt_r (r := some v) rfl X hr (Or.inr ⟨_, rfl⟩) (ad, f) B (PO_of B) ⟨rfl, rfl, rfl⟩ (by dsimp only [rm]; omega) (by dsimp only [rm]; omega) dJ5_getValue_6d5f1_4
set_option maxHeartbeats 4000000 in
theorem c_S_len5 (l : Launch) (g : GG) (N : Nat) (ad : Nat → Nat) (f : Nat → va_E) (qs qv bs v n m : Nat) (ml : Int32) (h : Nat → Int32) (hqs : qs < N) (hqv : qv < N) (hne : qs ≠ qv) (hbs : ad qs = bs) (hbv : ad qv = v) (hfs : f qs = c_sb v ml n) (hfv : f qv = c_ba g m h) (hF : sb_Fit h) : KI l yJ5_length_8abf5 cJ5_length_8abf5 1 (some .int) (rm 0 0 0) g [.ref bs] N ad f N (fun r ad' f' => ad = ad' ∧ nI n = r ∧ f = f') := by
  intro sz
  refine mt_start (by decide) (Nat.le_of_ble_eq_true rfl) ?_
  intro p e0 s m9 args below meth c hsz X hr hnam hA hK hT H locs B ls hl
  obtain ⟨hx, hb, hml, hown, hts, hlocks⟩ := id X
  have hl : lv_has ls 1 [(0, .ref bs)] := hl
  refine lv_aload_n hx hb dJ5_length_8abf5_0 rfl (lv_at hl 0 rfl) ?_
  refine b_get (q := qs) (k := 3) hbs X hK B rfl in_J4 hqs hfs (by decide) lk_J5_79 rfl rfl dJ5_length_8abf5_1 ?_
  exact rt_i X hr (ad, f) B (PO_of B) ⟨rfl, rfl, rfl⟩ rfl (by dsimp only [rm]; omega) (by dsimp only [rm]; omega) dJ5_length_8abf5_4
set_option maxHeartbeats 4000000 in
theorem c_S_len (l : Launch) (g : GG) (N : Nat) (ad : Nat → Nat) (f : Nat → va_E) (qs qv bs v n m : Nat) (ml : Int32) (h : Nat → Int32) (hqs : qs < N) (hqv : qv < N) (hne : qs ≠ qv) (hbs : ad qs = bs) (hbv : ad qv = v) (hfs : f qs = c_sb v ml n) (hfv : f qv = c_ba g m h) (hF : sb_Fit h) : KI l yJ4_length_8abf5 cJ4_length_8abf5 1 (some .int) (rm 1 0 0) g [.ref bs] N ad f N (fun r ad' f' => ad = ad' ∧ nI n = r ∧ f = f') := by
  intro sz
  refine mt_start (by decide) (Nat.le_of_ble_eq_true rfl) ?_
  intro p e0 s m9 args below meth c hsz X hr hnam hA hK hT H locs B ls hl
  obtain ⟨hx, hb, hml, hown, hts, hlocks⟩ := id X
  have hl : lv_has ls 1 [(0, .ref bs)] := hl
  refine lv_aload_n hx hb dJ4_length_8abf5_0 rfl (lv_at hl 0 rfl) ?_
  refine k_i (k := (0)) (n := (0)) hA B (u_U (q := qs) (rest := []) hbs rfl X (c_S_len5 l g N ad f qs qv bs v n m ml h hqs hqv hne hbs hbv hfs hfv hF H.size) mc_J5_length_8abf5 (by decide) rfl md_J5_length_8abf5 rfl lk_J4_343 ⟨Nat.le_of_ble_eq_true rfl, Nat.le_of_ble_eq_true rfl⟩ hA hK hT B hqs hfs hl.1 rfl (Nat.le_of_ble_eq_true rfl) dJ4_length_8abf5_1 (by dsimp only [rm]; omega)) (by dsimp only [rm]; omega) (by dsimp only [rm]; omega) (fun r ad' f' H locs hw B => ?_)
  obtain ⟨rfl, rfl, rfl⟩ := hw
  exact rt_i X hr (ad, f) B (PO_of B) ⟨rfl, rfl, rfl⟩ rfl (by dsimp only [rm]; omega) (by dsimp only [rm]; omega) dJ4_length_8abf5_4
set_option maxHeartbeats 4000000 in
theorem c_T_newLength (l : Launch) (g : GG) (N : Nat) (ad : Nat → Nat) (f : Nat → va_E) (d m : Nat) (hd : d ≤ m + 2) (hm : m ≤ 70) : KI l yJ8_newLength_cabcc cJ8_newLength_cabcc 4 (some .int) (rm 1 0 0) g [.int (nI m), .int (nI d), .int (nI (m + 2))] N ad f N (fun r ad' f' => ad = ad' ∧ nI (2 * m + 2) = r ∧ f = f') := by
  intro sz
  refine mt_start (by decide) (Nat.le_of_ble_eq_true rfl) ?_
  intro p e0 s m9 args below meth c hsz X hr hnam hA hK hT H locs B ls hl
  obtain ⟨hx, hb, hml, hown, hts, hlocks⟩ := id X
  have hl : lv_has ls 4 [(0, .int (nI m)), (1, .int (nI d)), (2, .int (nI (m + 2)))] := hl
  refine lv_iload_n hx hb dJ8_newLength_cabcc_0 rfl (lv_at hl 0 rfl) ?_
  refine lv_iload_n hx hb dJ8_newLength_cabcc_1 rfl (lv_at hl 1 rfl) ?_
  refine lv_iload_n hx hb dJ8_newLength_cabcc_2 rfl (lv_at hl 2 rfl) ?_
  refine va_mmax (R := (rm 1 0 0)) (cells := (0)) (slots := (0)) (rest := [.int (nI m)]) hx hb (by rw [hml]; exact hl.1.symm) hown (hts _ (List.mem_cons_of_mem _ lk_J8_194)) (hts _ (List.mem_cons_of_mem _ mw_max.2.1)) (hts _ (List.mem_cons_of_mem _ mw_max.2.2)) (hts _ (List.mem_cons_of_mem _ mw_max.1)) (Nat.le_of_ble_eq_true rfl) (Nat.le_of_ble_eq_true rfl) (by dsimp only [rm]; omega) (by dsimp only [rm]; omega) dJ8_newLength_cabcc_3 ?_
  rw [n_mx hd (by omega)]
  refine lv_iadd hx hb dJ8_newLength_cabcc_6 ?_
  rw [n_dbl]
  refine lv_istore_n (lv' := [(3, .int (nI (2 * m + 2))), (0, .int (nI m)), (1, .int (nI d)), (2, .int (nI (m + 2)))]) hx hb dJ8_newLength_cabcc_7 rfl hl (by decide) rfl (fun ls hl => ?_)
  refine lv_iconst (v := 0) hx hb dJ8_newLength_cabcc_8 (by decide) ?_
  refine lv_iload_n hx hb dJ8_newLength_cabcc_9 rfl (lv_at hl 0 rfl) ?_
  refine lv_icmp_ge (tgt := 21) hx hb dJ8_newLength_cabcc_10 (by decide) (fun z => absurd z (n_pos (by omega) (by omega))) (fun _ => ?_)
  refine lv_iload_n hx hb dJ8_newLength_cabcc_13 rfl (lv_at hl 0 rfl) ?_
  refine lv_ldc hx hb hown (hts _ (List.mem_cons_of_mem _ lk_J8_200)) dJ8_newLength_cabcc_14 ?_
  refine lv_icmp_gt (tgt := 21) hx hb dJ8_newLength_cabcc_16 (by decide) (fun z => absurd z (n_big (by omega))) (fun _ => ?_)
  refine lv_iload_n hx hb dJ8_newLength_cabcc_19 rfl (lv_at hl 0 rfl) ?_
  exact rt_i X hr (ad, f) B (PO_of B) ⟨rfl, rfl, rfl⟩ rfl (by dsimp only [rm]; omega) (by dsimp only [rm]; omega) dJ8_newLength_cabcc_20
set_option maxHeartbeats 4000000 in
theorem c_S_newCap (l : Launch) (g : GG) (N : Nat) (ad : Nat → Nat) (f : Nat → va_E) (qs qv bs v n m : Nat) (ml : Int32) (h : Nat → Int32) (hqs : qs < N) (hqv : qv < N) (hne : qs ≠ qv) (hbs : ad qs = bs) (hbv : ad qv = v) (hfs : f qs = c_sb v ml n) (hfv : f qv = c_ba g m h) (hF : sb_Fit h) (hnm : n ≤ m) (hm : m ≤ 70) (q : Nat) (hq1 : ¬ q ≤ m) (hq2 : q ≤ 2 * m + 2) : KI l yJ5_newCapacity_0f7a4 cJ5_newCapacity_0f7a4 6 (some .int) (rm 2 0 0) g [.ref bs, .int (nI q)] N ad f N (fun r ad' f' => ad = ad' ∧ nI (2 * m + 2) = r ∧ f = f') := by
  intro sz
  refine mt_start (by decide) (Nat.le_of_ble_eq_true rfl) ?_
  intro p e0 s m9 args below meth c hsz X hr hnam hA hK hT H locs B ls hl
  obtain ⟨hx, hb, hml, hown, hts, hlocks⟩ := id X
  have hl : lv_has ls 6 [(0, .ref bs), (1, .int (nI q))] := hl
  refine lv_aload_n hx hb dJ5_newCapacity_0f7a4_0 rfl (lv_at hl 0 rfl) ?_
  refine b_get (q := qs) (k := 0) hbs X hK B rfl in_J4 hqs hfs (by decide) lk_J5_15 rfl rfl dJ5_newCapacity_0f7a4_1 ?_
  refine b_alen (t0 := 1) (v := nI m) hbv X hK B hqv hfv rfl rfl dJ5_newCapacity_0f7a4_4 ?_
  refine lv_istore_n (lv' := [(2, .int (nI m)), (0, .ref bs), (1, .int (nI q))]) hx hb dJ5_newCapacity_0f7a4_5 rfl hl (by decide) rfl (fun ls hl => ?_)
  refine lv_iload_n hx hb dJ5_newCapacity_0f7a4_6 rfl (lv_at hl 2 rfl) ?_
  refine lv_aload_n hx hb dJ5_newCapacity_0f7a4_7 rfl (lv_at hl 1 rfl) ?_
  refine b_get (q := qs) (k := 1) hbs X hK B rfl in_J4 hqs hfs (by decide) lk_J5_22 rfl rfl dJ5_newCapacity_0f7a4_8 ?_
  refine lv_ishl hx hb dJ5_newCapacity_0f7a4_11 ?_
  rw [sb_shl0]
  refine lv_istore_n (lv' := [(3, .int (nI q)), (2, .int (nI m)), (0, .ref bs), (1, .int (nI q))]) hx hb dJ5_newCapacity_0f7a4_12 rfl hl (by decide) rfl (fun ls hl => ?_)
  refine lv_iload_n hx hb dJ5_newCapacity_0f7a4_13 rfl (lv_at hl 0 rfl) ?_
  refine lv_iload_n hx hb dJ5_newCapacity_0f7a4_14 rfl (lv_at hl 1 rfl) ?_
  refine lv_isub hx hb dJ5_newCapacity_0f7a4_15 ?_
  rw [n_sub (by omega) (by omega)]
  refine lv_istore (lv' := [(4, .int (nI (q - m))), (3, .int (nI q)), (2, .int (nI m)), (0, .ref bs), (1, .int (nI q))]) hx hb dJ5_newCapacity_0f7a4_16 hl (by decide) rfl (fun ls hl => ?_)
  refine lv_iload_n hx hb dJ5_newCapacity_0f7a4_18 rfl (lv_at hl 2 rfl) ?_
  refine lv_iload hx hb dJ5_newCapacity_0f7a4_19 (lv_at hl 0 rfl) ?_
  refine lv_iload_n hx hb dJ5_newCapacity_0f7a4_21 rfl (lv_at hl 2 rfl) ?_
  refine lv_iconst (v := 2) hx hb dJ5_newCapacity_0f7a4_22 (by decide) ?_
  refine lv_aload_n hx hb dJ5_newCapacity_0f7a4_23 rfl (lv_at hl 3 rfl) ?_
  refine b_get (q := qs) (k := 1) hbs X hK B rfl in_J4 hqs hfs (by decide) lk_J5_22 rfl rfl dJ5_newCapacity_0f7a4_24 ?_
  refine lv_ishl hx hb dJ5_newCapacity_0f7a4_27 ?_
  rw [sb_shl0]
  refine lv_iadd hx hb dJ5_newCapacity_0f7a4_28 ?_
  rw [show nI m + 2 = nI (m + 2) from nI_add m 2]
  refine k_i (k := (0)) (n := (0)) hA B (u_S (rest := []) X (c_T_newLength l g N ad f (q - m) m (by omega) hm H.size) mw_J8_newLength_cabcc md_J8_newLength_cabcc rfl lk_J5_114 ⟨Nat.le_of_ble_eq_true rfl, Nat.le_of_ble_eq_true rfl⟩ hA hK hT B hl.1 rfl (Nat.le_of_ble_eq_true rfl) dJ5_newCapacity_0f7a4_29 (by dsimp only [rm]; omega)) (by dsimp only [rm]; omega) (by dsimp only [rm]; omega) (fun r ad' f' H locs hw B => ?_)
  obtain ⟨rfl, rfl, rfl⟩ := hw
  refine lv_istore (lv' := [(5, .int (nI (2 * m + 2))), (4, .int (nI (q - m))), (3, .int (nI q)), (2, .int (nI m)), (0, .ref bs), (1, .int (nI q))]) hx hb dJ5_newCapacity_0f7a4_32 hl (by decide) rfl (fun ls hl => ?_)
  refine lv_iload hx hb dJ5_newCapacity_0f7a4_34 (lv_at hl 0 rfl) ?_
  refine lv_ldc hx hb hown (hts _ (List.mem_cons_of_mem _ lk_J5_39)) dJ5_newCapacity_0f7a4_36 ?_
  refine lv_icmp_ne (tgt := 51) hx hb dJ5_newCapacity_0f7a4_38 (by decide) (fun _ => ?_) (fun z => absurd z (n_ne (by omega)))
  refine lv_iload hx hb dJ5_newCapacity_0f7a4_51 (lv_at hl 0 rfl) ?_
  refine lv_aload_n hx hb dJ5_newCapacity_0f7a4_53 rfl (lv_at hl 4 rfl) ?_
  refine b_get (q := qs) (k := 1) hbs X hK B rfl in_J4 hqs hfs (by decide) lk_J5_22 rfl rfl dJ5_newCapacity_0f7a4_54 ?_
  refine lv_ishr hx hb dJ5_newCapacity_0f7a4_57 ?_
  rw [sb_shr0]
  exact rt_i X hr (ad, f) B (PO_of B) ⟨rfl, rfl, rfl⟩ rfl (by dsimp only [rm]; omega) (by dsimp only [rm]; omega) dJ5_newCapacity_0f7a4_58
set_option maxHeartbeats 4000000 in
theorem c_T_copyOf (l : Launch) (g : GG) (N : Nat) (ad : Nat → Nat) (f : Nat → va_E) (qb b m : Nat) (h : Nat → Int32) (hqb : qb < N) (hbb : ad qb = b) (hfb : f qb = c_ba g m h) (hF : sb_Fit h) (hm : m ≤ 150) (k : Nat) (hk : m < k) (hk2 : k ≤ 200) : KR l yJ7_copyOf_9075b cJ7_copyOf_9075b 3 (.array .byte) (rm 1 1 k) g [.ref b, .int (nI k)] N ad f (N + 1) (fun r ad' f' => ∃ (a : Nat) (h' : Nat → Int32), sb_Fit h' ∧ some a = r ∧ va_up ad N a = ad' ∧ va_up f N (c_ba g k h') = f') := by
  intro sz
  refine mt_start (by decide) (Nat.le_of_ble_eq_true rfl) ?_
  intro p e0 s m9 args below meth c hsz X hr hnam hA hK hT H locs B ls hl
  obtain ⟨hx, hb, hml, hown, hts, hlocks⟩ := id X
  have hl : lv_has ls 3 [(0, .ref b), (1, .int (nI k))] := hl
  refine lv_iload_n hx hb dJ7_copyOf_9075b_0 rfl (lv_at hl 1 rfl) ?_
  refine lv_aload_n hx hb dJ7_copyOf_9075b_1 rfl (lv_at hl 0 rfl) ?_
  refine b_alen (t0 := 1) (v := nI m) hbb X hK B hqb hfb rfl rfl dJ7_copyOf_9075b_2 ?_
  refine lv_icmp_ne (tgt := 14) hx hb dJ7_copyOf_9075b_3 (by decide) (fun _ => ?_) (fun z => absurd z (n_inj (by omega) (by omega) (by omega)))
  refine lv_iload_n hx hb dJ7_copyOf_9075b_14 rfl (lv_at hl 1 rfl) ?_
  refine b_newb (k := k) (cz := ((0) + 1)) (sz := ((0) + k)) X hA hK B (nI_pos (by omega)) (nI_clamp (by omega)) (by omega) (by dsimp only [rm]; omega) (by dsimp only [rm]; omega) (Nat.le_refl _) (Nat.le_refl _) dJ7_copyOf_9075b_15 (fun z1 H B => ?_)
  refine W.widen (show ((0) + 1) ≤ (1) by omega) (show ((0) + k) ≤ (0 + k) by omega) ?_
  refine lv_astore_n (lv' := [(2, .ref z1), (0, .ref b), (1, .int (nI k))]) hx hb dJ7_copyOf_9075b_17 rfl hl (by decide) rfl (fun ls hl => ?_)
  refine lv_aload_n hx hb dJ7_copyOf_9075b_18 rfl (lv_at hl 1 rfl) ?_
  refine lv_iconst (v := 0) hx hb dJ7_copyOf_9075b_19 (by decide) ?_
  refine lv_aload_n hx hb dJ7_copyOf_9075b_20 rfl (lv_at hl 0 rfl) ?_
  refine lv_iconst (v := 0) hx hb dJ7_copyOf_9075b_21 (by decide) ?_
  refine lv_aload_n hx hb dJ7_copyOf_9075b_22 rfl (lv_at hl 1 rfl) ?_
  refine b_alen (t0 := 1) (v := nI m) ((up_lt hqb).trans hbb) X hK B (Nat.lt_succ_of_lt hqb) ((up_lt hqb).trans hfb) rfl rfl dJ7_copyOf_9075b_23 ?_
  refine lv_iload_n hx hb dJ7_copyOf_9075b_24 rfl (lv_at hl 2 rfl) ?_
  refine va_mmin (R := (rm 1 1 k)) (cells := (1)) (slots := (0 + k)) (rest := [.int 0, .ref z1, .int 0, .ref b]) hx hb (by rw [hml]; exact hl.1.symm) hown (hts _ (List.mem_cons_of_mem _ lk_J7_304)) (hts _ (List.mem_cons_of_mem _ mw_min.2.1)) (hts _ (List.mem_cons_of_mem _ mw_min.2.2)) (hts _ (List.mem_cons_of_mem _ mw_min.1)) (Nat.le_of_ble_eq_true rfl) (Nat.le_of_ble_eq_true rfl) (by dsimp only [rm]; omega) (by dsimp only [rm]; omega) dJ7_copyOf_9075b_25 ?_
  rw [if_neg (nI_nlt (by omega) (by omega))]
  refine b_copyb (q0 := qb) (q1 := N) (rest := []) ((up_lt hqb).trans hbb) up_eq X hl.1 lk_J7_150 hK B (Nat.lt_succ_of_lt hqb) (Nat.lt_succ_self _) ((up_lt hqb).trans hfb) up_eq hF (by decide) (by decide) (nI_pos (by omega)) (by rw [sb_cl0, nI_clamp (by omega)]; omega) (by rw [sb_cl0, nI_clamp (by omega)]; omega) (Nat.le_of_ble_eq_true rfl) (Nat.le_of_ble_eq_true rfl) dJ7_copyOf_9075b_28 (fun H locs B => ?_)
  rw [bx_uu] at B
  have B : WB g (aw N ad sz) s.heap (N + 1) (va_up ad N z1) (va_up f N (c_ba g k (va_cpy h (fun _ => 0) (0 : Int32).toNatClampNeg (0 : Int32).toNatClampNeg (nI m).toNatClampNeg))) H locs := B
  refine lv_aload_n hx hb dJ7_copyOf_9075b_31 rfl (lv_at hl 0 rfl) ?_
  exact rt_r (r := some z1) rfl X hr (Or.inr ⟨_, rfl⟩) (va_up ad N z1, va_up f N (c_ba g k (va_cpy h (fun _ => 0) (0 : Int32).toNatClampNeg (0 : Int32).toNatClampNeg (nI m).toNatClampNeg))) B (PO_of B) ⟨_, _, sb_fitC hF sb_fit0, rfl, rfl, rfl⟩ (by dsimp only [rm]; omega) (by dsimp only [rm]; omega) dJ7_copyOf_9075b_32
set_option maxHeartbeats 4000000 in
theorem c_S_ensure (l : Launch) (g : GG) (N : Nat) (ad : Nat → Nat) (f : Nat → va_E) (qs qv bs v n m : Nat) (ml : Int32) (h : Nat → Int32) (hqs : qs < N) (hqv : qv < N) (hne : qs ≠ qv) (hbs : ad qs = bs) (hbv : ad qv = v) (hfs : f qs = c_sb v ml n) (hfv : f qv = c_ba g m h) (hF : sb_Fit h) (hnm : n ≤ m) (hm : m ≤ 70) (q : Nat) (hq2 : q ≤ 2 * m + 2) : KV l yJ5_ensureCapacityInternal_d00df cJ5_ensureCapacityInternal_d00df 3 (rm 3 (gC m (sb_cap q m)) (gS m (sb_cap q m))) g [.ref bs, .int (nI q)] N ad f N (fun ad' f' => ∃ (v' : Nat) (h' : Nat → Int32), sb_Fit h' ∧ va_up ad qv v' = ad' ∧ va_up (va_up f qs (c_sb v' ml n)) qv (c_ba g (sb_cap q m) h') = f') := by
  intro sz
  refine mt_start (by decide) (Nat.le_of_ble_eq_true rfl) ?_
  intro p e0 s m9 args below meth c hsz X hr hnam hA hK hT H locs B ls hl
  obtain ⟨hx, hb, hml, hown, hts, hlocks⟩ := id X
  have hl : lv_has ls 3 [(0, .ref bs), (1, .int (nI q))] := hl
  refine lv_aload_n hx hb dJ5_ensureCapacityInternal_d00df_0 rfl (lv_at hl 0 rfl) ?_
  refine b_get (q := qs) (k := 0) hbs X hK B rfl in_J4 hqs hfs (by decide) lk_J5_15 rfl rfl dJ5_ensureCapacityInternal_d00df_1 ?_
  refine b_alen (t0 := 1) (v := nI m) hbv X hK B hqv hfv rfl rfl dJ5_ensureCapacityInternal_d00df_4 ?_
  refine lv_aload_n hx hb dJ5_ensureCapacityInternal_d00df_5 rfl (lv_at hl 0 rfl) ?_
  refine b_get (q := qs) (k := 1) hbs X hK B rfl in_J4 hqs hfs (by decide) lk_J5_22 rfl rfl dJ5_ensureCapacityInternal_d00df_6 ?_
  refine lv_ishr hx hb dJ5_ensureCapacityInternal_d00df_9 ?_
  rw [sb_shr0]
  refine lv_istore_n (lv' := [(2, .int (nI m)), (0, .ref bs), (1, .int (nI q))]) hx hb dJ5_ensureCapacityInternal_d00df_10 rfl hl (by decide) rfl (fun ls hl => ?_)
  refine lv_iload_n hx hb dJ5_ensureCapacityInternal_d00df_11 rfl (lv_at hl 2 rfl) ?_
  refine lv_iload_n hx hb dJ5_ensureCapacityInternal_d00df_12 rfl (lv_at hl 0 rfl) ?_
  refine lv_isub hx hb dJ5_ensureCapacityInternal_d00df_13 ?_
  refine lv_if_le (tgt := 38) hx hb dJ5_ensureCapacityInternal_d00df_14 (by decide) (fun c1 => ?_) (fun c1 => ?_)
  · have c1n := (n_le (by omega) (by omega)).mp c1
    exact rt_v X hr (ad, f) B (PO_of B) ⟨v, h, hF, up_in hbv, by rw [(g_no c1n).1]; exact sw_in hfs hfv⟩ (by dsimp only [rm]; omega) (by dsimp only [rm]; omega) dJ5_ensureCapacityInternal_d00df_38
  · have hq1 : ¬ q ≤ m := fun z => c1 ((n_le (by omega) (by omega)).mpr z)
    obtain ⟨hcap, hgc, hgs⟩ := g_yes hq1 hq2
    refine lv_aload_n hx hb dJ5_ensureCapacityInternal_d00df_17 rfl (lv_at hl 1 rfl) ?_
    refine lv_aload_n hx hb dJ5_ensureCapacityInternal_d00df_18 rfl (lv_at hl 1 rfl) ?_
    refine b_get (q := qs) (k := 0) hbs X hK B rfl in_J4 hqs hfs (by decide) lk_J5_15 rfl rfl dJ5_ensureCapacityInternal_d00df_19 ?_
    refine lv_aload_n hx hb dJ5_ensureCapacityInternal_d00df_22 rfl (lv_at hl 1 rfl) ?_
    refine lv_iload_n hx hb dJ5_ensureCapacityInternal_d00df_23 rfl (lv_at hl 2 rfl) ?_
    refine k_i (k := (0)) (n := (0)) hA B (u_P (q := qs) (rest := [.ref v, .ref bs]) hbs X (c_S_newCap l g N ad f qs qv bs v n m ml h hqs hqv hne hbs hbv hfs hfv hF hnm hm q hq1 hq2 H.size) mc_J5_newCapacity_0f7a4 (lw_at 159 (by decide +kernel)) rfl md_J5_newCapacity_0f7a4 rfl lk_J5_104 ⟨Nat.le_of_ble_eq_true rfl, Nat.le_of_ble_eq_true rfl⟩ hA hK hT B hqs hfs hl.1 rfl (Nat.le_of_ble_eq_true rfl) dJ5_ensureCapacityInternal_d00df_24 (by dsimp only [rm]; omega)) (by dsimp only [rm]; omega) (by dsimp only [rm]; omega) (fun r ad' f' H locs hw B => ?_)
    obtain ⟨rfl, rfl, rfl⟩ := hw
    refine lv_aload_n hx hb dJ5_ensureCapacityInternal_d00df_27 rfl (lv_at hl 1 rfl) ?_
    refine b_get (q := qs) (k := 1) hbs X hK B rfl in_J4 hqs hfs (by decide) lk_J5_22 rfl rfl dJ5_ensureCapacityInternal_d00df_28 ?_
    refine lv_ishl hx hb dJ5_ensureCapacityInternal_d00df_31 ?_
    rw [sb_shl0]
    refine k_r (k := (0 + 1)) (n := (0 + (2 * m + 2))) hA B (u_S (rest := [.ref bs]) X (c_T_copyOf l g N ad f qv v m h hqv hbv hfv hF (by omega) (2 * m + 2) (by omega) (by omega) H.size) mw_J7_copyOf_9075b md_J7_copyOf_9075b rfl lk_J5_108 ⟨Nat.le_of_ble_eq_true rfl, Nat.le_of_ble_eq_true rfl⟩ hA hK hT B hl.1 rfl (Nat.le_of_ble_eq_true rfl) dJ5_ensureCapacityInternal_d00df_32 (by dsimp only [rm]; omega)) (by dsimp only [rm]; omega) (by dsimp only [rm]; omega) (fun r ad' f' H locs hw B => ?_)
    obtain ⟨a1, h1, hF1, rfl, rfl, rfl⟩ := hw
    refine b_put (q := qs) (k := 0) ((up_lt hqs).trans hbs) X hK B rfl in_J4 tyJ4_ok nmJ4 (Nat.lt_succ_of_lt hqs) ((up_lt hqs).trans hfs) (by decide) lk_J5_15 rfl rfl rfl rfl rfl (Nat.le_of_ble_eq_true rfl) dJ5_ensureCapacityInternal_d00df_35 (fun H locs B => ?_)
    have B : WB g (aw N ad sz) s.heap N (va_up ad qv a1) (va_up (va_up f qs (c_sb a1 ml n)) qv (c_ba g (2 * m + 2) h1)) H locs := WS_grow hqv hqs hne B rfl
    exact rt_v X hr ((va_up ad qv a1), va_up (va_up f qs (c_sb a1 ml n)) qv (c_ba g (2 * m + 2) h1)) B (PO_of B) ⟨a1, h1, hF1, rfl, by rw [hcap]⟩ (by dsimp only [rm]; omega) (by dsimp only [rm]; omega) dJ5_ensureCapacityInternal_d00df_38
set_option maxHeartbeats 4000000 in
theorem c_S_appI5 (l : Launch) (g : GG) (N : Nat) (ad : Nat → Nat) (f : Nat → va_E) (qs qv bs v n m : Nat) (ml : Int32) (h : Nat → Int32) (hqs : qs < N) (hqv : qv < N) (hne : qs ≠ qv) (hbs : ad qs = bs) (hbv : ad qv = v) (hfs : f qs = c_sb v ml n) (hfv : f qv = c_ba g m h) (hF : sb_Fit h) (hnm : n ≤ m) (hm : m ≤ 70) (i : Int32) (hi2 : n + ssz i ≤ 2 * m + 2) : KR l yJ5_append_c97b9 cJ5_append_c97b9 4 (.object "java/lang/AbstractStringBuilder") (rm 4 (gC m (sb_cap (n + ssz i) m)) (gS m (sb_cap (n + ssz i) m))) g [.ref bs, .int i] N ad f N (fun r ad' f' => ∃ (v' : Nat) (h' : Nat → Int32), sb_Fit h' ∧ some bs = r ∧ va_up ad qv v' = ad' ∧ va_up (va_up f qs (c_sb v' ml (n + ssz i))) qv (c_ba g (sb_cap (n + ssz i) m) h') = f') := by
  intro sz
  refine mt_start (by decide) (Nat.le_of_ble_eq_true rfl) ?_
  intro p e0 s m9 args below meth c hsz X hr hnam hA hK hT H locs B ls hl
  obtain ⟨hx, hb, hml, hown, hts, hlocks⟩ := id X
  have hl : lv_has ls 4 [(0, .ref bs), (1, .int i)] := hl
  have hsz := ssz_b i
  have hcap := sb_cap_ge (n + ssz i) m
  have hcl : sb_cap (n + ssz i) m ≤ 142 := by unfold sb_cap; split <;> (try split) <;> omega
  refine lv_aload_n hx hb dJ5_append_c97b9_0 rfl (lv_at hl 0 rfl) ?_
  refine b_get (q := qs) (k := 3) hbs X hK B rfl in_J4 hqs hfs (by decide) lk_J5_79 rfl rfl dJ5_append_c97b9_1 ?_
  refine lv_istore_n (lv' := [(2, .int (nI n)), (0, .ref bs), (1, .int i)]) hx hb dJ5_append_c97b9_4 rfl hl (by decide) rfl (fun ls hl => ?_)
  refine lv_iload_n hx hb dJ5_append_c97b9_5 rfl (lv_at hl 0 rfl) ?_
  refine lv_iload_n hx hb dJ5_append_c97b9_6 rfl (lv_at hl 2 rfl) ?_
  refine k_i (k := (0)) (n := (0)) hA B (u_S (rest := [.int (nI n)]) X (c_J6_stringSize_0f7a4 l g N ad f i H.size) mw_J6_stringSize_0f7a4 md_J6_stringSize_0f7a4 rfl lk_J5_245 ⟨Nat.le_of_ble_eq_true rfl, Nat.le_of_ble_eq_true rfl⟩ hA hK hT B hl.1 rfl (Nat.le_of_ble_eq_true rfl) dJ5_append_c97b9_7 (by dsimp only [rm]; omega)) (by dsimp only [rm]; omega) (by dsimp only [rm]; omega) (fun r ad' f' H locs hw B => ?_)
  obtain ⟨rfl, rfl, rfl⟩ := hw
  rw [ssz_ok]
  refine lv_iadd hx hb dJ5_append_c97b9_10 ?_
  rw [nI_add]
  refine lv_istore_n (lv' := [(3, .int (nI (n + ssz i))), (2, .int (nI n)), (0, .ref bs), (1, .int i)]) hx hb dJ5_append_c97b9_11 rfl hl (by decide) rfl (fun ls hl => ?_)
  refine lv_aload_n hx hb dJ5_append_c97b9_12 rfl (lv_at hl 2 rfl) ?_
  refine lv_iload_n hx hb dJ5_append_c97b9_13 rfl (lv_at hl 0 rfl) ?_
  refine k_v (k := (0 + gC m (sb_cap (n + ssz i) m))) (n := (0 + gS m (sb_cap (n + ssz i) m))) hA B (u_P (q := qs) (rest := []) hbs X (c_S_ensure l g N ad f qs qv bs v n m ml h hqs hqv hne hbs hbv hfs hfv hF hnm hm (n + ssz i) (by omega) H.size) mc_J5_ensureCapacityInternal_d00df (lw_at 155 (by decide +kernel)) rfl md_J5_ensureCapacityInternal_d00df rfl lk_J5_100 ⟨Nat.le_of_ble_eq_true rfl, Nat.le_of_ble_eq_true rfl⟩ hA hK hT B hqs hfs hl.1 rfl (Nat.le_of_ble_eq_true rfl) dJ5_append_c97b9_14 (by dsimp only [rm]; omega)) (by dsimp only [rm]; omega) (by dsimp only [rm]; omega) (fun ad' f' H locs hw B => ?_)
  obtain ⟨v1, h1, hF1, rfl, rfl⟩ := hw
  refine lv_aload_n hx hb dJ5_append_c97b9_17 rfl (lv_at hl 2 rfl) ?_
  refine k_i (k := (0 + gC m (sb_cap (n + ssz i) m))) (n := (0 + gS m (sb_cap (n + ssz i) m))) hA B (u_H (x := yJ5_isLatin1_aae02) (q := qs) (rest := []) ((va_up_ne _ _ hne).trans hbs) X (c_S_lat l g N (va_up ad qv v1) (va_up (va_up f qs (c_sb v1 ml n)) qv (c_ba g (sb_cap (n + ssz i) m) h1)) qs qv bs v1 n (sb_cap (n + ssz i) m) ml h1 hqs hqv hne ((va_up_ne _ _ hne).trans hbs) (va_up_self _ _ _) ((va_up_ne _ _ hne).trans (va_up_self _ _ _)) (va_up_self _ _ _) hF1 H.size) mc_J5_isLatin1_aae02 ⟨mc_J5_isLatin1_aae02.1, mc_J5_isLatin1_aae02.2.1⟩ (tb_in (lw_at 191 (by decide +kernel)) rfl) (tb_in (lw_at 192 (by decide +kernel)) rfl) md_J5_isLatin1_aae02 rfl lk_J5_83 ⟨Nat.le_of_ble_eq_true rfl, Nat.le_of_ble_eq_true rfl⟩ hA hK hT B hqs ((va_up_ne _ _ hne).trans (va_up_self _ _ _)) hl.1 rfl (Nat.le_of_ble_eq_true rfl) dJ5_append_c97b9_18 (by dsimp only [rm]; omega)) (by dsimp only [rm]; omega) (by dsimp only [rm]; omega) (fun r ad' f' H locs hw B => ?_)
  obtain ⟨rfl, rfl, rfl⟩ := hw
  refine lv_if_eq (tgt := 37) hx hb dJ5_append_c97b9_21 (by decide) (fun z => absurd z (by decide)) (fun _ => ?_)
  refine lv_iload_n hx hb dJ5_append_c97b9_24 rfl (lv_at hl 3 rfl) ?_
  refine lv_iload_n hx hb dJ5_append_c97b9_25 rfl (lv_at hl 0 rfl) ?_
  refine lv_aload_n hx hb dJ5_append_c97b9_26 rfl (lv_at hl 2 rfl) ?_
  refine b_get (q := qs) (k := 0) ((va_up_ne _ _ hne).trans hbs) X hK B rfl in_J4 hqs ((va_up_ne _ _ hne).trans (va_up_self _ _ _)) (by decide) lk_J5_15 rfl rfl dJ5_append_c97b9_27 ?_
  refine k_i (k := (0 + gC m (sb_cap (n + ssz i) m))) (n := (0 + gS m (sb_cap (n + ssz i) m))) hA B (u_S (rest := []) X (c_J6_getChars_ba4f3 l g N (va_up ad qv v1) (va_up (va_up f qs (c_sb v1 ml n)) qv (c_ba g (sb_cap (n + ssz i) m) h1)) i (nI (n + ssz i)) qv (sb_cap (n + ssz i) m) v1 h1 hqv (va_up_self _ _ _) (va_up_self _ _ _) (gcs_in hcap (by omega)) H.size) mw_J6_getChars_ba4f3 md_J6_getChars_ba4f3 rfl lk_J5_248 ⟨Nat.le_of_ble_eq_true rfl, Nat.le_of_ble_eq_true rfl⟩ hA hK hT B hl.1 rfl (Nat.le_of_ble_eq_true rfl) dJ5_append_c97b9_30 (by dsimp only [rm]; omega)) (by dsimp only [rm]; omega) (by dsimp only [rm]; omega) (fun r ad' f' H locs hw B => ?_)
  obtain ⟨rfl, rfl, rfl⟩ := hw
  rw [bx_uu] at B
  have B : WB g (aw N ad sz) s.heap N (va_up ad qv v1) (va_up (va_up f qs (c_sb v1 ml n)) qv (c_ba g (sb_cap (n + ssz i) m) ((v_J6_getChars_ba4f3 h1 i (nI (n + ssz i))).2))) H locs := B
  refine lv_pop hx hb dJ5_append_c97b9_33 rfl ?_
  refine lv_goto (tgt := 48) hx hb dJ5_append_c97b9_34 (by decide) ?_
  refine lv_aload_n hx hb dJ5_append_c97b9_48 rfl (lv_at hl 2 rfl) ?_
  refine lv_iload_n hx hb dJ5_append_c97b9_49 rfl (lv_at hl 0 rfl) ?_
  refine b_put (q := qs) (k := 3) ((va_up_ne _ _ hne).trans hbs) X hK B rfl in_J4 tyJ4_ok nmJ4 hqs ((va_up_ne _ _ hne).trans (va_up_self _ _ _)) (by decide) lk_J5_79 rfl rfl rfl rfl rfl (Nat.le_of_ble_eq_true rfl) dJ5_append_c97b9_50 (fun H locs B => ?_)
  rw [sw_s hne] at B
  have B : WB g (aw N ad sz) s.heap N (va_up ad qv v1) (va_up (va_up f qs (c_sb v1 ml (n + ssz i))) qv (c_ba g (sb_cap (n + ssz i) m) ((v_J6_getChars_ba4f3 h1 i (nI (n + ssz i))).2))) H locs := B
  refine lv_aload_n hx hb dJ5_append_c97b9_53 rfl (lv_at hl 2 rfl) ?_
  exact rt_r (r := some bs) rfl X hr (Or.inl ⟨_, rfl⟩) ((va_up ad qv v1), va_up (va_up f qs (c_sb v1 ml (n + ssz i))) qv (c_ba g (sb_cap (n + ssz i) m) ((v_J6_getChars_ba4f3 h1 i (nI (n + ssz i))).2))) B (PO_of B) ⟨v1, ((v_J6_getChars_ba4f3 h1 i (nI (n + ssz i))).2), (fitI _ _ hF1), rfl, rfl, rfl⟩ (by dsimp only [rm]; omega) (by dsimp only [rm]; omega) dJ5_append_c97b9_54
set_option maxHeartbeats 4000000 in
theorem c_S_appI (l : Launch) (g : GG) (N : Nat) (ad : Nat → Nat) (f : Nat → va_E) (qs qv bs v n m : Nat) (ml : Int32) (h : Nat → Int32) (hqs : qs < N) (hqv : qv < N) (hne : qs ≠ qv) (hbs : ad qs = bs) (hbv : ad qv = v) (hfs : f qs = c_sb v ml n) (hfv : f qv = c_ba g m h) (hF : sb_Fit h) (hnm : n ≤ m) (hm : m ≤ 70) (i : Int32) (hi2 : n + ssz i ≤ 2 * m + 2) : KR l yJ4_append_bf812 cJ4_append_bf812 2 (.object "java/lang/StringBuilder") (rm 5 (gC m (sb_cap (n + ssz i) m)) (gS m (sb_cap (n + ssz i) m))) g [.ref bs, .int i] N ad f N (fun r ad' f' => ∃ (v' : Nat) (h' : Nat → Int32), sb_Fit h' ∧ some bs = r ∧ va_up ad qv v' = ad' ∧ va_up (va_up f qs (c_sb v' ml (n + ssz i))) qv (c_ba g (sb_cap (n + ssz i) m) h') = f') := by
  intro sz
  refine mt_start (by decide) (Nat.le_of_ble_eq_true rfl) ?_
  intro p e0 s m9 args below meth c hsz X hr hnam hA hK hT H locs B ls hl
  obtain ⟨hx, hb, hml, hown, hts, hlocks⟩ := id X
  have hl : lv_has ls 2 [(0, .ref bs), (1, .int i)] := hl
  refine lv_aload_n hx hb dJ4_append_bf812_0 rfl (lv_at hl 0 rfl) ?_
  refine lv_iload_n hx hb dJ4_append_bf812_1 rfl (lv_at hl 1 rfl) ?_
  refine k_r (k := (0 + gC m (sb_cap (n + ssz i) m))) (n := (0 + gS m (sb_cap (n + ssz i) m))) hA B (u_U (q := qs) (rest := []) hbs rfl X (c_S_appI5 l g N ad f qs qv bs v n m ml h hqs hqv hne hbs hbv hfs hfv hF hnm hm i hi2 H.size) mc_J5_append_c97b9 (by decide) rfl md_J5_append_c97b9 rfl lk_J4_53 ⟨Nat.le_of_ble_eq_true rfl, Nat.le_of_ble_eq_true rfl⟩ hA hK hT B hqs hfs hl.1 rfl (Nat.le_of_ble_eq_true rfl) dJ4_append_bf812_2 (by dsimp only [rm]; omega)) (by dsimp only [rm]; omega) (by dsimp only [rm]; omega) (fun r ad' f' H locs hw B => ?_)
  obtain ⟨v1, h1, hF1, rfl, rfl, rfl⟩ := hw
  refine lv_pop hx hb dJ4_append_bf812_5 rfl ?_
  refine lv_aload_n hx hb dJ4_append_bf812_6 rfl (lv_at hl 0 rfl) ?_
  exact rt_r (r := some bs) rfl X hr (Or.inl ⟨_, rfl⟩) ((va_up ad qv v1), va_up (va_up f qs (c_sb v1 ml (n + ssz i))) qv (c_ba g (sb_cap (n + ssz i) m) h1)) B (PO_of B) ⟨v1, h1, hF1, rfl, rfl, rfl⟩ (by dsimp only [rm]; omega) (by dsimp only [rm]; omega) dJ4_append_bf812_7
set_option maxHeartbeats 4000000 in
theorem c_T_can (l : Launch) (g : GG) (N : Nat) (ad : Nat → Nat) (f : Nat → va_E) (i : Int32) (hi : ¬ 255 < i) : KI l yJ1_canEncode_fc78d cJ1_canEncode_fc78d 1 (some .boolean) (rm 0 0 0) g [.int i] N ad f N (fun r ad' f' => ad = ad' ∧ 1 = r ∧ f = f') := by
  intro sz
  refine mt_start (by decide) (Nat.le_of_ble_eq_true rfl) ?_
  intro p e0 s m9 args below meth c hsz X hr hnam hA hK hT H locs B ls hl
  obtain ⟨hx, hb, hml, hown, hts, hlocks⟩ := id X
  have hl : lv_has ls 1 [(0, .int i)] := hl
  refine lv_iload_n hx hb dJ1_canEncode_fc78d_0 rfl (lv_at hl 0 rfl) ?_
  refine lv_sipush (v := 255) hx hb dJ1_canEncode_fc78d_1 (by decide) ?_
  refine lv_icmp_gt (tgt := 11) hx hb dJ1_canEncode_fc78d_4 (by decide) (fun z => absurd z hi) (fun _ => ?_)
  refine lv_iconst (v := 1) hx hb dJ1_canEncode_fc78d_7 (by decide) ?_
  refine lv_goto (tgt := 12) hx hb dJ1_canEncode_fc78d_8 (by decide) ?_
  exact rt_i X hr (ad, f) B (PO_of B) ⟨rfl, rfl, rfl⟩ rfl (by dsimp only [rm]; omega) (by dsimp only [rm]; omega) dJ1_canEncode_fc78d_12
set_option maxHeartbeats 4000000 in
theorem c_S_appC5 (l : Launch) (g : GG) (N : Nat) (ad : Nat → Nat) (f : Nat → va_E) (qs qv bs v n m : Nat) (ml : Int32) (h : Nat → Int32) (hqs : qs < N) (hqv : qv < N) (hne : qs ≠ qv) (hbs : ad qs = bs) (hbv : ad qv = v) (hfs : f qs = c_sb v ml n) (hfv : f qv = c_ba g m h) (hF : sb_Fit h) (hnm : n ≤ m) (hm : m ≤ 70) (i : Int32) (hi : ¬ 255 < i) : KR l yJ5_append_3fe6f cJ5_append_3fe6f 2 (.object "java/lang/AbstractStringBuilder") (rm 4 (gC m (sb_cap (n + 1) m)) (gS m (sb_cap (n + 1) m))) g [.ref bs, .int i] N ad f N (fun r ad' f' => ∃ (v' : Nat) (h' : Nat → Int32), sb_Fit h' ∧ some bs = r ∧ va_up ad qv v' = ad' ∧ va_up (va_up f qs (c_sb v' ml (n + 1))) qv (c_ba g (sb_cap (n + 1) m) h') = f') := by
  intro sz
  refine mt_start (by decide) (Nat.le_of_ble_eq_true rfl) ?_
  intro p e0 s m9 args below meth c hsz X hr hnam hA hK hT H locs B ls hl
  obtain ⟨hx, hb, hml, hown, hts, hlocks⟩ := id X
  have hl : lv_has ls 2 [(0, .ref bs), (1, .int i)] := hl
  have hcb := cap_b (q := n + 1) (m := m) (by omega) hm
  refine lv_aload_n hx hb dJ5_append_3fe6f_0 rfl (lv_at hl 0 rfl) ?_
  refine lv_aload_n hx hb dJ5_append_3fe6f_1 rfl (lv_at hl 0 rfl) ?_
  refine b_get (q := qs) (k := 3) hbs X hK B rfl in_J4 hqs hfs (by decide) lk_J5_79 rfl rfl dJ5_append_3fe6f_2 ?_
  refine lv_iconst (v := 1) hx hb dJ5_append_3fe6f_5 (by decide) ?_
  refine lv_iadd hx hb dJ5_append_3fe6f_6 ?_
  rw [nI_1]
  refine k_v (k := (0 + gC m (sb_cap (n + 1) m))) (n := (0 + gS m (sb_cap (n + 1) m))) hA B (u_P (q := qs) (rest := []) hbs X (c_S_ensure l g N ad f qs qv bs v n m ml h hqs hqv hne hbs hbv hfs hfv hF hnm hm (n + 1) (by omega) H.size) mc_J5_ensureCapacityInternal_d00df (lw_at 155 (by decide +kernel)) rfl md_J5_ensureCapacityInternal_d00df rfl lk_J5_100 ⟨Nat.le_of_ble_eq_true rfl, Nat.le_of_ble_eq_true rfl⟩ hA hK hT B hqs hfs hl.1 rfl (Nat.le_of_ble_eq_true rfl) dJ5_append_3fe6f_7 (by dsimp only [rm]; omega)) (by dsimp only [rm]; omega) (by dsimp only [rm]; omega) (fun ad' f' H locs hw B => ?_)
  obtain ⟨v1, h1, hF1, rfl, rfl⟩ := hw
  refine lv_aload_n hx hb dJ5_append_3fe6f_10 rfl (lv_at hl 0 rfl) ?_
  refine k_i (k := (0 + gC m (sb_cap (n + 1) m))) (n := (0 + gS m (sb_cap (n + 1) m))) hA B (u_H (x := yJ5_isLatin1_aae02) (q := qs) (rest := []) ((va_up_ne _ _ hne).trans hbs) X (c_S_lat l g N (va_up ad qv v1) (va_up (va_up f qs (c_sb v1 ml n)) qv (c_ba g (sb_cap (n + 1) m) h1)) qs qv bs v1 n (sb_cap (n + 1) m) ml h1 hqs hqv hne ((va_up_ne _ _ hne).trans hbs) (va_up_self _ _ _) ((va_up_ne _ _ hne).trans (va_up_self _ _ _)) (va_up_self _ _ _) hF1 H.size) mc_J5_isLatin1_aae02 ⟨mc_J5_isLatin1_aae02.1, mc_J5_isLatin1_aae02.2.1⟩ (tb_in (lw_at 191 (by decide +kernel)) rfl) (tb_in (lw_at 192 (by decide +kernel)) rfl) md_J5_isLatin1_aae02 rfl lk_J5_83 ⟨Nat.le_of_ble_eq_true rfl, Nat.le_of_ble_eq_true rfl⟩ hA hK hT B hqs ((va_up_ne _ _ hne).trans (va_up_self _ _ _)) hl.1 rfl (Nat.le_of_ble_eq_true rfl) dJ5_append_3fe6f_11 (by dsimp only [rm]; omega)) (by dsimp only [rm]; omega) (by dsimp only [rm]; omega) (fun r ad' f' H locs hw B => ?_)
  obtain ⟨rfl, rfl, rfl⟩ := hw
  refine lv_if_eq (tgt := 45) hx hb dJ5_append_3fe6f_14 (by decide) (fun z => absurd z (by decide)) (fun _ => ?_)
  refine lv_iload_n hx hb dJ5_append_3fe6f_17 rfl (lv_at hl 1 rfl) ?_
  refine k_i (k := (0 + gC m (sb_cap (n + 1) m))) (n := (0 + gS m (sb_cap (n + 1) m))) hA B (u_S (rest := []) X (c_T_can l g N (va_up ad qv v1) (va_up (va_up f qs (c_sb v1 ml n)) qv (c_ba g (sb_cap (n + 1) m) h1)) i hi H.size) mw_J1_canEncode_fc78d md_J1_canEncode_fc78d rfl lk_J5_191 ⟨Nat.le_of_ble_eq_true rfl, Nat.le_of_ble_eq_true rfl⟩ hA hK hT B hl.1 rfl (Nat.le_of_ble_eq_true rfl) dJ5_append_3fe6f_18 (by dsimp only [rm]; omega)) (by dsimp only [rm]; omega) (by dsimp only [rm]; omega) (fun r ad' f' H locs hw B => ?_)
  obtain ⟨rfl, rfl, rfl⟩ := hw
  refine lv_if_eq (tgt := 45) hx hb dJ5_append_3fe6f_21 (by decide) (fun z => absurd z (by decide)) (fun _ => ?_)
  refine lv_aload_n hx hb dJ5_append_3fe6f_24 rfl (lv_at hl 0 rfl) ?_
  refine b_get (q := qs) (k := 0) ((va_up_ne _ _ hne).trans hbs) X hK B rfl in_J4 hqs ((va_up_ne _ _ hne).trans (va_up_self _ _ _)) (by decide) lk_J5_15 rfl rfl dJ5_append_3fe6f_25 ?_
  refine lv_aload_n hx hb dJ5_append_3fe6f_28 rfl (lv_at hl 0 rfl) ?_
  refine lv_dup hx hb dJ5_append_3fe6f_29 rfl ?_
  refine b_get (q := qs) (k := 3) ((va_up_ne _ _ hne).trans hbs) X hK B rfl in_J4 hqs ((va_up_ne _ _ hne).trans (va_up_self _ _ _)) (by decide) lk_J5_79 rfl rfl dJ5_append_3fe6f_30 ?_
  refine lv_dup_x1 hx hb dJ5_append_3fe6f_33 rfl rfl ?_
  refine lv_iconst (v := 1) hx hb dJ5_append_3fe6f_34 (by decide) ?_
  refine lv_iadd hx hb dJ5_append_3fe6f_35 ?_
  rw [nI_1]
  refine b_put (q := qs) (k := 3) ((va_up_ne _ _ hne).trans hbs) X hK B rfl in_J4 tyJ4_ok nmJ4 hqs ((va_up_ne _ _ hne).trans (va_up_self _ _ _)) (by decide) lk_J5_79 rfl rfl rfl rfl rfl (Nat.le_of_ble_eq_true rfl) dJ5_append_3fe6f_36 (fun H locs B => ?_)
  rw [sw_s hne] at B
  have B : WB g (aw N ad sz) s.heap N (va_up ad qv v1) (va_up (va_up f qs (c_sb v1 ml (n + 1))) qv (c_ba g (sb_cap (n + 1) m) h1)) H locs := B
  refine lv_iload_n hx hb dJ5_append_3fe6f_39 rfl (lv_at hl 1 rfl) ?_
  refine lv_i2b (v := i.toInt8.toInt32) hx hb dJ5_append_3fe6f_40 rfl ?_
  refine b_bast (q := qv) (va_up_self _ _ _) X hK B hqv (va_up_self _ _ _) (n_in (by omega) (by omega)) dJ5_append_3fe6f_41 (fun H locs B => ?_)
  rw [bx_uu] at B
  have B : WB g (aw N ad sz) s.heap N (va_up ad qv v1) (va_up (va_up f qs (c_sb v1 ml (n + 1))) qv (c_ba g (sb_cap (n + 1) m) (upd h1 (nI n).toNatClampNeg (vp_nar .byte i.toInt8.toInt32)))) H locs := B
  refine lv_goto (tgt := 75) hx hb dJ5_append_3fe6f_42 (by decide) ?_
  refine lv_aload_n hx hb dJ5_append_3fe6f_75 rfl (lv_at hl 0 rfl) ?_
  exact rt_r (r := some bs) rfl X hr (Or.inl ⟨_, rfl⟩) ((va_up ad qv v1), va_up (va_up f qs (c_sb v1 ml (n + 1))) qv (c_ba g (sb_cap (n + 1) m) (upd h1 (nI n).toNatClampNeg (vp_nar .byte i.toInt8.toInt32)))) B (PO_of B) ⟨v1, (upd h1 (nI n).toNatClampNeg (vp_nar .byte i.toInt8.toInt32)), (sb_fitU hF1 (fit_nar _)), rfl, rfl, rfl⟩ (by dsimp only [rm]; omega) (by dsimp only [rm]; omega) dJ5_append_3fe6f_76
set_option maxHeartbeats 4000000 in
theorem c_S_appC (l : Launch) (g : GG) (N : Nat) (ad : Nat → Nat) (f : Nat → va_E) (qs qv bs v n m : Nat) (ml : Int32) (h : Nat → Int32) (hqs : qs < N) (hqv : qv < N) (hne : qs ≠ qv) (hbs : ad qs = bs) (hbv : ad qv = v) (hfs : f qs = c_sb v ml n) (hfv : f qv = c_ba g m h) (hF : sb_Fit h) (hnm : n ≤ m) (hm : m ≤ 70) (i : Int32) (hi : ¬ 255 < i) : KR l yJ4_append_cf468 cJ4_append_cf468 2 (.object "java/lang/StringBuilder") (rm 5 (gC m (sb_cap (n + 1) m)) (gS m (sb_cap (n + 1) m))) g [.ref bs, .int i] N ad f N (fun r ad' f' => ∃ (v' : Nat) (h' : Nat → Int32), sb_Fit h' ∧ some bs = r ∧ va_up ad qv v' = ad' ∧ va_up (va_up f qs (c_sb v' ml (n + 1))) qv (c_ba g (sb_cap (n + 1) m) h') = f') := by
  intro sz
  refine mt_start (by decide) (Nat.le_of_ble_eq_true rfl) ?_
  intro p e0 s m9 args below meth c hsz X hr hnam hA hK hT H locs B ls hl
  obtain ⟨hx, hb, hml, hown, hts, hlocks⟩ := id X
  have hl : lv_has ls 2 [(0, .ref bs), (1, .int i)] := hl
  refine lv_aload_n hx hb dJ4_append_cf468_0 rfl (lv_at hl 0 rfl) ?_
  refine lv_iload_n hx hb dJ4_append_cf468_1 rfl (lv_at hl 1 rfl) ?_
  refine k_r (k := (0 + gC m (sb_cap (n + 1) m))) (n := (0 + gS m (sb_cap (n + 1) m))) hA B (u_U (q := qs) (rest := []) hbs rfl X (c_S_appC5 l g N ad f qs qv bs v n m ml h hqs hqv hne hbs hbv hfs hfv hF hnm hm i hi H.size) mc_J5_append_3fe6f (by decide) rfl md_J5_append_3fe6f rfl lk_J4_50 ⟨Nat.le_of_ble_eq_true rfl, Nat.le_of_ble_eq_true rfl⟩ hA hK hT B hqs hfs hl.1 rfl (Nat.le_of_ble_eq_true rfl) dJ4_append_cf468_2 (by dsimp only [rm]; omega)) (by dsimp only [rm]; omega) (by dsimp only [rm]; omega) (fun r ad' f' H locs hw B => ?_)
  obtain ⟨v1, h1, hF1, rfl, rfl, rfl⟩ := hw
  refine lv_pop hx hb dJ4_append_cf468_5 rfl ?_
  refine lv_aload_n hx hb dJ4_append_cf468_6 rfl (lv_at hl 0 rfl) ?_
  exact rt_r (r := some bs) rfl X hr (Or.inl ⟨_, rfl⟩) ((va_up ad qv v1), va_up (va_up f qs (c_sb v1 ml (n + 1))) qv (c_ba g (sb_cap (n + 1) m) h1)) B (PO_of B) ⟨v1, h1, hF1, rfl, rfl, rfl⟩ (by dsimp only [rm]; omega) (by dsimp only [rm]; omega) dJ4_append_cf468_7
set_option maxHeartbeats 4000000 in
theorem c_K_coder (l : Launch) (g : GG) (N : Nat) (ad : Nat → Nat) (f : Nat → va_E) (i : Nat) (hi : i < st_n) : KI l yJ0_coder_7d493 cJ0_coder_7d493 1 (some .byte) (rm 0 0 0) g [.ref (g.2.2 (100 + i))] N ad f N (fun r ad' f' => ad = ad' ∧ 0 = r ∧ f = f') := by
  intro sz
  refine mt_start (by decide) (Nat.le_of_ble_eq_true rfl) ?_
  intro p e0 s m9 args below meth c hsz X hr hnam hA hK hT H locs B ls hl
  obtain ⟨hx, hb, hml, hown, hts, hlocks⟩ := id X
  have hl : lv_has ls 1 [(0, .ref (g.2.2 (100 + i)))] := hl
  refine va_gets hx hb hT.2.1.1 B.2.2 hown (hts _ (List.mem_cons_of_mem _ lk_J0_38)) (fun _ h => h) dJ0_coder_7d493_0 ?_
  refine lv_if_eq (tgt := 13) hx hb dJ0_coder_7d493_3 (by decide) (fun z => absurd z (by decide)) (fun _ => ?_)
  refine lv_aload_n hx hb dJ0_coder_7d493_6 rfl (lv_at hl 0 rfl) ?_
  refine b_kget X (hT.2.2.2.2.1 i hi).2.1 B lk_J0_15 dJ0_coder_7d493_7 ?_
  refine lv_goto (tgt := 14) hx hb dJ0_coder_7d493_10 (by decide) ?_
  exact rt_i X hr (ad, f) B (PO_of B) ⟨rfl, rfl, rfl⟩ rfl (by dsimp only [rm]; omega) (by dsimp only [rm]; omega) dJ0_coder_7d493_14
set_option maxHeartbeats 4000000 in
theorem c_K_len (l : Launch) (g : GG) (N : Nat) (ad : Nat → Nat) (f : Nat → va_E) (i : Nat) (hi : i < st_n) : KI l yJ0_length_8abf5 cJ0_length_8abf5 1 (some .int) (rm 1 0 0) g [.ref (g.2.2 (100 + i))] N ad f N (fun r ad' f' => ad = ad' ∧ nI (st_len.getD i 0) = r ∧ f = f') := by
  intro sz
  refine mt_start (by decide) (Nat.le_of_ble_eq_true rfl) ?_
  intro p e0 s m9 args below meth c hsz X hr hnam hA hK hT H locs B ls hl
  obtain ⟨hx, hb, hml, hown, hts, hlocks⟩ := id X
  have hl : lv_has ls 1 [(0, .ref (g.2.2 (100 + i)))] := hl
  refine lv_aload_n hx hb dJ0_length_8abf5_0 rfl (lv_at hl 0 rfl) ?_
  refine b_kget X (hT.2.2.2.2.1 i hi).2.2.1 B lk_J0_9 dJ0_length_8abf5_1 ?_
  refine va_tlen hx hb (hT.2.2.2.2.1 i hi).2.2.2 B.2.2 (v := nI (st_len.getD i 0)) rfl dJ0_length_8abf5_4 ?_
  refine lv_aload_n hx hb dJ0_length_8abf5_5 rfl (lv_at hl 0 rfl) ?_
  refine k_i (k := (0)) (n := (0)) hA B (u_K (rest := [.int (nI (st_len.getD i 0))]) hi X (c_K_coder l g N ad f i hi H.size) mw_J0_coder_7d493 rfl md_J0_coder_7d493 rfl lk_J0_335 ⟨Nat.le_of_ble_eq_true rfl, Nat.le_of_ble_eq_true rfl⟩ hA hK hT B hl.1 rfl (Nat.le_of_ble_eq_true rfl) dJ0_length_8abf5_6 (by dsimp only [rm]; omega)) (by dsimp only [rm]; omega) (by dsimp only [rm]; omega) (fun r ad' f' H locs hw B => ?_)
  obtain ⟨rfl, rfl, rfl⟩ := hw
  refine lv_ishr hx hb dJ0_length_8abf5_9 ?_
  rw [sb_shr0]
  exact rt_i X hr (ad, f) B (PO_of B) ⟨rfl, rfl, rfl⟩ rfl (by dsimp only [rm]; omega) (by dsimp only [rm]; omega) dJ0_length_8abf5_10
set_option maxHeartbeats 4000000 in
theorem c_K_getBytes (l : Launch) (g : GG) (N : Nat) (ad : Nat → Nat) (f : Nat → va_E) (i : Nat) (hi : i < st_n) (qb b m : Nat) (h : Nat → Int32) (hqb : qb < N) (hbb : ad qb = b) (hfb : f qb = c_ba g m h) (hF : sb_Fit h) (hm : m ≤ 150) (n : Nat) (hnk : n + st_len.getD i 0 ≤ m) : KV l yJ0_getBytes_840e7 cJ0_getBytes_840e7 4 (rm 1 0 0) g [.ref (g.2.2 (100 + i)), .ref b, .int (nI n), .int 0] N ad f N (fun ad' f' => ∃ h' : Nat → Int32, sb_Fit h' ∧ ad = ad' ∧ va_up f qb (c_ba g m h') = f') := by
  intro sz
  refine mt_start (by decide) (Nat.le_of_ble_eq_true rfl) ?_
  intro p e0 s m9 args below meth c hsz X hr hnam hA hK hT H locs B ls hl
  obtain ⟨hx, hb, hml, hown, hts, hlocks⟩ := id X
  have hl : lv_has ls 4 [(0, .ref (g.2.2 (100 + i))), (1, .ref b), (2, .int (nI n)), (3, .int 0)] := hl
  have hsl := sl_len hi
  refine lv_aload_n hx hb dJ0_getBytes_840e7_0 rfl (lv_at hl 0 rfl) ?_
  refine k_i (k := (0)) (n := (0)) hA B (u_K (rest := []) hi X (c_K_coder l g N ad f i hi H.size) mw_J0_coder_7d493 rfl md_J0_coder_7d493 rfl lk_J0_335 ⟨Nat.le_of_ble_eq_true rfl, Nat.le_of_ble_eq_true rfl⟩ hA hK hT B hl.1 rfl (Nat.le_of_ble_eq_true rfl) dJ0_getBytes_840e7_1 (by dsimp only [rm]; omega)) (by dsimp only [rm]; omega) (by dsimp only [rm]; omega) (fun r ad' f' H locs hw B => ?_)
  obtain ⟨rfl, rfl, rfl⟩ := hw
  refine lv_iload_n hx hb dJ0_getBytes_840e7_4 rfl (lv_at hl 3 rfl) ?_
  refine lv_icmp_ne (tgt := 28) hx hb dJ0_getBytes_840e7_5 (by decide) (fun z => absurd z (by decide)) (fun _ => ?_)
  refine lv_aload_n hx hb dJ0_getBytes_840e7_8 rfl (lv_at hl 0 rfl) ?_
  refine b_kget X (hT.2.2.2.2.1 i hi).2.2.1 B lk_J0_9 dJ0_getBytes_840e7_9 ?_
  refine lv_iconst (v := 0) hx hb dJ0_getBytes_840e7_12 (by decide) ?_
  refine lv_aload_n hx hb dJ0_getBytes_840e7_13 rfl (lv_at hl 1 rfl) ?_
  refine lv_iload_n hx hb dJ0_getBytes_840e7_14 rfl (lv_at hl 2 rfl) ?_
  refine lv_iload_n hx hb dJ0_getBytes_840e7_15 rfl (lv_at hl 3 rfl) ?_
  refine lv_ishl hx hb dJ0_getBytes_840e7_16 ?_
  rw [sb_shl0]
  refine lv_aload_n hx hb dJ0_getBytes_840e7_17 rfl (lv_at hl 0 rfl) ?_
  refine b_kget X (hT.2.2.2.2.1 i hi).2.2.1 B lk_J0_9 dJ0_getBytes_840e7_18 ?_
  refine va_tlen hx hb (hT.2.2.2.2.1 i hi).2.2.2 B.2.2 (v := nI (st_len.getD i 0)) rfl dJ0_getBytes_840e7_21 ?_
  refine b_copyk (i := i) (q1 := qb) (rest := []) hi hbb X hl.1 lk_J0_212 hK hT B hqb hfb (by decide) (nI_pos (by omega)) (nI_pos (by omega)) (by rw [sb_cl0, nI_clamp (by omega)]; omega) (by rw [nI_clamp (by omega), nI_clamp (by omega)]; exact hnk) (st_fit i hi) (Nat.le_of_ble_eq_true rfl) (Nat.le_of_ble_eq_true rfl) dJ0_getBytes_840e7_22 (fun H locs B => ?_)
  have B : WB g (aw N ad sz) s.heap N ad (va_up f qb (c_ba g m (va_cpy (fun j => (st_byt.getD i []).getD j 0) h (0 : Int32).toNatClampNeg (nI n).toNatClampNeg (nI (st_len.getD i 0)).toNatClampNeg))) H locs := B
  refine lv_goto (tgt := 43) hx hb dJ0_getBytes_840e7_25 (by decide) ?_
  exact rt_v X hr (ad, va_up f qb (c_ba g m (va_cpy (fun j => (st_byt.getD i []).getD j 0) h (0 : Int32).toNatClampNeg (nI n).toNatClampNeg (nI (st_len.getD i 0)).toNatClampNeg))) B (PO_of B) ⟨_, sb_fitC (st_fit i hi) hF, rfl, rfl⟩ (by dsimp only [rm]; omega) (by dsimp only [rm]; omega) dJ0_getBytes_840e7_43
set_option maxHeartbeats 4000000 in
theorem c_S_infl (l : Launch) (g : GG) (N : Nat) (ad : Nat → Nat) (f : Nat → va_E) (qs qv bs v n m : Nat) (ml : Int32) (h : Nat → Int32) (hqs : qs < N) (hqv : qv < N) (hne : qs ≠ qv) (hbs : ad qs = bs) (hbv : ad qv = v) (hfs : f qs = c_sb v ml n) (hfv : f qv = c_ba g m h) (hF : sb_Fit h) (i : Nat) (hi : i < st_n) : KV l yJ5_inflateIfNeededFor_a7421 cJ5_inflateIfNeededFor_a7421 2 (rm 1 0 0) g [.ref bs, .ref (g.2.2 (100 + i))] N ad f N (fun ad' f' => ad = ad' ∧ f = f') := by
  intro sz
  refine mt_start (by decide) (Nat.le_of_ble_eq_true rfl) ?_
  intro p e0 s m9 args below meth c hsz X hr hnam hA hK hT H locs B ls hl
  obtain ⟨hx, hb, hml, hown, hts, hlocks⟩ := id X
  have hl : lv_has ls 2 [(0, .ref bs), (1, .ref (g.2.2 (100 + i)))] := hl
  refine va_gets hx hb hT.2.1.1 B.2.2 hown (hts _ (List.mem_cons_of_mem _ lk_J5_18)) (fun _ h => h) dJ5_inflateIfNeededFor_a7421_0 ?_
  refine lv_if_eq (tgt := 21) hx hb dJ5_inflateIfNeededFor_a7421_3 (by decide) (fun z => absurd z (by decide)) (fun _ => ?_)
  refine lv_aload_n hx hb dJ5_inflateIfNeededFor_a7421_6 rfl (lv_at hl 0 rfl) ?_
  refine b_get (q := qs) (k := 1) hbs X hK B rfl in_J4 hqs hfs (by decide) lk_J5_22 rfl rfl dJ5_inflateIfNeededFor_a7421_7 ?_
  refine lv_aload_n hx hb dJ5_inflateIfNeededFor_a7421_10 rfl (lv_at hl 1 rfl) ?_
  refine k_i (k := (0)) (n := (0)) hA B (u_K (rest := [.int 0]) hi X (c_K_coder l g N ad f i hi H.size) mw_J0_coder_7d493 rfl md_J0_coder_7d493 rfl lk_J5_40 ⟨Nat.le_of_ble_eq_true rfl, Nat.le_of_ble_eq_true rfl⟩ hA hK hT B hl.1 rfl (Nat.le_of_ble_eq_true rfl) dJ5_inflateIfNeededFor_a7421_11 (by dsimp only [rm]; omega)) (by dsimp only [rm]; omega) (by dsimp only [rm]; omega) (fun r ad' f' H locs hw B => ?_)
  obtain ⟨rfl, rfl, rfl⟩ := hw
  refine lv_icmp_eq (tgt := 21) hx hb dJ5_inflateIfNeededFor_a7421_14 (by decide) (fun _ => ?_) (fun z => absurd z (by decide))
  exact rt_v X hr (ad, f) B (PO_of B) ⟨rfl, rfl⟩ (by dsimp only [rm]; omega) (by dsimp only [rm]; omega) dJ5_inflateIfNeededFor_a7421_21
set_option maxHeartbeats 4000000 in
theorem c_S_putK (l : Launch) (g : GG) (N : Nat) (ad : Nat → Nat) (f : Nat → va_E) (qs qv bs v n m : Nat) (ml : Int32) (h : Nat → Int32) (hqs : qs < N) (hqv : qv < N) (hne : qs ≠ qv) (hbs : ad qs = bs) (hbv : ad qv = v) (hfs : f qs = c_sb v ml n) (hfv : f qv = c_ba g m h) (hF : sb_Fit h) (hm : m ≤ 150) (i : Nat) (hi : i < st_n) (hnk : n + st_len.getD i 0 ≤ m) : KV l yJ5_putStringAt_47b60 cJ5_putStringAt_47b60 3 (rm 2 0 0) g [.ref bs, .int (nI n), .ref (g.2.2 (100 + i))] N ad f N (fun ad' f' => ∃ h' : Nat → Int32, sb_Fit h' ∧ ad = ad' ∧ va_up f qv (c_ba g m h') = f') := by
  intro sz
  refine mt_start (by decide) (Nat.le_of_ble_eq_true rfl) ?_
  intro p e0 s m9 args below meth c hsz X hr hnam hA hK hT H locs B ls hl
  obtain ⟨hx, hb, hml, hown, hts, hlocks⟩ := id X
  have hl : lv_has ls 3 [(0, .ref bs), (1, .int (nI n)), (2, .ref (g.2.2 (100 + i)))] := hl
  refine lv_aload_n hx hb dJ5_putStringAt_47b60_0 rfl (lv_at hl 0 rfl) ?_
  refine lv_aload_n hx hb dJ5_putStringAt_47b60_1 rfl (lv_at hl 2 rfl) ?_
  refine k_v (k := (0)) (n := (0)) hA B (u_P (q := qs) (rest := []) hbs X (c_S_infl l g N ad f qs qv bs v n m ml h hqs hqv hne hbs hbv hfs hfv hF i hi H.size) mc_J5_inflateIfNeededFor_a7421 (lw_at 261 (by decide +kernel)) rfl md_J5_inflateIfNeededFor_a7421 rfl lk_J5_397 ⟨Nat.le_of_ble_eq_true rfl, Nat.le_of_ble_eq_true rfl⟩ hA hK hT B hqs hfs hl.1 rfl (Nat.le_of_ble_eq_true rfl) dJ5_putStringAt_47b60_2 (by dsimp only [rm]; omega)) (by dsimp only [rm]; omega) (by dsimp only [rm]; omega) (fun ad' f' H locs hw B => ?_)
  obtain ⟨rfl, rfl⟩ := hw
  refine lv_aload_n hx hb dJ5_putStringAt_47b60_5 rfl (lv_at hl 2 rfl) ?_
  refine lv_aload_n hx hb dJ5_putStringAt_47b60_6 rfl (lv_at hl 0 rfl) ?_
  refine b_get (q := qs) (k := 0) hbs X hK B rfl in_J4 hqs hfs (by decide) lk_J5_15 rfl rfl dJ5_putStringAt_47b60_7 ?_
  refine lv_iload_n hx hb dJ5_putStringAt_47b60_10 rfl (lv_at hl 1 rfl) ?_
  refine lv_aload_n hx hb dJ5_putStringAt_47b60_11 rfl (lv_at hl 0 rfl) ?_
  refine b_get (q := qs) (k := 1) hbs X hK B rfl in_J4 hqs hfs (by decide) lk_J5_22 rfl rfl dJ5_putStringAt_47b60_12 ?_
  refine k_v (k := (0)) (n := (0)) hA B (u_K (rest := []) hi X (c_K_getBytes l g N ad f i hi qv v m h hqv hbv hfv hF hm n hnk H.size) mw_J0_getBytes_840e7 rfl md_J0_getBytes_840e7 rfl lk_J5_399 ⟨Nat.le_of_ble_eq_true rfl, Nat.le_of_ble_eq_true rfl⟩ hA hK hT B hl.1 rfl (Nat.le_of_ble_eq_true rfl) dJ5_putStringAt_47b60_15 (by dsimp only [rm]; omega)) (by dsimp only [rm]; omega) (by dsimp only [rm]; omega) (fun ad' f' H locs hw B => ?_)
  obtain ⟨h1, hF1, rfl, rfl⟩ := hw
  exact rt_v X hr (ad, va_up f qv (c_ba g m h1)) B (PO_of B) ⟨h1, hF1, rfl, rfl⟩ (by dsimp only [rm]; omega) (by dsimp only [rm]; omega) dJ5_putStringAt_47b60_18
set_option maxHeartbeats 4000000 in
theorem c_S_appK5 (l : Launch) (g : GG) (N : Nat) (ad : Nat → Nat) (f : Nat → va_E) (qs qv bs v n m : Nat) (ml : Int32) (h : Nat → Int32) (hqs : qs < N) (hqv : qv < N) (hne : qs ≠ qv) (hbs : ad qs = bs) (hbv : ad qv = v) (hfs : f qs = c_sb v ml n) (hfv : f qv = c_ba g m h) (hF : sb_Fit h) (hnm : n ≤ m) (hm : m ≤ 70) (i : Nat) (hi : i < st_n) (hk2 : n + st_len.getD i 0 ≤ 2 * m + 2) : KR l yJ5_append_cf1ce cJ5_append_cf1ce 3 (.object "java/lang/AbstractStringBuilder") (rm 4 (gC m (sb_cap (n + st_len.getD i 0) m)) (gS m (sb_cap (n + st_len.getD i 0) m))) g [.ref bs, .ref (g.2.2 (100 + i))] N ad f N (fun r ad' f' => ∃ (v' : Nat) (h' : Nat → Int32), sb_Fit h' ∧ some bs = r ∧ va_up ad qv v' = ad' ∧ va_up (va_up f qs (c_sb v' ml (n + st_len.getD i 0))) qv (c_ba g (sb_cap (n + st_len.getD i 0) m) h') = f') := by
  intro sz
  refine mt_start (by decide) (Nat.le_of_ble_eq_true rfl) ?_
  intro p e0 s m9 args below meth c hsz X hr hnam hA hK hT H locs B ls hl
  obtain ⟨hx, hb, hml, hown, hts, hlocks⟩ := id X
  have hl : lv_has ls 3 [(0, .ref bs), (1, .ref (g.2.2 (100 + i)))] := hl
  have hcb := cap_b (q := n + st_len.getD i 0) (m := m) (by omega) hm
  have hsl := sl_len hi
  refine lv_aload_n hx hb dJ5_append_cf1ce_0 rfl (lv_at hl 1 rfl) ?_
  refine lv_ifnonnull (tgt := 9) hx hb dJ5_append_cf1ce_1 (by decide) ?_
  refine lv_aload_n hx hb dJ5_append_cf1ce_9 rfl (lv_at hl 1 rfl) ?_
  refine k_i (k := (0)) (n := (0)) hA B (u_K (rest := []) hi X (c_K_len l g N ad f i hi H.size) mw_J0_length_8abf5 rfl md_J0_length_8abf5 rfl lk_J5_32 ⟨Nat.le_of_ble_eq_true rfl, Nat.le_of_ble_eq_true rfl⟩ hA hK hT B hl.1 rfl (Nat.le_of_ble_eq_true rfl) dJ5_append_cf1ce_10 (by dsimp only [rm]; omega)) (by dsimp only [rm]; omega) (by dsimp only [rm]; omega) (fun r ad' f' H locs hw B => ?_)
  obtain ⟨rfl, rfl, rfl⟩ := hw
  refine lv_istore_n (lv' := [(2, .int (nI (st_len.getD i 0))), (0, .ref bs), (1, .ref (g.2.2 (100 + i)))]) hx hb dJ5_append_cf1ce_13 rfl hl (by decide) rfl (fun ls hl => ?_)
  refine lv_aload_n hx hb dJ5_append_cf1ce_14 rfl (lv_at hl 1 rfl) ?_
  refine lv_aload_n hx hb dJ5_append_cf1ce_15 rfl (lv_at hl 1 rfl) ?_
  refine b_get (q := qs) (k := 3) hbs X hK B rfl in_J4 hqs hfs (by decide) lk_J5_79 rfl rfl dJ5_append_cf1ce_16 ?_
  refine lv_iload_n hx hb dJ5_append_cf1ce_19 rfl (lv_at hl 0 rfl) ?_
  refine lv_iadd hx hb dJ5_append_cf1ce_20 ?_
  rw [nI_add]
  refine k_v (k := (0 + gC m (sb_cap (n + st_len.getD i 0) m))) (n := (0 + gS m (sb_cap (n + st_len.getD i 0) m))) hA B (u_P (q := qs) (rest := []) hbs X (c_S_ensure l g N ad f qs qv bs v n m ml h hqs hqv hne hbs hbv hfs hfv hF hnm hm (n + st_len.getD i 0) (by omega) H.size) mc_J5_ensureCapacityInternal_d00df (lw_at 155 (by decide +kernel)) rfl md_J5_ensureCapacityInternal_d00df rfl lk_J5_100 ⟨Nat.le_of_ble_eq_true rfl, Nat.le_of_ble_eq_true rfl⟩ hA hK hT B hqs hfs hl.1 rfl (Nat.le_of_ble_eq_true rfl) dJ5_append_cf1ce_21 (by dsimp only [rm]; omega)) (by dsimp only [rm]; omega) (by dsimp only [rm]; omega) (fun ad' f' H locs hw B => ?_)
  obtain ⟨v1, h1, hF1, rfl, rfl⟩ := hw
  refine lv_aload_n hx hb dJ5_append_cf1ce_24 rfl (lv_at hl 1 rfl) ?_
  refine lv_aload_n hx hb dJ5_append_cf1ce_25 rfl (lv_at hl 1 rfl) ?_
  refine b_get (q := qs) (k := 3) ((va_up_ne _ _ hne).trans hbs) X hK B rfl in_J4 hqs ((va_up_ne _ _ hne).trans (va_up_self _ _ _)) (by decide) lk_J5_79 rfl rfl dJ5_append_cf1ce_26 ?_
  refine lv_aload_n hx hb dJ5_append_cf1ce_29 rfl (lv_at hl 2 rfl) ?_
  refine k_v (k := (0 + gC m (sb_cap (n + st_len.getD i 0) m))) (n := (0 + gS m (sb_cap (n + st_len.getD i 0) m))) hA B (u_P (q := qs) (rest := []) ((va_up_ne _ _ hne).trans hbs) X (c_S_putK l g N (va_up ad qv v1) (va_up (va_up f qs (c_sb v1 ml n)) qv (c_ba g (sb_cap (n + st_len.getD i 0) m) h1)) qs qv bs v1 n (sb_cap (n + st_len.getD i 0) m) ml h1 hqs hqv hne ((va_up_ne _ _ hne).trans hbs) (va_up_self _ _ _) ((va_up_ne _ _ hne).trans (va_up_self _ _ _)) (va_up_self _ _ _) hF1 (by omega) i hi (by omega) H.size) mc_J5_putStringAt_47b60 (lw_at 257 (by decide +kernel)) rfl md_J5_putStringAt_47b60 rfl lk_J5_208 ⟨Nat.le_of_ble_eq_true rfl, Nat.le_of_ble_eq_true rfl⟩ hA hK hT B hqs ((va_up_ne _ _ hne).trans (va_up_self _ _ _)) hl.1 rfl (Nat.le_of_ble_eq_true rfl) dJ5_append_cf1ce_30 (by dsimp only [rm]; omega)) (by dsimp only [rm]; omega) (by dsimp only [rm]; omega) (fun ad' f' H locs hw B => ?_)
  obtain ⟨h2, hF2, rfl, rfl⟩ := hw
  rw [bx_uu] at B
  have B : WB g (aw N ad sz) s.heap N (va_up ad qv v1) (va_up (va_up f qs (c_sb v1 ml n)) qv (c_ba g (sb_cap (n + st_len.getD i 0) m) h2)) H locs := B
  refine lv_aload_n hx hb dJ5_append_cf1ce_33 rfl (lv_at hl 1 rfl) ?_
  refine lv_dup hx hb dJ5_append_cf1ce_34 rfl ?_
  refine b_get (q := qs) (k := 3) ((va_up_ne _ _ hne).trans hbs) X hK B rfl in_J4 hqs ((va_up_ne _ _ hne).trans (va_up_self _ _ _)) (by decide) lk_J5_79 rfl rfl dJ5_append_cf1ce_35 ?_
  refine lv_iload_n hx hb dJ5_append_cf1ce_38 rfl (lv_at hl 0 rfl) ?_
  refine lv_iadd hx hb dJ5_append_cf1ce_39 ?_
  rw [nI_add]
  refine b_put (q := qs) (k := 3) ((va_up_ne _ _ hne).trans hbs) X hK B rfl in_J4 tyJ4_ok nmJ4 hqs ((va_up_ne _ _ hne).trans (va_up_self _ _ _)) (by decide) lk_J5_79 rfl rfl rfl rfl rfl (Nat.le_of_ble_eq_true rfl) dJ5_append_cf1ce_40 (fun H locs B => ?_)
  rw [sw_s hne] at B
  have B : WB g (aw N ad sz) s.heap N (va_up ad qv v1) (va_up (va_up f qs (c_sb v1 ml (n + st_len.getD i 0))) qv (c_ba g (sb_cap (n + st_len.getD i 0) m) h2)) H locs := B
  refine lv_aload_n hx hb dJ5_append_cf1ce_43 rfl (lv_at hl 1 rfl) ?_
  exact rt_r (r := some bs) rfl X hr (Or.inl ⟨_, rfl⟩) ((va_up ad qv v1), va_up (va_up f qs (c_sb v1 ml (n + st_len.getD i 0))) qv (c_ba g (sb_cap (n + st_len.getD i 0) m) h2)) B (PO_of B) ⟨v1, h2, hF2, rfl, rfl, rfl⟩ (by dsimp only [rm]; omega) (by dsimp only [rm]; omega) dJ5_append_cf1ce_44
set_option maxHeartbeats 4000000 in
theorem c_S_appK (l : Launch) (g : GG) (N : Nat) (ad : Nat → Nat) (f : Nat → va_E) (qs qv bs v n m : Nat) (ml : Int32) (h : Nat → Int32) (hqs : qs < N) (hqv : qv < N) (hne : qs ≠ qv) (hbs : ad qs = bs) (hbv : ad qv = v) (hfs : f qs = c_sb v ml n) (hfv : f qv = c_ba g m h) (hF : sb_Fit h) (hnm : n ≤ m) (hm : m ≤ 70) (i : Nat) (hi : i < st_n) (hk2 : n + st_len.getD i 0 ≤ 2 * m + 2) : KR l yJ4_append_15ec4 cJ4_append_15ec4 2 (.object "java/lang/StringBuilder") (rm 5 (gC m (sb_cap (n + st_len.getD i 0) m)) (gS m (sb_cap (n + st_len.getD i 0) m))) g [.ref bs, .ref (g.2.2 (100 + i))] N ad f N (fun r ad' f' => ∃ (v' : Nat) (h' : Nat → Int32), sb_Fit h' ∧ some bs = r ∧ va_up ad qv v' = ad' ∧ va_up (va_up f qs (c_sb v' ml (n + st_len.getD i 0))) qv (c_ba g (sb_cap (n + st_len.getD i 0) m) h') = f') := by
  intro sz
  refine mt_start (by decide) (Nat.le_of_ble_eq_true rfl) ?_
  intro p e0 s m9 args below meth c hsz X hr hnam hA hK hT H locs B ls hl
  obtain ⟨hx, hb, hml, hown, hts, hlocks⟩ := id X
  have hl : lv_has ls 2 [(0, .ref bs), (1, .ref (g.2.2 (100 + i)))] := hl
  refine lv_aload_n hx hb dJ4_append_15ec4_0 rfl (lv_at hl 0 rfl) ?_
  refine lv_aload_n hx hb dJ4_append_15ec4_1 rfl (lv_at hl 1 rfl) ?_
  refine k_r (k := (0 + gC m (sb_cap (n + st_len.getD i 0) m))) (n := (0 + gS m (sb_cap (n + st_len.getD i 0) m))) hA B (u_U (q := qs) (rest := []) hbs rfl X (c_S_appK5 l g N ad f qs qv bs v n m ml h hqs hqv hne hbs hbv hfs hfv hF hnm hm i hi hk2 H.size) mc_J5_append_cf1ce (by decide) rfl md_J5_append_cf1ce rfl lk_J4_29 ⟨Nat.le_of_ble_eq_true rfl, Nat.le_of_ble_eq_true rfl⟩ hA hK hT B hqs hfs hl.1 rfl (Nat.le_of_ble_eq_true rfl) dJ4_append_15ec4_2 (by dsimp only [rm]; omega)) (by dsimp only [rm]; omega) (by dsimp only [rm]; omega) (fun r ad' f' H locs hw B => ?_)
  obtain ⟨v1, h1, hF1, rfl, rfl, rfl⟩ := hw
  refine lv_pop hx hb dJ4_append_15ec4_5 rfl ?_
  refine lv_aload_n hx hb dJ4_append_15ec4_6 rfl (lv_at hl 0 rfl) ?_
  exact rt_r (r := some bs) rfl X hr (Or.inl ⟨_, rfl⟩) ((va_up ad qv v1), va_up (va_up f qs (c_sb v1 ml (n + st_len.getD i 0))) qv (c_ba g (sb_cap (n + st_len.getD i 0) m) h1)) B (PO_of B) ⟨v1, h1, hF1, rfl, rfl, rfl⟩ (by dsimp only [rm]; omega) (by dsimp only [rm]; omega) dJ4_append_15ec4_7
