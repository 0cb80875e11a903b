def v_X4_length (a0 : Int32) (a1 : Int32) : Int32 := if a1 = 2 then (if (v_X4_isLong a0) = 0 then ((st_lens.getD ((a1 - 1).toNatClampNeg) 0) + (v_X4_one 0)) else ((st_lens.getD ((a1 - 1).toNatClampNeg) 0) + (v_X4_one 1))) else ((st_lens.getD ((a1 - 1).toNatClampNeg) 0) + (v_X4_one 0))
set_option maxHeartbeats 4000000 in
set_option maxRecDepth 100000 in
theorem c_X4_length (l : Launch) (g : GG) (N : Nat) (ad : Nat → Nat) (f : Nat → va_E) (a0 : Int32) (a1 : Int32) (hm : vp_in (a1 - 1) 12) : KI l yX4_length cX4_length 2 (some .int) (rm 1 0 0) g [.int a0, .int a1] N ad f N (fun r ad' f' => ad = ad' ∧ (v_X4_length a0 a1) = r ∧ f = f') := by
  intro sz
  refine mt_start (by decide) (Nat.le_of_ble_eq_true rfl) ?_
  intro p e s m args below meth c hsz X hr hnam hA hK hT H locs B ls hl
  obtain ⟨hx, hb, hml, hown, hts, hlocks⟩ := id X
  have hl : lv_has ls 2 [(0, .int a0), (1, .int a1)] := hl
  refine va_gets hx hb hT.2.1.2.2.2.1.1 B.2.2 hown (hts _ (List.mem_cons_of_mem _ lk_X4_171)) (fun _ h => h) dX4_length_0 ?_
  refine lv_iload_n hx hb dX4_length_3 rfl (lv_at hl 1 rfl) ?_
  refine lv_iconst (v := 1) hx hb dX4_length_4 (by decide) ?_
  refine lv_isub hx hb dX4_length_5 ?_
  refine va_ti hx hb hT.2.1.2.2.2.1.2 B.2.2 hm rfl dX4_length_6 ?_
  refine lv_iload_n hx hb dX4_length_7 rfl (lv_at hl 1 rfl) ?_
  refine lv_iconst (v := 2) hx hb dX4_length_8 (by decide) ?_
  refine lv_icmp_ne (tgt := 23) hx hb dX4_length_9 (by decide) (fun c1 => ?_) (fun c1 => ?_)
  · refine lv_iconst (v := 0) hx hb dX4_length_23 (by decide) ?_
    refine k_i (k := 0) (n := 0) hA B (u_S (rest := [.int (st_lens.getD ((a1 - 1).toNatClampNeg) 0)]) X (c_X4_one l g N ad f 0 H.size) mw_X4_one md_X4_one rfl lk_X4_91 ⟨Nat.le_of_ble_eq_true rfl, Nat.le_of_ble_eq_true rfl⟩ hA hK hT B hl.1 rfl (Nat.le_of_ble_eq_true rfl) dX4_length_24 ⟨Nat.le_of_ble_eq_true rfl, Nat.le_of_ble_eq_true rfl⟩) (Nat.le_of_ble_eq_true rfl) (Nat.le_of_ble_eq_true rfl) (fun r ad' f' H locs hw B => ?_)
    obtain ⟨rfl, rfl, rfl⟩ := hw
    refine lv_iadd hx hb dX4_length_27 ?_
    have ev := (show v_X4_length a0 a1 = (st_lens.getD ((a1 - 1).toNatClampNeg) 0) + (v_X4_one 0) from by unfold v_X4_length; rw [if_neg c1])
    exact rt_i X hr (ad, f) B (PO_of B) ⟨rfl, ev, rfl⟩ rfl (Nat.le_of_ble_eq_true rfl) (Nat.le_of_ble_eq_true rfl) dX4_length_28
  · refine lv_iload_n hx hb dX4_length_12 rfl (lv_at hl 0 rfl) ?_
    refine k_i (k := 0) (n := 0) hA B (u_S (rest := [.int (st_lens.getD ((a1 - 1).toNatClampNeg) 0)]) X (c_X4_isLong l g N ad f a0 H.size) mw_X4_isLong md_X4_isLong rfl lk_X4_174 ⟨Nat.le_of_ble_eq_true rfl, Nat.le_of_ble_eq_true rfl⟩ hA hK hT B hl.1 rfl (Nat.le_of_ble_eq_true rfl) dX4_length_13 ⟨Nat.le_of_ble_eq_true rfl, Nat.le_of_ble_eq_true rfl⟩) (Nat.le_of_ble_eq_true rfl) (Nat.le_of_ble_eq_true rfl) (fun r ad' f' H locs hw B => ?_)
    obtain ⟨rfl, rfl, rfl⟩ := hw
    refine lv_if_eq (tgt := 23) hx hb dX4_length_16 (by decide) (fun c2 => ?_) (fun c2 => ?_)
    · refine lv_iconst (v := 0) hx hb dX4_length_23 (by decide) ?_
      refine k_i (k := 0) (n := 0) hA B (u_S (rest := [.int (st_lens.getD ((a1 - 1).toNatClampNeg) 0)]) X (c_X4_one l g N ad f 0 H.size) mw_X4_one md_X4_one rfl lk_X4_91 ⟨Nat.le_of_ble_eq_true rfl, Nat.le_of_ble_eq_true rfl⟩ hA hK hT B hl.1 rfl (Nat.le_of_ble_eq_true rfl) dX4_length_24 ⟨Nat.le_of_ble_eq_true rfl, Nat.le_of_ble_eq_true rfl⟩) (Nat.le_of_ble_eq_true rfl) (Nat.le_of_ble_eq_true rfl) (fun r ad' f' H locs hw B => ?_)
      obtain ⟨rfl, rfl, rfl⟩ := hw
      refine lv_iadd hx hb dX4_length_27 ?_
      have ev := (show v_X4_length a0 a1 = (st_lens.getD ((a1 - 1).toNatClampNeg) 0) + (v_X4_one 0) from by unfold v_X4_length; rw [if_pos c1, if_pos c2])
      exact rt_i X hr (ad, f) B (PO_of B) ⟨rfl, ev, rfl⟩ rfl (Nat.le_of_ble_eq_true rfl) (Nat.le_of_ble_eq_true rfl) dX4_length_28
    · refine lv_iconst (v := 1) hx hb dX4_length_19 (by decide) ?_
      refine lv_goto (tgt := 24) hx hb dX4_length_20 (by decide) ?_
      refine k_i (k := 0) (n := 0) hA B (u_S (rest := [.int (st_lens.getD ((a1 - 1).toNatClampNeg) 0)]) X (c_X4_one l g N ad f 1 H.size) mw_X4_one md_X4_one rfl lk_X4_91 ⟨Nat.le_of_ble_eq_true rfl, Nat.le_of_ble_eq_true rfl⟩ hA hK hT B hl.1 rfl (Nat.le_of_ble_eq_true rfl) dX4_length_24 ⟨Nat.le_of_ble_eq_true rfl, Nat.le_of_ble_eq_true rfl⟩) (Nat.le_of_ble_eq_true rfl) (Nat.le_of_ble_eq_true rfl) (fun r ad' f' H locs hw B => ?_)
      obtain ⟨rfl, rfl, rfl⟩ := hw
      refine lv_iadd hx hb dX4_length_27 ?_
      have ev := (show v_X4_length a0 a1 = (st_lens.getD ((a1 - 1).toNatClampNeg) 0) + (v_X4_one 1) from by unfold v_X4_length; rw [if_pos c1, if_neg c2])
      exact rt_i X hr (ad, f) B (PO_of B) ⟨rfl, ev, rfl⟩ rfl (Nat.le_of_ble_eq_true rfl) (Nat.le_of_ble_eq_true rfl) dX4_length_28
def wX4_number_22 (tj0 : TR) : Nat → Int32 → Int32 → Int32
  | 0, mm, ds => 0
  | n + 1, mm, ds => if tj0.2.1 ≤ mm then ds else (wX4_number_22 tj0 n (mm + 1) (ds + (v_X4_length tj0.1 mm)))
def v_X4_number (tj0 : TR) : Int32 := wX4_number_22 tj0 ((tj0.2.1.toInt - (1 : Int32).toInt).toNat + 1) 1 ((((v_X4_daysTo tj0.1) - (v_X4_daysTo 1970)) + tj0.2.2) - 1)
set_option maxHeartbeats 4000000 in
set_option maxRecDepth 100000 in
theorem c_X4_number (l : Launch) (g : GG) (N : Nat) (ad : Nat → Nat) (f : Nat → va_E) (j0 bj0 : Nat) (tj0 : TR) (hj0 : j0 < N) (hbj0 : ad j0 = bj0) (hfj0 : f j0 = c_row g tj0) (ht : ¬ 12 < tj0.2.1) : KI l yX4_number cX4_number 3 (some .int) (rm 2 0 0) g [.ref bj0] N ad f N (fun r ad' f' => ad = ad' ∧ (v_X4_number tj0) = r ∧ f = f') := by
  intro sz
  refine mt_start (by decide) (Nat.le_of_ble_eq_true rfl) ?_
  intro p e s m args below meth c hsz X hr hnam hA hK hT H locs B ls hl
  obtain ⟨hx, hb, hml, hown, hts, hlocks⟩ := id X
  have hl : lv_has ls 3 [(0, .ref bj0)] := hl
  refine lv_aload_n hx hb dX4_number_0 rfl (lv_at hl 0 rfl) ?_
  refine lv_iconst (v := 0) hx hb dX4_number_1 (by decide) ?_
  refine h_ld0 X hK B hj0 hbj0 hfj0 dX4_number_2 ?_
  refine k_i (k := 0) (n := 0) hA B (u_S (rest := []) X (c_X4_daysTo l g N ad f tj0.1 H.size) mw_X4_daysTo md_X4_daysTo rfl lk_X4_177 ⟨Nat.le_of_ble_eq_true rfl, Nat.le_of_ble_eq_true rfl⟩ hA hK hT B hl.1 rfl (Nat.le_of_ble_eq_true rfl) dX4_number_3 ⟨Nat.le_of_ble_eq_true rfl, Nat.le_of_ble_eq_true rfl⟩) (Nat.le_of_ble_eq_true rfl) (Nat.le_of_ble_eq_true rfl) (fun r ad' f' H locs hw B => ?_)
  obtain ⟨rfl, rfl, rfl⟩ := hw
  refine lv_sipush (v := 1970) hx hb dX4_number_6 (by decide) ?_
  refine k_i (k := 0) (n := 0) hA B (u_S (rest := [.int (v_X4_daysTo tj0.1)]) X (c_X4_daysTo l g N ad f 1970 H.size) mw_X4_daysTo md_X4_daysTo rfl lk_X4_177 ⟨Nat.le_of_ble_eq_true rfl, Nat.le_of_ble_eq_true rfl⟩ hA hK hT B hl.1 rfl (Nat.le_of_ble_eq_true rfl) dX4_number_9 ⟨Nat.le_of_ble_eq_true rfl, Nat.le_of_ble_eq_true rfl⟩) (Nat.le_of_ble_eq_true rfl) (Nat.le_of_ble_eq_true rfl) (fun r ad' f' H locs hw B => ?_)
  obtain ⟨rfl, rfl, rfl⟩ := hw
  refine lv_isub hx hb dX4_number_12 ?_
  refine lv_aload_n hx hb dX4_number_13 rfl (lv_at hl 0 rfl) ?_
  refine lv_iconst (v := 2) hx hb dX4_number_14 (by decide) ?_
  refine h_ld2 X hK B hj0 hbj0 hfj0 dX4_number_15 ?_
  refine lv_iadd hx hb dX4_number_16 ?_
  refine lv_iconst (v := 1) hx hb dX4_number_17 (by decide) ?_
  refine lv_isub hx hb dX4_number_18 ?_
  refine lv_istore_n (lv' := [(1, .int ((((v_X4_daysTo tj0.1) - (v_X4_daysTo 1970)) + tj0.2.2) - 1)), (0, .ref bj0)]) hx hb dX4_number_19 rfl hl (by decide) rfl (fun ls hl => ?_)
  refine lv_iconst (v := 1) hx hb dX4_number_20 (by decide) ?_
  refine lv_istore_n (lv' := [(2, .int 1), (1, .int ((((v_X4_daysTo tj0.1) - (v_X4_daysTo 1970)) + tj0.2.2) - 1)), (0, .ref bj0)]) hx hb dX4_number_21 rfl hl (by decide) rfl (fun ls hl => ?_)
  have loop1 : ∀ (n1 : Nat) (mm : Int32) (ds : Int32) (H : Heap) (locs : List Loc), (tj0.2.1.toInt - mm.toInt).toNat < n1 → v_X4_number tj0 = wX4_number_22 tj0 n1 mm ds → 1 ≤ mm → WB g (aw N ad sz) s.heap N ad f H locs → ∀ ls : Array Slot, lv_has ls 3 [(2, .int mm), (1, .int ds), (0, .ref bj0)] → W p l e (rm 2 0 0) s m args below meth c H locs 0 0 (MQ below (va_Qi (fun r (u : WS) => (fun r ad' f' => ad = ad' ∧ (v_X4_number tj0) = r ∧ f = f') r u.1 u.2) (fun u t => PO g N u.1 u.2 (aw N ad sz) t) (aw N ad sz)) args s (rm 2 0 0).cells (rm 2 0 0).slots (aw N ad sz)) (F0 m 22 ls []) := by
    intro n1
    induction n1 with
    | zero => intro mm ds H locs hn; exact absurd hn (Nat.not_lt_zero _)
    | succ n1 ih1 =>
      intro mm ds H locs hn1 he1 hmm B ls hl
      refine lv_iload_n hx hb dX4_number_22 rfl (lv_at hl 0 rfl) ?_
      refine lv_aload_n hx hb dX4_number_23 rfl (lv_at hl 2 rfl) ?_
      refine lv_iconst (v := 1) hx hb dX4_number_24 (by decide) ?_
      refine h_ld1 X hK B hj0 hbj0 hfj0 dX4_number_25 ?_
      refine lv_icmp_ge (tgt := 45) hx hb dX4_number_26 (by decide) (fun c2 => ?_) (fun c2 => ?_)
      · refine lv_iload_n hx hb dX4_number_45 rfl (lv_at hl 1 rfl) ?_
        have ev := (show v_X4_number tj0 = ds from he1.trans (by rw [wX4_number_22, if_pos c2]))
        exact rt_i X hr (ad, f) B (PO_of B) ⟨rfl, ev, rfl⟩ rfl (Nat.le_of_ble_eq_true rfl) (Nat.le_of_ble_eq_true rfl) dX4_number_46
      · refine lv_iload_n hx hb dX4_number_29 rfl (lv_at hl 1 rfl) ?_
        refine lv_aload_n hx hb dX4_number_30 rfl (lv_at hl 2 rfl) ?_
        refine lv_iconst (v := 0) hx hb dX4_number_31 (by decide) ?_
        refine h_ld0 X hK B hj0 hbj0 hfj0 dX4_number_32 ?_
        refine lv_iload_n hx hb dX4_number_33 rfl (lv_at hl 0 rfl) ?_
        refine k_i (k := 0) (n := 0) hA B (u_S (rest := [.int ds]) X (c_X4_length l g N ad f tj0.1 mm (mo_in hmm c2 ht) H.size) mw_X4_length md_X4_length rfl lk_X4_181 ⟨Nat.le_of_ble_eq_true rfl, Nat.le_of_ble_eq_true rfl⟩ hA hK hT B hl.1 rfl (Nat.le_of_ble_eq_true rfl) dX4_number_34 ⟨Nat.le_of_ble_eq_true rfl, Nat.le_of_ble_eq_true rfl⟩) (Nat.le_of_ble_eq_true rfl) (Nat.le_of_ble_eq_true rfl) (fun r ad' f' H locs hw B => ?_)
        obtain ⟨rfl, rfl, rfl⟩ := hw
        refine lv_iadd hx hb dX4_number_37 ?_
        refine lv_istore_n (lv' := [(1, .int (ds + (v_X4_length tj0.1 mm))), (2, .int mm), (0, .ref bj0)]) hx hb dX4_number_38 rfl hl (by decide) rfl (fun ls hl => ?_)
        refine lv_iinc (v := mm + 1) (lv' := [(2, .int (mm + 1)), (1, .int (ds + (v_X4_length tj0.1 mm))), (0, .ref bj0)]) hx hb dX4_number_39 hl (k := 1) rfl rfl (by decide) rfl (fun ls hl => ?_)
        refine lv_goto (tgt := 22) hx hb dX4_number_42 (by decide) ?_
        exact ih1 (mm + 1) (ds + (v_X4_length tj0.1 mm)) H locs (fu_le c2 hn1) (show v_X4_number tj0 = wX4_number_22 tj0 n1 (mm + 1) (ds + (v_X4_length tj0.1 mm)) from he1.trans (by rw [wX4_number_22, if_neg c2])) (mo_inc hmm c2) B ls (lv_sub hl [0, 1, 2] rfl)
  exact loop1 ((tj0.2.1.toInt - (1 : Int32).toInt).toNat + 1) 1 ((((v_X4_daysTo tj0.1) - (v_X4_daysTo 1970)) + tj0.2.2) - 1) H locs (Nat.lt_succ_self _) (show v_X4_number tj0 = wX4_number_22 tj0 ((tj0.2.1.toInt - (1 : Int32).toInt).toNat + 1) 1 ((((v_X4_daysTo tj0.1) - (v_X4_daysTo 1970)) + tj0.2.2) - 1) from rfl) (by decide) B ls hl
def v_X4_onByMonths (tj0 : TR) (b1 : Int64) : Option TR := if (v_X4_isIn ((((12 * tj0.1.toInt64) + tj0.2.1.toInt64) - 1) + b1) 19200 28811) = 0 then none else (some ((((((12 * tj0.1.toInt64) + tj0.2.1.toInt64) - 1) + b1) / 12).toInt32, ((((((12 * tj0.1.toInt64) + tj0.2.1.toInt64) - 1) + b1) - ((((12 * tj0.1.toInt64) + tj0.2.1.toInt64) - 1) + b1) / 12 * 12).toInt32) + 1, if (v_X4_length ((((((12 * tj0.1.toInt64) + tj0.2.1.toInt64) - 1) + b1) / 12).toInt32) (((((((12 * tj0.1.toInt64) + tj0.2.1.toInt64) - 1) + b1) - ((((12 * tj0.1.toInt64) + tj0.2.1.toInt64) - 1) + b1) / 12 * 12).toInt32) + 1)) < tj0.2.2 then (v_X4_length ((((((12 * tj0.1.toInt64) + tj0.2.1.toInt64) - 1) + b1) / 12).toInt32) (((((((12 * tj0.1.toInt64) + tj0.2.1.toInt64) - 1) + b1) - ((((12 * tj0.1.toInt64) + tj0.2.1.toInt64) - 1) + b1) / 12 * 12).toInt32) + 1)) else tj0.2.2))
set_option maxHeartbeats 4000000 in
set_option maxRecDepth 100000 in
theorem c_X4_onByMonths (l : Launch) (g : GG) (N : Nat) (ad : Nat → Nat) (f : Nat → va_E) (j0 bj0 : Nat) (tj0 : TR) (hj0 : j0 < N) (hbj0 : ad j0 = bj0) (hfj0 : f j0 = c_row g tj0) (b1 : Int64) : KR l yX4_onByMonths cX4_onByMonths 7 (.array .int) (rm 2 1 3) g [.ref bj0, .long b1] N ad f (N + nz (v_X4_onByMonths tj0 b1)) (fun r ad' f' => pw g (v_X4_onByMonths tj0 b1) N ad f r ad' f') := by
  intro sz
  refine mt_start (by decide) (Nat.le_of_ble_eq_true rfl) ?_
  intro p e s m args below meth c hsz X hr hnam hA hK hT H locs B ls hl
  obtain ⟨hx, hb, hml, hown, hts, hlocks⟩ := id X
  have hl : lv_has ls 7 [(0, .ref bj0), (1, .long b1)] := hl
  refine lv_ldc2 hx hb hown (hts _ (List.mem_cons_of_mem _ lk_X4_41)) dX4_onByMonths_0 ?_
  refine lv_aload_n hx hb dX4_onByMonths_3 rfl (lv_at hl 0 rfl) ?_
  refine lv_iconst (v := 0) hx hb dX4_onByMonths_4 (by decide) ?_
  refine h_ld0 X hK B hj0 hbj0 hfj0 dX4_onByMonths_5 ?_
  refine lv_i2l (v := tj0.1.toInt64) hx hb dX4_onByMonths_6 rfl ?_
  refine lv_lmul hx hb dX4_onByMonths_7 ?_
  refine lv_aload_n hx hb dX4_onByMonths_8 rfl (lv_at hl 0 rfl) ?_
  refine lv_iconst (v := 1) hx hb dX4_onByMonths_9 (by decide) ?_
  refine h_ld1 X hK B hj0 hbj0 hfj0 dX4_onByMonths_10 ?_
  refine lv_i2l (v := tj0.2.1.toInt64) hx hb dX4_onByMonths_11 rfl ?_
  refine lv_ladd hx hb dX4_onByMonths_12 ?_
  refine lv_lconst (v := 1) hx hb dX4_onByMonths_13 (by decide) ?_
  refine lv_lsub hx hb dX4_onByMonths_14 ?_
  refine lv_lload_n hx hb dX4_onByMonths_15 rfl (lv_at hl 1 rfl) ?_
  refine lv_ladd hx hb dX4_onByMonths_16 ?_
  refine lv_lstore_n (lv' := [(3, .long ((((12 * tj0.1.toInt64) + tj0.2.1.toInt64) - 1) + b1)), (0, .ref bj0), (1, .long b1)]) hx hb dX4_onByMonths_17 rfl hl (by decide) rfl (fun ls hl => ?_)
  refine lv_lload_n hx hb dX4_onByMonths_18 rfl (lv_at hl 0 rfl) ?_
  refine lv_ldc2 hx hb hown (hts _ (List.mem_cons_of_mem _ lk_X4_185)) dX4_onByMonths_19 ?_
  refine lv_ldc2 hx hb hown (hts _ (List.mem_cons_of_mem _ lk_X4_187)) dX4_onByMonths_22 ?_
  refine k_i (k := 0) (n := 0) hA B (u_S (rest := []) X (c_X4_isIn l g N ad f ((((12 * tj0.1.toInt64) + tj0.2.1.toInt64) - 1) + b1) 19200 28811 H.size) mw_X4_isIn md_X4_isIn rfl lk_X4_37 ⟨Nat.le_of_ble_eq_true rfl, Nat.le_of_ble_eq_true rfl⟩ hA hK hT B hl.1 rfl (Nat.le_of_ble_eq_true rfl) dX4_onByMonths_25 ⟨Nat.le_of_ble_eq_true rfl, Nat.le_of_ble_eq_true rfl⟩) (Nat.le_of_ble_eq_true rfl) (Nat.le_of_ble_eq_true rfl) (fun r ad' f' H locs hw B => ?_)
  obtain ⟨rfl, rfl, rfl⟩ := hw
  refine lv_if_ne (tgt := 33) hx hb dX4_onByMonths_28 (by decide) (fun c1 => ?_) (fun c1 => ?_)
  · refine lv_lload_n hx hb dX4_onByMonths_33 rfl (lv_at hl 0 rfl) ?_
    refine lv_ldc2 hx hb hown (hts _ (List.mem_cons_of_mem _ lk_X4_41)) dX4_onByMonths_34 ?_
    refine lv_ldiv hx hb dX4_onByMonths_37 (by decide) ?_
    refine lv_l2i (v := (((((12 * tj0.1.toInt64) + tj0.2.1.toInt64) - 1) + b1) / 12).toInt32) hx hb dX4_onByMonths_38 rfl ?_
    refine lv_istore (lv' := [(5, .int ((((((12 * tj0.1.toInt64) + tj0.2.1.toInt64) - 1) + b1) / 12).toInt32)), (3, .long ((((12 * tj0.1.toInt64) + tj0.2.1.toInt64) - 1) + b1)), (0, .ref bj0), (1, .long b1)]) hx hb dX4_onByMonths_39 hl (by decide) rfl (fun ls hl => ?_)
    refine lv_lload_n hx hb dX4_onByMonths_41 rfl (lv_at hl 1 rfl) ?_
    refine lv_ldc2 hx hb hown (hts _ (List.mem_cons_of_mem _ lk_X4_41)) dX4_onByMonths_42 ?_
    refine lv_lrem hx hb dX4_onByMonths_45 (by decide) ?_
    refine lv_l2i (v := (((((12 * tj0.1.toInt64) + tj0.2.1.toInt64) - 1) + b1) - ((((12 * tj0.1.toInt64) + tj0.2.1.toInt64) - 1) + b1) / 12 * 12).toInt32) hx hb dX4_onByMonths_46 rfl ?_
    refine lv_iconst (v := 1) hx hb dX4_onByMonths_47 (by decide) ?_
    refine lv_iadd hx hb dX4_onByMonths_48 ?_
    refine lv_istore (lv' := [(6, .int (((((((12 * tj0.1.toInt64) + tj0.2.1.toInt64) - 1) + b1) - ((((12 * tj0.1.toInt64) + tj0.2.1.toInt64) - 1) + b1) / 12 * 12).toInt32) + 1)), (5, .int ((((((12 * tj0.1.toInt64) + tj0.2.1.toInt64) - 1) + b1) / 12).toInt32)), (3, .long ((((12 * tj0.1.toInt64) + tj0.2.1.toInt64) - 1) + b1)), (0, .ref bj0), (1, .long b1)]) hx hb dX4_onByMonths_49 hl (by decide) rfl (fun ls hl => ?_)
    refine lv_iconst (v := 3) hx hb dX4_onByMonths_51 (by decide) ?_
    refine h_new3 (cz := 1) (sz := 3) X hA hK B (Nat.le_of_ble_eq_true rfl) (Nat.le_of_ble_eq_true rfl) (Nat.le_of_ble_eq_true rfl) (Nat.le_of_ble_eq_true rfl) dX4_onByMonths_52 (fun z2 H B => ?_)
    refine lv_dup hx hb dX4_onByMonths_54 rfl ?_
    refine lv_iconst (v := 0) hx hb dX4_onByMonths_55 (by decide) ?_
    refine lv_iload hx hb dX4_onByMonths_56 (lv_at hl 1 rfl) ?_
    refine h_st (t := (0, 0, 0)) (t' := ((((((12 * tj0.1.toInt64) + tj0.2.1.toInt64) - 1) + b1) / 12).toInt32, 0, 0)) X hK B (Nat.lt_succ_self _) up_eq up_eq (by unfold vp_in; decide) (rw3_s0 _ _) dX4_onByMonths_58 (fun H locs B => ?_)
    rw [bx_uu] at B
    refine lv_dup hx hb dX4_onByMonths_59 rfl ?_
    refine lv_iconst (v := 1) hx hb dX4_onByMonths_60 (by decide) ?_
    refine lv_iload hx hb dX4_onByMonths_61 (lv_at hl 0 rfl) ?_
    refine h_st (t := ((((((12 * tj0.1.toInt64) + tj0.2.1.toInt64) - 1) + b1) / 12).toInt32, 0, 0)) (t' := ((((((12 * tj0.1.toInt64) + tj0.2.1.toInt64) - 1) + b1) / 12).toInt32, ((((((12 * tj0.1.toInt64) + tj0.2.1.toInt64) - 1) + b1) - ((((12 * tj0.1.toInt64) + tj0.2.1.toInt64) - 1) + b1) / 12 * 12).toInt32) + 1, 0)) X hK B (Nat.lt_succ_self _) up_eq up_eq (by unfold vp_in; decide) (rw3_s1 _ _) dX4_onByMonths_63 (fun H locs B => ?_)
    rw [bx_uu] at B
    refine lv_dup hx hb dX4_onByMonths_64 rfl ?_
    refine lv_iconst (v := 2) hx hb dX4_onByMonths_65 (by decide) ?_
    refine lv_aload_n hx hb dX4_onByMonths_66 rfl (lv_at hl 3 rfl) ?_
    refine lv_iconst (v := 2) hx hb dX4_onByMonths_67 (by decide) ?_
    refine h_ld2 X hK B (Nat.lt_succ_of_lt hj0) ((up_lt hj0).trans hbj0) ((up_lt hj0).trans hfj0) dX4_onByMonths_68 ?_
    refine lv_iload hx hb dX4_onByMonths_69 (lv_at hl 1 rfl) ?_
    refine lv_iload hx hb dX4_onByMonths_71 (lv_at hl 0 rfl) ?_
    refine k_i (k := 1) (n := 3) hA B (u_S (rest := [.int tj0.2.2, .int 2, .ref z2, .ref z2]) X (c_X4_length l g (N + 1) (va_up ad N z2) (va_up f N (c_row g ((((((12 * tj0.1.toInt64) + tj0.2.1.toInt64) - 1) + b1) / 12).toInt32, ((((((12 * tj0.1.toInt64) + tj0.2.1.toInt64) - 1) + b1) - ((((12 * tj0.1.toInt64) + tj0.2.1.toInt64) - 1) + b1) / 12 * 12).toInt32) + 1, 0))) ((((((12 * tj0.1.toInt64) + tj0.2.1.toInt64) - 1) + b1) / 12).toInt32) (((((((12 * tj0.1.toInt64) + tj0.2.1.toInt64) - 1) + b1) - ((((12 * tj0.1.toInt64) + tj0.2.1.toInt64) - 1) + b1) / 12 * 12).toInt32) + 1) (om_in c1 (by decide)) H.size) mw_X4_length md_X4_length rfl lk_X4_181 ⟨Nat.le_of_ble_eq_true rfl, Nat.le_of_ble_eq_true rfl⟩ hA hK hT B hl.1 rfl (Nat.le_of_ble_eq_true rfl) dX4_onByMonths_73 ⟨Nat.le_of_ble_eq_true rfl, Nat.le_of_ble_eq_true rfl⟩) (Nat.le_of_ble_eq_true rfl) (Nat.le_of_ble_eq_true rfl) (fun r ad' f' H locs hw B => ?_)
    obtain ⟨rfl, rfl, rfl⟩ := hw
    refine va_mmin (R := (rm 2 1 3)) (cells := 1) (slots := 3) (rest := [.int 2, .ref z2, .ref z2]) hx hb (by rw [hml]; exact hl.1.symm) hown (hts _ (List.mem_cons_of_mem _ lk_X4_189)) (hts _ (List.mem_cons_of_mem _ mw_min.2.1)) (hts _ (List.mem_cons_of_mem _ mw_min.2.2)) (hts _ (List.mem_cons_of_mem _ mw_min.1)) (Nat.le_of_ble_eq_true rfl) (Nat.le_of_ble_eq_true rfl) (Nat.le_of_ble_eq_true rfl) (Nat.le_of_ble_eq_true rfl) dX4_onByMonths_76 ?_
    refine h_st (t := ((((((12 * tj0.1.toInt64) + tj0.2.1.toInt64) - 1) + b1) / 12).toInt32, ((((((12 * tj0.1.toInt64) + tj0.2.1.toInt64) - 1) + b1) - ((((12 * tj0.1.toInt64) + tj0.2.1.toInt64) - 1) + b1) / 12 * 12).toInt32) + 1, 0)) (t' := ((((((12 * tj0.1.toInt64) + tj0.2.1.toInt64) - 1) + b1) / 12).toInt32, ((((((12 * tj0.1.toInt64) + tj0.2.1.toInt64) - 1) + b1) - ((((12 * tj0.1.toInt64) + tj0.2.1.toInt64) - 1) + b1) / 12 * 12).toInt32) + 1, if (v_X4_length ((((((12 * tj0.1.toInt64) + tj0.2.1.toInt64) - 1) + b1) / 12).toInt32) (((((((12 * tj0.1.toInt64) + tj0.2.1.toInt64) - 1) + b1) - ((((12 * tj0.1.toInt64) + tj0.2.1.toInt64) - 1) + b1) / 12 * 12).toInt32) + 1)) < tj0.2.2 then (v_X4_length ((((((12 * tj0.1.toInt64) + tj0.2.1.toInt64) - 1) + b1) / 12).toInt32) (((((((12 * tj0.1.toInt64) + tj0.2.1.toInt64) - 1) + b1) - ((((12 * tj0.1.toInt64) + tj0.2.1.toInt64) - 1) + b1) / 12 * 12).toInt32) + 1)) else tj0.2.2)) X hK B (Nat.lt_succ_self _) up_eq up_eq (by unfold vp_in; decide) (rw3_s2 _ _) dX4_onByMonths_79 (fun H locs B => ?_)
    rw [bx_uu] at B
    have ev := (show v_X4_onByMonths tj0 b1 = some ((((((12 * tj0.1.toInt64) + tj0.2.1.toInt64) - 1) + b1) / 12).toInt32, ((((((12 * tj0.1.toInt64) + tj0.2.1.toInt64) - 1) + b1) - ((((12 * tj0.1.toInt64) + tj0.2.1.toInt64) - 1) + b1) / 12 * 12).toInt32) + 1, if (v_X4_length ((((((12 * tj0.1.toInt64) + tj0.2.1.toInt64) - 1) + b1) / 12).toInt32) (((((((12 * tj0.1.toInt64) + tj0.2.1.toInt64) - 1) + b1) - ((((12 * tj0.1.toInt64) + tj0.2.1.toInt64) - 1) + b1) / 12 * 12).toInt32) + 1)) < tj0.2.2 then (v_X4_length ((((((12 * tj0.1.toInt64) + tj0.2.1.toInt64) - 1) + b1) / 12).toInt32) (((((((12 * tj0.1.toInt64) + tj0.2.1.toInt64) - 1) + b1) - ((((12 * tj0.1.toInt64) + tj0.2.1.toInt64) - 1) + b1) / 12 * 12).toInt32) + 1)) else tj0.2.2) from by unfold v_X4_onByMonths; rw [if_neg c1])
    have B : WB g (aw N ad sz) s.heap (N + 1) (va_up ad N z2) (va_up f N (c_row g ((((((12 * tj0.1.toInt64) + tj0.2.1.toInt64) - 1) + b1) / 12).toInt32, ((((((12 * tj0.1.toInt64) + tj0.2.1.toInt64) - 1) + b1) - ((((12 * tj0.1.toInt64) + tj0.2.1.toInt64) - 1) + b1) / 12 * 12).toInt32) + 1, if (v_X4_length ((((((12 * tj0.1.toInt64) + tj0.2.1.toInt64) - 1) + b1) / 12).toInt32) (((((((12 * tj0.1.toInt64) + tj0.2.1.toInt64) - 1) + b1) - ((((12 * tj0.1.toInt64) + tj0.2.1.toInt64) - 1) + b1) / 12 * 12).toInt32) + 1)) < tj0.2.2 then (v_X4_length ((((((12 * tj0.1.toInt64) + tj0.2.1.toInt64) - 1) + b1) / 12).toInt32) (((((((12 * tj0.1.toInt64) + tj0.2.1.toInt64) - 1) + b1) - ((((12 * tj0.1.toInt64) + tj0.2.1.toInt64) - 1) + b1) / 12 * 12).toInt32) + 1)) else tj0.2.2))) H locs := WB_pick B (by omega) (Nat.lt_succ_self _) (fun _ hk => (up_lt hk)) (fun _ hk => (up_lt hk)) up_eq up_eq
    exact rt_r (r := some z2) rfl X hr (Or.inr ⟨_, rfl⟩) (va_up ad N z2, va_up f N (c_row g ((((((12 * tj0.1.toInt64) + tj0.2.1.toInt64) - 1) + b1) / 12).toInt32, ((((((12 * tj0.1.toInt64) + tj0.2.1.toInt64) - 1) + b1) - ((((12 * tj0.1.toInt64) + tj0.2.1.toInt64) - 1) + b1) / 12 * 12).toInt32) + 1, if (v_X4_length ((((((12 * tj0.1.toInt64) + tj0.2.1.toInt64) - 1) + b1) / 12).toInt32) (((((((12 * tj0.1.toInt64) + tj0.2.1.toInt64) - 1) + b1) - ((((12 * tj0.1.toInt64) + tj0.2.1.toInt64) - 1) + b1) / 12 * 12).toInt32) + 1)) < tj0.2.2 then (v_X4_length ((((((12 * tj0.1.toInt64) + tj0.2.1.toInt64) - 1) + b1) / 12).toInt32) (((((((12 * tj0.1.toInt64) + tj0.2.1.toInt64) - 1) + b1) - ((((12 * tj0.1.toInt64) + tj0.2.1.toInt64) - 1) + b1) / 12 * 12).toInt32) + 1)) else tj0.2.2))) B (by rw [ev]; exact PO_of B) (by rw [ev]; exact pw_is) (Nat.le_of_ble_eq_true rfl) (Nat.le_of_ble_eq_true rfl) dX4_onByMonths_80
  · refine lv_null hx hb dX4_onByMonths_31 ?_
    have ev := (show v_X4_onByMonths tj0 b1 = none from by unfold v_X4_onByMonths; rw [if_pos c1])
    exact rt_r (r := none) rfl X hr (Or.inr ⟨_, rfl⟩) (ad, f) B (by rw [ev]; exact PO_of B) (by rw [ev]; exact pw_in) (Nat.le_of_ble_eq_true rfl) (Nat.le_of_ble_eq_true rfl) dX4_onByMonths_32
