set_option maxHeartbeats 4000000 in
theorem c_S_rev (l : Launch) (g : GG) (N : Nat) (ad : Nat → Nat) (f : Nat → va_E) (qs qv bs v n m : Nat) (ml : Int32) (h : Nat → Int32) (hqs : qs < N) (hqv : qv < N) (hne : qs ≠ qv) (hbs : ad qs = bs) (hbv : ad qv = v) (hfs : f qs = c_sb v ml n) (hfv : f qv = c_ba g m h) (hF : sb_Fit h) (hnm : n ≤ m) (hm : m ≤ 150) : KR l yJ4_reverse_43fcb cJ4_reverse_43fcb 1 (.object "java/lang/StringBuilder") (rm 2 0 0) g [.ref bs] N ad f N (fun r ad' f' => ∃ h' : Nat → Int32, sb_Fit h' ∧ some bs = r ∧ ad = ad' ∧ va_up f qv (c_ba g m h') = f') := by
  intro sz
  refine mt_start (by decide) (Nat.le_of_ble_eq_true rfl) ?_
  intro p e0 s m9 args below meth c hsz X hr hnam hA hK hT H locs B ls hl
  obtain ⟨hx, hb, hml, hown, hts, hlocks⟩ := id X
  have hl : lv_has ls 1 [(0, .ref bs)] := hl
  refine lv_aload_n hx hb dJ4_reverse_43fcb_0 rfl (lv_at hl 0 rfl) ?_
  refine k_r (k := (0)) (n := (0)) hA B (u_U (q := qs) (rest := []) hbs rfl X (c_J5_reverse_278bc l g N ad f qs qv bs v n m ml h hqs hqv hne hbs hbv hfs hfv hF hnm hm H.size) mc_J5_reverse_278bc (by decide) rfl md_J5_reverse_278bc rfl lk_J4_127 ⟨Nat.le_of_ble_eq_true rfl, Nat.le_of_ble_eq_true rfl⟩ hA hK hT B hqs hfs hl.1 rfl (Nat.le_of_ble_eq_true rfl) dJ4_reverse_43fcb_1 (by dsimp only [rm]; omega)) (by dsimp only [rm]; omega) (by dsimp only [rm]; omega) (fun r ad' f' H locs hw B => ?_)
  obtain ⟨rfl, rfl, rfl⟩ := hw
  refine lv_pop hx hb dJ4_reverse_43fcb_4 rfl ?_
  refine lv_aload_n hx hb dJ4_reverse_43fcb_5 rfl (lv_at hl 0 rfl) ?_
  exact rt_r (r := some bs) rfl X hr (Or.inl ⟨_, rfl⟩) (ad, va_up f qv (c_ba g m (v_J5_reverse_278bc h n))) B (PO_of B) ⟨_, fitRv hF, rfl, rfl, rfl⟩ (by dsimp only [rm]; omega) (by dsimp only [rm]; omega) dJ4_reverse_43fcb_6
set_option maxHeartbeats 4000000 in
theorem c_W_inN (l : Launch) (g : GG) (N : Nat) (ad : Nat → Nat) (f : Nat → va_E) (b0 : Int64) : KR l yX2_numberInSigns cX2_numberInSigns 6 (.object "java/lang/String") (rm 6 4 40) g [.long b0] N ad f N (fun r ad' f' => ad = ad' ∧ (∃ a : Nat, some a = r) ∧ f = f') := by
  intro sz
  refine mt_start (by decide) (Nat.le_of_ble_eq_true rfl) ?_
  intro p e0 s m9 args below meth c hsz X hr hnam hA hK hT H locs B ls hl
  obtain ⟨hx, hb, hml, hown, hts, hlocks⟩ := id X
  have hl : lv_has ls 6 [(0, .long b0)] := hl
  refine g_new (ci := 1) (fs := [.null, .int 0, .int 0, .int 0]) (k1 := ((0) + 1)) (k2 := ((0) + 4)) X hA hK B rfl in_J4 tyJ4_ok lk_X2_264 (tb_in (lw_at 113 (by decide +kernel)) rfl) ii_J4 (by decide +kernel) (by dsimp only [rm]; omega) (by dsimp only [rm]; omega) (Nat.le_refl _) (Nat.le_refl _) dX2_numberInSigns_0 (fun z1 H B => ?_)
  refine W.widen (show ((0) + 1) ≤ (1) by omega) (show ((0) + 4) ≤ (4) by omega) ?_
  refine lv_dup hx hb dX2_numberInSigns_3 rfl ?_
  refine k_v (k := (2)) (n := (20)) hA B (b_I (rest := [.ref z1]) X (c_S_new l g (N + 1) (va_up ad N z1) (va_up f N (.inr (1, [.null, .int 0, .int 0, .int 0]))) N z1 (Nat.lt_succ_self _) up_eq up_eq H.size) mw_J4_init_da8c8 rfl md_J4_init_da8c8 rfl lk_X2_266 ⟨Nat.le_of_ble_eq_true rfl, Nat.le_of_ble_eq_true rfl⟩ hA hK hT B hl.1 rfl (Nat.le_of_ble_eq_true rfl) dX2_numberInSigns_4 (by dsimp only [rm]; omega)) (by dsimp only [rm]; omega) (by dsimp only [rm]; omega) (fun ad' f' H locs hw B => ?_)
  obtain ⟨v2, rfl, rfl⟩ := hw
  rw [bx_uu] at B
  have B : WB g (aw N ad sz) s.heap (N + 1 + 1) (va_up (va_up ad N z1) (N + 1) v2) (va_up (va_up f N (c_sb v2 0 0)) (N + 1) (c_ba g 16 (fun _ => 0))) H locs := B
  refine lv_astore_n (lv' := [(2, .ref z1), (0, .long b0)]) hx hb dX2_numberInSigns_7 rfl hl (by decide) rfl (fun ls hl => ?_)
  refine lv_lload_n hx hb dX2_numberInSigns_8 rfl (lv_at hl 1 rfl) ?_
  refine lv_lconst (v := 0) hx hb dX2_numberInSigns_9 (by decide) ?_
  refine W.lcmp hx hb dX2_numberInSigns_10 ?_
  refine lv_if_ge (tgt := 19) hx hb dX2_numberInSigns_11 (by decide) (fun c3 => ?_) (fun c3 => ?_)
  · refine lv_lload_n hx hb dX2_numberInSigns_19 rfl (lv_at hl 1 rfl) ?_
    refine lv_lstore_n (lv' := [(3, .long b0), (2, .ref z1), (0, .long b0)]) hx hb dX2_numberInSigns_20 rfl hl (by decide) rfl (fun ls hl => ?_)
    refine lv_iconst (v := 0) hx hb dX2_numberInSigns_21 (by decide) ?_
    refine lv_istore (lv' := [(5, .int 0), (3, .long b0), (2, .ref z1), (0, .long b0)]) hx hb dX2_numberInSigns_22 hl (by decide) rfl (fun ls hl => ?_)
    have loop4 : ∀ (n1 : Nat) (xx : Int64) (n v : Nat) (h : Nat → Int32) (H : Heap) (locs : List Loc), 11 - n < n1 → n ≤ 11 → sb_Fit h → WB g (aw N ad sz) s.heap (N + 1 + 1) (va_up (va_up ad N z1) (N + 1) v) (va_up (va_up f N (c_sb v 0 n)) (N + 1) (c_ba g 16 h)) H locs → ∀ ls : Array Slot, lv_has ls 6 [(0, .long b0), (2, .ref z1), (3, .long xx), (5, .int (nI n))] → W p l e0 (rm 6 4 40) s m9 args below meth c H locs (2) (20) (MQ below (va_Qq (fun r (u : WS) => (fun r ad' f' => ad = ad' ∧ (∃ a : Nat, some a = r) ∧ f = f') r u.1 u.2) (fun u t => PO g N u.1 u.2 (aw N ad sz) t) (aw N ad sz)) args s (rm 6 4 40).cells (rm 6 4 40).slots (aw N ad sz)) (F0 m9 24 ls []) := by
      intro n1
      induction n1 with
      | zero => intro xx n v h H locs hn; exact absurd hn (Nat.not_lt_zero _)
      | succ n1 ih1 =>
        intro xx n v h H locs hn hn11 hF B ls hl
        refine lv_iload hx hb dX2_numberInSigns_24 (lv_at hl 3 rfl) ?_
        refine lv_bipush (v := 11) hx hb dX2_numberInSigns_26 (by decide) ?_
        refine lv_icmp_ge (tgt := 70) hx hb dX2_numberInSigns_28 (by decide) (fun c5 => ?_) (fun c5 => ?_)
        · refine lv_lload_n hx hb dX2_numberInSigns_70 rfl (lv_at hl 0 rfl) ?_
          refine lv_lconst (v := 0) hx hb dX2_numberInSigns_71 (by decide) ?_
          refine W.lcmp hx hb dX2_numberInSigns_72 ?_
          refine lv_if_ge (tgt := 83) hx hb dX2_numberInSigns_73 (by decide) (fun c6 => ?_) (fun c6 => ?_)
          · refine lv_aload_n hx hb dX2_numberInSigns_83 rfl (lv_at hl 1 rfl) ?_
            refine k_r (k := (2)) (n := (20)) hA B (b_V (q := N) (rest := []) ((up_lt (by omega)).trans up_eq) X (c_S_rev l g (N + 1 + 1) (va_up (va_up ad N z1) (N + 1) v) (va_up (va_up f N (c_sb v 0 n)) (N + 1) (c_ba g 16 h)) N (N + 1) z1 v n 16 0 h (by omega) (by omega) (by omega) ((up_lt (by omega)).trans up_eq) up_eq ((up_lt (by omega)).trans up_eq) up_eq hF (by omega) (by omega) H.size) mw_J4_reverse_43fcb md_J4_reverse_43fcb rfl lk_X2_275 ⟨Nat.le_of_ble_eq_true rfl, Nat.le_of_ble_eq_true rfl⟩ hA hK hT B (by omega) ((up_lt (by omega)).trans up_eq) rfl rfl hl.1 rfl (Nat.le_of_ble_eq_true rfl) dX2_numberInSigns_84 (by dsimp only [rm]; omega)) (by dsimp only [rm]; omega) (by dsimp only [rm]; omega) (fun r ad' f' H locs hw B => ?_)
            obtain ⟨h7, hF7, rfl, rfl, rfl⟩ := hw
            rw [bx_uu] at B
            have B : WB g (aw N ad sz) s.heap (N + 1 + 1) (va_up (va_up ad N z1) (N + 1) v) (va_up (va_up f N (c_sb v 0 n)) (N + 1) (c_ba g 16 h7)) H locs := B
            refine lv_pop hx hb dX2_numberInSigns_87 rfl ?_
            refine lv_aload_n hx hb dX2_numberInSigns_88 rfl (lv_at hl 1 rfl) ?_
            refine k_r (k := (4)) (n := (20 + (4 + n))) hA B (b_V (q := N) (rest := []) ((up_lt (by omega)).trans up_eq) X (c_S_toS l g (N + 1 + 1) (va_up (va_up ad N z1) (N + 1) v) (va_up (va_up f N (c_sb v 0 n)) (N + 1) (c_ba g 16 h7)) N (N + 1) z1 v n 16 0 h7 (by omega) (by omega) (by omega) ((up_lt (by omega)).trans up_eq) up_eq ((up_lt (by omega)).trans up_eq) up_eq hF7 (by omega) (by omega) H.size) mw_J4_toString_0e30d md_J4_toString_0e30d rfl lk_X2_279 ⟨Nat.le_of_ble_eq_true rfl, Nat.le_of_ble_eq_true rfl⟩ hA hK hT B (by omega) ((up_lt (by omega)).trans up_eq) rfl rfl hl.1 rfl (Nat.le_of_ble_eq_true rfl) dX2_numberInSigns_89 (by dsimp only [rm]; omega)) (by dsimp only [rm]; omega) (by dsimp only [rm]; omega) (fun r ad' f' H locs hw B => ?_)
            obtain ⟨a8, a8x, h8, hF8, rfl, rfl, rfl⟩ := hw
            have B : WB g (aw N ad sz) s.heap N ad f H locs := B.drop (by omega) (fun _ hk => ((up_lt (Nat.lt_succ_of_lt (Nat.lt_succ_of_lt (Nat.lt_succ_of_lt hk)))).trans ((up_lt (Nat.lt_succ_of_lt (Nat.lt_succ_of_lt hk))).trans ((up_lt (Nat.lt_succ_of_lt hk)).trans (up_lt hk))))) (fun _ hk => ((up_lt (Nat.lt_succ_of_lt (Nat.lt_succ_of_lt (Nat.lt_succ_of_lt hk)))).trans ((up_lt (Nat.lt_succ_of_lt (Nat.lt_succ_of_lt hk))).trans ((up_lt (Nat.lt_succ_of_lt hk)).trans (up_lt hk)))))
            exact rt_r (r := some a8) rfl X hr (Or.inl ⟨_, rfl⟩) (ad, f) B (PO_of B) ⟨rfl, ⟨_, rfl⟩, rfl⟩ (by dsimp only [rm]; omega) (by dsimp only [rm]; omega) dX2_numberInSigns_92
          · refine lv_aload_n hx hb dX2_numberInSigns_76 rfl (lv_at hl 1 rfl) ?_
            refine lv_bipush (v := 45) hx hb dX2_numberInSigns_77 (by decide) ?_
            obtain ⟨e9a, e9b, e9c⟩ := g_no (q := (n + 1)) (m := 16) (by omega)
            refine k_r (k := (2)) (n := (20)) hA B (b_V (q := N) (rest := []) ((up_lt (by omega)).trans up_eq) X (c_S_appC l g (N + 1 + 1) (va_up (va_up ad N z1) (N + 1) v) (va_up (va_up f N (c_sb v 0 n)) (N + 1) (c_ba g 16 h)) N (N + 1) z1 v n 16 0 h (by omega) (by omega) (by omega) ((up_lt (by omega)).trans up_eq) up_eq ((up_lt (by omega)).trans up_eq) up_eq hF (by omega) (by omega) 45 (by decide) H.size) mw_J4_append_cf468 md_J4_append_cf468 rfl lk_X2_271 ⟨Nat.le_of_ble_eq_true rfl, Nat.le_of_ble_eq_true rfl⟩ hA hK hT B (by omega) ((up_lt (by omega)).trans up_eq) rfl rfl hl.1 rfl (Nat.le_of_ble_eq_true rfl) dX2_numberInSigns_79 (by dsimp only [rm]; omega)) (by dsimp only [rm]; omega) (by dsimp only [rm]; omega) (fun r ad' f' H locs hw B => ?_)
            obtain ⟨v9, h9, hF9, rfl, rfl, rfl⟩ := hw
            rw [bx_uu, sw_4 (by omega), e9a] at B
            have B : WB g (aw N ad sz) s.heap (N + 1 + 1) (va_up (va_up ad N z1) (N + 1) v9) (va_up (va_up f N (c_sb v9 0 (n + 1))) (N + 1) (c_ba g 16 h9)) H locs := B
            refine lv_pop hx hb dX2_numberInSigns_82 rfl ?_
            refine lv_aload_n hx hb dX2_numberInSigns_83 rfl (lv_at hl 1 rfl) ?_
            refine k_r (k := (2)) (n := (20)) hA B (b_V (q := N) (rest := []) ((up_lt (by omega)).trans up_eq) X (c_S_rev l g (N + 1 + 1) (va_up (va_up ad N z1) (N + 1) v9) (va_up (va_up f N (c_sb v9 0 (n + 1))) (N + 1) (c_ba g 16 h9)) N (N + 1) z1 v9 (n + 1) 16 0 h9 (by omega) (by omega) (by omega) ((up_lt (by omega)).trans up_eq) up_eq ((up_lt (by omega)).trans up_eq) up_eq hF9 (by omega) (by omega) H.size) mw_J4_reverse_43fcb md_J4_reverse_43fcb rfl lk_X2_275 ⟨Nat.le_of_ble_eq_true rfl, Nat.le_of_ble_eq_true rfl⟩ hA hK hT B (by omega) ((up_lt (by omega)).trans up_eq) rfl rfl hl.1 rfl (Nat.le_of_ble_eq_true rfl) dX2_numberInSigns_84 (by dsimp only [rm]; omega)) (by dsimp only [rm]; omega) (by dsimp only [rm]; omega) (fun r ad' f' H locs hw B => ?_)
            obtain ⟨h10, hF10, rfl, rfl, rfl⟩ := hw
            rw [bx_uu] at B
            have B : WB g (aw N ad sz) s.heap (N + 1 + 1) (va_up (va_up ad N z1) (N + 1) v9) (va_up (va_up f N (c_sb v9 0 (n + 1))) (N + 1) (c_ba g 16 h10)) H locs := B
            refine lv_pop hx hb dX2_numberInSigns_87 rfl ?_
            refine lv_aload_n hx hb dX2_numberInSigns_88 rfl (lv_at hl 1 rfl) ?_
            refine k_r (k := (4)) (n := (20 + (4 + (n + 1)))) hA B (b_V (q := N) (rest := []) ((up_lt (by omega)).trans up_eq) X (c_S_toS l g (N + 1 + 1) (va_up (va_up ad N z1) (N + 1) v9) (va_up (va_up f N (c_sb v9 0 (n + 1))) (N + 1) (c_ba g 16 h10)) N (N + 1) z1 v9 (n + 1) 16 0 h10 (by omega) (by omega) (by omega) ((up_lt (by omega)).trans up_eq) up_eq ((up_lt (by omega)).trans up_eq) up_eq hF10 (by omega) (by omega) H.size) mw_J4_toString_0e30d md_J4_toString_0e30d rfl lk_X2_279 ⟨Nat.le_of_ble_eq_true rfl, Nat.le_of_ble_eq_true rfl⟩ hA hK hT B (by omega) ((up_lt (by omega)).trans up_eq) rfl rfl hl.1 rfl (Nat.le_of_ble_eq_true rfl) dX2_numberInSigns_89 (by dsimp only [rm]; omega)) (by dsimp only [rm]; omega) (by dsimp only [rm]; omega) (fun r ad' f' H locs hw B => ?_)
            obtain ⟨a11, a11x, h11, hF11, rfl, rfl, rfl⟩ := hw
            have B : WB g (aw N ad sz) s.heap N ad f H locs := B.drop (by omega) (fun _ hk => ((up_lt (Nat.lt_succ_of_lt (Nat.lt_succ_of_lt (Nat.lt_succ_of_lt hk)))).trans ((up_lt (Nat.lt_succ_of_lt (Nat.lt_succ_of_lt hk))).trans ((up_lt (Nat.lt_succ_of_lt hk)).trans (up_lt hk))))) (fun _ hk => ((up_lt (Nat.lt_succ_of_lt (Nat.lt_succ_of_lt (Nat.lt_succ_of_lt hk)))).trans ((up_lt (Nat.lt_succ_of_lt (Nat.lt_succ_of_lt hk))).trans ((up_lt (Nat.lt_succ_of_lt hk)).trans (up_lt hk)))))
            exact rt_r (r := some a11) rfl X hr (Or.inl ⟨_, rfl⟩) (ad, f) B (PO_of B) ⟨rfl, ⟨_, rfl⟩, rfl⟩ (by dsimp only [rm]; omega) (by dsimp only [rm]; omega) dX2_numberInSigns_92
        · refine lv_iload hx hb dX2_numberInSigns_31 (lv_at hl 3 rfl) ?_
          refine lv_if_eq (tgt := 42) hx hb dX2_numberInSigns_33 (by decide) (fun c12 => ?_) (fun c12 => ?_)
          · refine lv_aload_n hx hb dX2_numberInSigns_42 rfl (lv_at hl 1 rfl) ?_
            refine lv_ldc2 hx hb hown (hts _ (List.mem_cons_of_mem _ lk_X2_267)) dX2_numberInSigns_43 ?_
            refine lv_lload_n hx hb dX2_numberInSigns_46 rfl (lv_at hl 2 rfl) ?_
            refine lv_ldc2 hx hb hown (hts _ (List.mem_cons_of_mem _ lk_X2_269)) dX2_numberInSigns_47 ?_
            refine lv_lrem hx hb dX2_numberInSigns_50 (by decide) ?_
            refine lv_ladd hx hb dX2_numberInSigns_51 ?_
            refine lv_l2i (v := (48 + (xx - xx / 10 * 10)).toInt32) hx hb dX2_numberInSigns_52 rfl ?_
            refine lv_i2c (v := (((48 + (xx - xx / 10 * 10)).toInt32).toUInt32 % 65536).toInt32) hx hb dX2_numberInSigns_53 rfl ?_
            obtain ⟨e13a, e13b, e13c⟩ := g_no (q := (n + 1)) (m := 16) (by omega)
            refine k_r (k := (2)) (n := (20)) hA B (b_V (q := N) (rest := []) ((up_lt (by omega)).trans up_eq) X (c_S_appC l g (N + 1 + 1) (va_up (va_up ad N z1) (N + 1) v) (va_up (va_up f N (c_sb v 0 n)) (N + 1) (c_ba g 16 h)) N (N + 1) z1 v n 16 0 h (by omega) (by omega) (by omega) ((up_lt (by omega)).trans up_eq) up_eq ((up_lt (by omega)).trans up_eq) up_eq hF (by omega) (by omega) ((((48 + (xx - xx / 10 * 10)).toInt32).toUInt32 % 65536).toInt32) (dig_ok _) H.size) mw_J4_append_cf468 md_J4_append_cf468 rfl lk_X2_271 ⟨Nat.le_of_ble_eq_true rfl, Nat.le_of_ble_eq_true rfl⟩ hA hK hT B (by omega) ((up_lt (by omega)).trans up_eq) rfl rfl hl.1 rfl (Nat.le_of_ble_eq_true rfl) dX2_numberInSigns_54 (by dsimp only [rm]; omega)) (by dsimp only [rm]; omega) (by dsimp only [rm]; omega) (fun r ad' f' H locs hw B => ?_)
            obtain ⟨v13, h13, hF13, rfl, rfl, rfl⟩ := hw
            rw [bx_uu, sw_4 (by omega), e13a] at B
            have B : WB g (aw N ad sz) s.heap (N + 1 + 1) (va_up (va_up ad N z1) (N + 1) v13) (va_up (va_up f N (c_sb v13 0 (n + 1))) (N + 1) (c_ba g 16 h13)) H locs := B
            refine lv_pop hx hb dX2_numberInSigns_57 rfl ?_
            refine lv_lload_n hx hb dX2_numberInSigns_58 rfl (lv_at hl 2 rfl) ?_
            refine lv_ldc2 hx hb hown (hts _ (List.mem_cons_of_mem _ lk_X2_269)) dX2_numberInSigns_59 ?_
            refine lv_ldiv hx hb dX2_numberInSigns_62 (by decide) ?_
            refine lv_lstore_n (lv' := [(3, .long (xx / 10)), (0, .long b0), (2, .ref z1), (5, .int (nI n))]) hx hb dX2_numberInSigns_63 rfl hl (by decide) rfl (fun ls hl => ?_)
            refine lv_iinc (v := (nI n) + 1) (lv' := [(5, .int ((nI n) + 1)), (3, .long (xx / 10)), (0, .long b0), (2, .ref z1)]) hx hb dX2_numberInSigns_64 hl (k := 3) rfl rfl (by decide) rfl (fun ls hl => ?_)
            refine lv_goto (tgt := 24) hx hb dX2_numberInSigns_67 (by decide) ?_
            have hlt := dig_lt hn11 c5
            rw [nI_1] at hl
            exact ih1 (xx / 10) (n + 1) v13 h13 H locs (by omega) (by omega) hF13 B ls (lv_sub hl [2, 3, 1, 0] rfl)
          · refine lv_lload_n hx hb dX2_numberInSigns_36 rfl (lv_at hl 2 rfl) ?_
            refine lv_lconst (v := 0) hx hb dX2_numberInSigns_37 (by decide) ?_
            refine W.lcmp hx hb dX2_numberInSigns_38 ?_
            refine lv_if_le (tgt := 70) hx hb dX2_numberInSigns_39 (by decide) (fun c14 => ?_) (fun c14 => ?_)
            · refine lv_lload_n hx hb dX2_numberInSigns_70 rfl (lv_at hl 0 rfl) ?_
              refine lv_lconst (v := 0) hx hb dX2_numberInSigns_71 (by decide) ?_
              refine W.lcmp hx hb dX2_numberInSigns_72 ?_
              refine lv_if_ge (tgt := 83) hx hb dX2_numberInSigns_73 (by decide) (fun c15 => ?_) (fun c15 => ?_)
              · refine lv_aload_n hx hb dX2_numberInSigns_83 rfl (lv_at hl 1 rfl) ?_
                refine k_r (k := (2)) (n := (20)) hA B (b_V (q := N) (rest := []) ((up_lt (by omega)).trans up_eq) X (c_S_rev l g (N + 1 + 1) (va_up (va_up ad N z1) (N + 1) v) (va_up (va_up f N (c_sb v 0 n)) (N + 1) (c_ba g 16 h)) N (N + 1) z1 v n 16 0 h (by omega) (by omega) (by omega) ((up_lt (by omega)).trans up_eq) up_eq ((up_lt (by omega)).trans up_eq) up_eq hF (by omega) (by omega) H.size) mw_J4_reverse_43fcb md_J4_reverse_43fcb rfl lk_X2_275 ⟨Nat.le_of_ble_eq_true rfl, Nat.le_of_ble_eq_true rfl⟩ hA hK hT B (by omega) ((up_lt (by omega)).trans up_eq) rfl rfl hl.1 rfl (Nat.le_of_ble_eq_true rfl) dX2_numberInSigns_84 (by dsimp only [rm]; omega)) (by dsimp only [rm]; omega) (by dsimp only [rm]; omega) (fun r ad' f' H locs hw B => ?_)
                obtain ⟨h16, hF16, rfl, rfl, rfl⟩ := hw
                rw [bx_uu] at B
                have B : WB g (aw N ad sz) s.heap (N + 1 + 1) (va_up (va_up ad N z1) (N + 1) v) (va_up (va_up f N (c_sb v 0 n)) (N + 1) (c_ba g 16 h16)) H locs := B
                refine lv_pop hx hb dX2_numberInSigns_87 rfl ?_
                refine lv_aload_n hx hb dX2_numberInSigns_88 rfl (lv_at hl 1 rfl) ?_
                refine k_r (k := (4)) (n := (20 + (4 + n))) hA B (b_V (q := N) (rest := []) ((up_lt (by omega)).trans up_eq) X (c_S_toS l g (N + 1 + 1) (va_up (va_up ad N z1) (N + 1) v) (va_up (va_up f N (c_sb v 0 n)) (N + 1) (c_ba g 16 h16)) N (N + 1) z1 v n 16 0 h16 (by omega) (by omega) (by omega) ((up_lt (by omega)).trans up_eq) up_eq ((up_lt (by omega)).trans up_eq) up_eq hF16 (by omega) (by omega) H.size) mw_J4_toString_0e30d md_J4_toString_0e30d rfl lk_X2_279 ⟨Nat.le_of_ble_eq_true rfl, Nat.le_of_ble_eq_true rfl⟩ hA hK hT B (by omega) ((up_lt (by omega)).trans up_eq) rfl rfl hl.1 rfl (Nat.le_of_ble_eq_true rfl) dX2_numberInSigns_89 (by dsimp only [rm]; omega)) (by dsimp only [rm]; omega) (by dsimp only [rm]; omega) (fun r ad' f' H locs hw B => ?_)
                obtain ⟨a17, a17x, h17, hF17, rfl, rfl, rfl⟩ := hw
                have B : WB g (aw N ad sz) s.heap N ad f H locs := B.drop (by omega) (fun _ hk => ((up_lt (Nat.lt_succ_of_lt (Nat.lt_succ_of_lt (Nat.lt_succ_of_lt hk)))).trans ((up_lt (Nat.lt_succ_of_lt (Nat.lt_succ_of_lt hk))).trans ((up_lt (Nat.lt_succ_of_lt hk)).trans (up_lt hk))))) (fun _ hk => ((up_lt (Nat.lt_succ_of_lt (Nat.lt_succ_of_lt (Nat.lt_succ_of_lt hk)))).trans ((up_lt (Nat.lt_succ_of_lt (Nat.lt_succ_of_lt hk))).trans ((up_lt (Nat.lt_succ_of_lt hk)).trans (up_lt hk)))))
                exact rt_r (r := some a17) rfl X hr (Or.inl ⟨_, rfl⟩) (ad, f) B (PO_of B) ⟨rfl, ⟨_, rfl⟩, rfl⟩ (by dsimp only [rm]; omega) (by dsimp only [rm]; omega) dX2_numberInSigns_92
              · refine lv_aload_n hx hb dX2_numberInSigns_76 rfl (lv_at hl 1 rfl) ?_
                refine lv_bipush (v := 45) hx hb dX2_numberInSigns_77 (by decide) ?_
                obtain ⟨e18a, e18b, e18c⟩ := g_no (q := (n + 1)) (m := 16) (by omega)
                refine k_r (k := (2)) (n := (20)) hA B (b_V (q := N) (rest := []) ((up_lt (by omega)).trans up_eq) X (c_S_appC l g (N + 1 + 1) (va_up (va_up ad N z1) (N + 1) v) (va_up (va_up f N (c_sb v 0 n)) (N + 1) (c_ba g 16 h)) N (N + 1) z1 v n 16 0 h (by omega) (by omega) (by omega) ((up_lt (by omega)).trans up_eq) up_eq ((up_lt (by omega)).trans up_eq) up_eq hF (by omega) (by omega) 45 (by decide) H.size) mw_J4_append_cf468 md_J4_append_cf468 rfl lk_X2_271 ⟨Nat.le_of_ble_eq_true rfl, Nat.le_of_ble_eq_true rfl⟩ hA hK hT B (by omega) ((up_lt (by omega)).trans up_eq) rfl rfl hl.1 rfl (Nat.le_of_ble_eq_true rfl) dX2_numberInSigns_79 (by dsimp only [rm]; omega)) (by dsimp only [rm]; omega) (by dsimp only [rm]; omega) (fun r ad' f' H locs hw B => ?_)
                obtain ⟨v18, h18, hF18, rfl, rfl, rfl⟩ := hw
                rw [bx_uu, sw_4 (by omega), e18a] at B
                have B : WB g (aw N ad sz) s.heap (N + 1 + 1) (va_up (va_up ad N z1) (N + 1) v18) (va_up (va_up f N (c_sb v18 0 (n + 1))) (N + 1) (c_ba g 16 h18)) H locs := B
                refine lv_pop hx hb dX2_numberInSigns_82 rfl ?_
                refine lv_aload_n hx hb dX2_numberInSigns_83 rfl (lv_at hl 1 rfl) ?_
                refine k_r (k := (2)) (n := (20)) hA B (b_V (q := N) (rest := []) ((up_lt (by omega)).trans up_eq) X (c_S_rev l g (N + 1 + 1) (va_up (va_up ad N z1) (N + 1) v18) (va_up (va_up f N (c_sb v18 0 (n + 1))) (N + 1) (c_ba g 16 h18)) N (N + 1) z1 v18 (n + 1) 16 0 h18 (by omega) (by omega) (by omega) ((up_lt (by omega)).trans up_eq) up_eq ((up_lt (by omega)).trans up_eq) up_eq hF18 (by omega) (by omega) H.size) mw_J4_reverse_43fcb md_J4_reverse_43fcb rfl lk_X2_275 ⟨Nat.le_of_ble_eq_true rfl, Nat.le_of_ble_eq_true rfl⟩ hA hK hT B (by omega) ((up_lt (by omega)).trans up_eq) rfl rfl hl.1 rfl (Nat.le_of_ble_eq_true rfl) dX2_numberInSigns_84 (by dsimp only [rm]; omega)) (by dsimp only [rm]; omega) (by dsimp only [rm]; omega) (fun r ad' f' H locs hw B => ?_)
                obtain ⟨h19, hF19, rfl, rfl, rfl⟩ := hw
                rw [bx_uu] at B
                have B : WB g (aw N ad sz) s.heap (N + 1 + 1) (va_up (va_up ad N z1) (N + 1) v18) (va_up (va_up f N (c_sb v18 0 (n + 1))) (N + 1) (c_ba g 16 h19)) H locs := B
                refine lv_pop hx hb dX2_numberInSigns_87 rfl ?_
                refine lv_aload_n hx hb dX2_numberInSigns_88 rfl (lv_at hl 1 rfl) ?_
                refine k_r (k := (4)) (n := (20 + (4 + (n + 1)))) hA B (b_V (q := N) (rest := []) ((up_lt (by omega)).trans up_eq) X (c_S_toS l g (N + 1 + 1) (va_up (va_up ad N z1) (N + 1) v18) (va_up (va_up f N (c_sb v18 0 (n + 1))) (N + 1) (c_ba g 16 h19)) N (N + 1) z1 v18 (n + 1) 16 0 h19 (by omega) (by omega) (by omega) ((up_lt (by omega)).trans up_eq) up_eq ((up_lt (by omega)).trans up_eq) up_eq hF19 (by omega) (by omega) H.size) mw_J4_toString_0e30d md_J4_toString_0e30d rfl lk_X2_279 ⟨Nat.le_of_ble_eq_true rfl, Nat.le_of_ble_eq_true rfl⟩ hA hK hT B (by omega) ((up_lt (by omega)).trans up_eq) rfl rfl hl.1 rfl (Nat.le_of_ble_eq_true rfl) dX2_numberInSigns_89 (by dsimp only [rm]; omega)) (by dsimp only [rm]; omega) (by dsimp only [rm]; omega) (fun r ad' f' H locs hw B => ?_)
                obtain ⟨a20, a20x, h20, hF20, rfl, rfl, rfl⟩ := hw
                have B : WB g (aw N ad sz) s.heap N ad f H locs := B.drop (by omega) (fun _ hk => ((up_lt (Nat.lt_succ_of_lt (Nat.lt_succ_of_lt (Nat.lt_succ_of_lt hk)))).trans ((up_lt (Nat.lt_succ_of_lt (Nat.lt_succ_of_lt hk))).trans ((up_lt (Nat.lt_succ_of_lt hk)).trans (up_lt hk))))) (fun _ hk => ((up_lt (Nat.lt_succ_of_lt (Nat.lt_succ_of_lt (Nat.lt_succ_of_lt hk)))).trans ((up_lt (Nat.lt_succ_of_lt (Nat.lt_succ_of_lt hk))).trans ((up_lt (Nat.lt_succ_of_lt hk)).trans (up_lt hk)))))
                exact rt_r (r := some a20) rfl X hr (Or.inl ⟨_, rfl⟩) (ad, f) B (PO_of B) ⟨rfl, ⟨_, rfl⟩, rfl⟩ (by dsimp only [rm]; omega) (by dsimp only [rm]; omega) dX2_numberInSigns_92
            · refine lv_aload_n hx hb dX2_numberInSigns_42 rfl (lv_at hl 1 rfl) ?_
              refine lv_ldc2 hx hb hown (hts _ (List.mem_cons_of_mem _ lk_X2_267)) dX2_numberInSigns_43 ?_
              refine lv_lload_n hx hb dX2_numberInSigns_46 rfl (lv_at hl 2 rfl) ?_
              refine lv_ldc2 hx hb hown (hts _ (List.mem_cons_of_mem _ lk_X2_269)) dX2_numberInSigns_47 ?_
              refine lv_lrem hx hb dX2_numberInSigns_50 (by decide) ?_
              refine lv_ladd hx hb dX2_numberInSigns_51 ?_
              refine lv_l2i (v := (48 + (xx - xx / 10 * 10)).toInt32) hx hb dX2_numberInSigns_52 rfl ?_
              refine lv_i2c (v := (((48 + (xx - xx / 10 * 10)).toInt32).toUInt32 % 65536).toInt32) hx hb dX2_numberInSigns_53 rfl ?_
              obtain ⟨e21a, e21b, e21c⟩ := g_no (q := (n + 1)) (m := 16) (by omega)
              refine k_r (k := (2)) (n := (20)) hA B (b_V (q := N) (rest := []) ((up_lt (by omega)).trans up_eq) X (c_S_appC l g (N + 1 + 1) (va_up (va_up ad N z1) (N + 1) v) (va_up (va_up f N (c_sb v 0 n)) (N + 1) (c_ba g 16 h)) N (N + 1) z1 v n 16 0 h (by omega) (by omega) (by omega) ((up_lt (by omega)).trans up_eq) up_eq ((up_lt (by omega)).trans up_eq) up_eq hF (by omega) (by omega) ((((48 + (xx - xx / 10 * 10)).toInt32).toUInt32 % 65536).toInt32) (dig_ok _) H.size) mw_J4_append_cf468 md_J4_append_cf468 rfl lk_X2_271 ⟨Nat.le_of_ble_eq_true rfl, Nat.le_of_ble_eq_true rfl⟩ hA hK hT B (by omega) ((up_lt (by omega)).trans up_eq) rfl rfl hl.1 rfl (Nat.le_of_ble_eq_true rfl) dX2_numberInSigns_54 (by dsimp only [rm]; omega)) (by dsimp only [rm]; omega) (by dsimp only [rm]; omega) (fun r ad' f' H locs hw B => ?_)
              obtain ⟨v21, h21, hF21, rfl, rfl, rfl⟩ := hw
              rw [bx_uu, sw_4 (by omega), e21a] at B
              have B : WB g (aw N ad sz) s.heap (N + 1 + 1) (va_up (va_up ad N z1) (N + 1) v21) (va_up (va_up f N (c_sb v21 0 (n + 1))) (N + 1) (c_ba g 16 h21)) H locs := B
              refine lv_pop hx hb dX2_numberInSigns_57 rfl ?_
              refine lv_lload_n hx hb dX2_numberInSigns_58 rfl (lv_at hl 2 rfl) ?_
              refine lv_ldc2 hx hb hown (hts _ (List.mem_cons_of_mem _ lk_X2_269)) dX2_numberInSigns_59 ?_
              refine lv_ldiv hx hb dX2_numberInSigns_62 (by decide) ?_
              refine lv_lstore_n (lv' := [(3, .long (xx / 10)), (0, .long b0), (2, .ref z1), (5, .int (nI n))]) hx hb dX2_numberInSigns_63 rfl hl (by decide) rfl (fun ls hl => ?_)
              refine lv_iinc (v := (nI n) + 1) (lv' := [(5, .int ((nI n) + 1)), (3, .long (xx / 10)), (0, .long b0), (2, .ref z1)]) hx hb dX2_numberInSigns_64 hl (k := 3) rfl rfl (by decide) rfl (fun ls hl => ?_)
              refine lv_goto (tgt := 24) hx hb dX2_numberInSigns_67 (by decide) ?_
              have hlt := dig_lt hn11 c5
              rw [nI_1] at hl
              exact ih1 (xx / 10) (n + 1) v21 h21 H locs (by omega) (by omega) hF21 B ls (lv_sub hl [2, 3, 1, 0] rfl)
    exact loop4 12 b0 0 v2 (fun _ => 0) H locs (by decide) (by decide) sb_fit0 B ls (lv_sub hl [3, 2, 1, 0] rfl)
  · refine lv_lload_n hx hb dX2_numberInSigns_14 rfl (lv_at hl 1 rfl) ?_
    refine lv_lneg hx hb dX2_numberInSigns_15 ?_
    refine lv_goto (tgt := 20) hx hb dX2_numberInSigns_16 (by decide) ?_
    refine lv_lstore_n (lv' := [(3, .long (-b0)), (2, .ref z1), (0, .long b0)]) hx hb dX2_numberInSigns_20 rfl hl (by decide) rfl (fun ls hl => ?_)
    refine lv_iconst (v := 0) hx hb dX2_numberInSigns_21 (by decide) ?_
    refine lv_istore (lv' := [(5, .int 0), (3, .long (-b0)), (2, .ref z1), (0, .long b0)]) hx hb dX2_numberInSigns_22 hl (by decide) rfl (fun ls hl => ?_)
    have loop22 : ∀ (n1 : Nat) (xx : Int64) (n v : Nat) (h : Nat → Int32) (H : Heap) (locs : List Loc), 11 - n < n1 → n ≤ 11 → sb_Fit h → WB g (aw N ad sz) s.heap (N + 1 + 1) (va_up (va_up ad N z1) (N + 1) v) (va_up (va_up f N (c_sb v 0 n)) (N + 1) (c_ba g 16 h)) H locs → ∀ ls : Array Slot, lv_has ls 6 [(0, .long b0), (2, .ref z1), (3, .long xx), (5, .int (nI n))] → W p l e0 (rm 6 4 40) s m9 args below meth c H locs (2) (20) (MQ below (va_Qq (fun r (u : WS) => (fun r ad' f' => ad = ad' ∧ (∃ a : Nat, some a = r) ∧ f = f') r u.1 u.2) (fun u t => PO g N u.1 u.2 (aw N ad sz) t) (aw N ad sz)) args s (rm 6 4 40).cells (rm 6 4 40).slots (aw N ad sz)) (F0 m9 24 ls []) := by
      intro n1
      induction n1 with
      | zero => intro xx n v h H locs hn; exact absurd hn (Nat.not_lt_zero _)
      | succ n1 ih1 =>
        intro xx n v h H locs hn hn11 hF B ls hl
        refine lv_iload hx hb dX2_numberInSigns_24 (lv_at hl 3 rfl) ?_
        refine lv_bipush (v := 11) hx hb dX2_numberInSigns_26 (by decide) ?_
        refine lv_icmp_ge (tgt := 70) hx hb dX2_numberInSigns_28 (by decide) (fun c23 => ?_) (fun c23 => ?_)
        · refine lv_lload_n hx hb dX2_numberInSigns_70 rfl (lv_at hl 0 rfl) ?_
          refine lv_lconst (v := 0) hx hb dX2_numberInSigns_71 (by decide) ?_
          refine W.lcmp hx hb dX2_numberInSigns_72 ?_
          refine lv_if_ge (tgt := 83) hx hb dX2_numberInSigns_73 (by decide) (fun c24 => ?_) (fun c24 => ?_)
          · refine lv_aload_n hx hb dX2_numberInSigns_83 rfl (lv_at hl 1 rfl) ?_
            refine k_r (k := (2)) (n := (20)) hA B (b_V (q := N) (rest := []) ((up_lt (by omega)).trans up_eq) X (c_S_rev l g (N + 1 + 1) (va_up (va_up ad N z1) (N + 1) v) (va_up (va_up f N (c_sb v 0 n)) (N + 1) (c_ba g 16 h)) N (N + 1) z1 v n 16 0 h (by omega) (by omega) (by omega) ((up_lt (by omega)).trans up_eq) up_eq ((up_lt (by omega)).trans up_eq) up_eq hF (by omega) (by omega) H.size) mw_J4_reverse_43fcb md_J4_reverse_43fcb rfl lk_X2_275 ⟨Nat.le_of_ble_eq_true rfl, Nat.le_of_ble_eq_true rfl⟩ hA hK hT B (by omega) ((up_lt (by omega)).trans up_eq) rfl rfl hl.1 rfl (Nat.le_of_ble_eq_true rfl) dX2_numberInSigns_84 (by dsimp only [rm]; omega)) (by dsimp only [rm]; omega) (by dsimp only [rm]; omega) (fun r ad' f' H locs hw B => ?_)
            obtain ⟨h25, hF25, rfl, rfl, rfl⟩ := hw
            rw [bx_uu] at B
            have B : WB g (aw N ad sz) s.heap (N + 1 + 1) (va_up (va_up ad N z1) (N + 1) v) (va_up (va_up f N (c_sb v 0 n)) (N + 1) (c_ba g 16 h25)) H locs := B
            refine lv_pop hx hb dX2_numberInSigns_87 rfl ?_
            refine lv_aload_n hx hb dX2_numberInSigns_88 rfl (lv_at hl 1 rfl) ?_
            refine k_r (k := (4)) (n := (20 + (4 + n))) hA B (b_V (q := N) (rest := []) ((up_lt (by omega)).trans up_eq) X (c_S_toS l g (N + 1 + 1) (va_up (va_up ad N z1) (N + 1) v) (va_up (va_up f N (c_sb v 0 n)) (N + 1) (c_ba g 16 h25)) N (N + 1) z1 v n 16 0 h25 (by omega) (by omega) (by omega) ((up_lt (by omega)).trans up_eq) up_eq ((up_lt (by omega)).trans up_eq) up_eq hF25 (by omega) (by omega) H.size) mw_J4_toString_0e30d md_J4_toString_0e30d rfl lk_X2_279 ⟨Nat.le_of_ble_eq_true rfl, Nat.le_of_ble_eq_true rfl⟩ hA hK hT B (by omega) ((up_lt (by omega)).trans up_eq) rfl rfl hl.1 rfl (Nat.le_of_ble_eq_true rfl) dX2_numberInSigns_89 (by dsimp only [rm]; omega)) (by dsimp only [rm]; omega) (by dsimp only [rm]; omega) (fun r ad' f' H locs hw B => ?_)
            obtain ⟨a26, a26x, h26, hF26, rfl, rfl, rfl⟩ := hw
            have B : WB g (aw N ad sz) s.heap N ad f H locs := B.drop (by omega) (fun _ hk => ((up_lt (Nat.lt_succ_of_lt (Nat.lt_succ_of_lt (Nat.lt_succ_of_lt hk)))).trans ((up_lt (Nat.lt_succ_of_lt (Nat.lt_succ_of_lt hk))).trans ((up_lt (Nat.lt_succ_of_lt hk)).trans (up_lt hk))))) (fun _ hk => ((up_lt (Nat.lt_succ_of_lt (Nat.lt_succ_of_lt (Nat.lt_succ_of_lt hk)))).trans ((up_lt (Nat.lt_succ_of_lt (Nat.lt_succ_of_lt hk))).trans ((up_lt (Nat.lt_succ_of_lt hk)).trans (up_lt hk)))))
            exact rt_r (r := some a26) rfl X hr (Or.inl ⟨_, rfl⟩) (ad, f) B (PO_of B) ⟨rfl, ⟨_, rfl⟩, rfl⟩ (by dsimp only [rm]; omega) (by dsimp only [rm]; omega) dX2_numberInSigns_92
          · refine lv_aload_n hx hb dX2_numberInSigns_76 rfl (lv_at hl 1 rfl) ?_
            refine lv_bipush (v := 45) hx hb dX2_numberInSigns_77 (by decide) ?_
            obtain ⟨e27a, e27b, e27c⟩ := g_no (q := (n + 1)) (m := 16) (by omega)
            refine k_r (k := (2)) (n := (20)) hA B (b_V (q := N) (rest := []) ((up_lt (by omega)).trans up_eq) X (c_S_appC l g (N + 1 + 1) (va_up (va_up ad N z1) (N + 1) v) (va_up (va_up f N (c_sb v 0 n)) (N + 1) (c_ba g 16 h)) N (N + 1) z1 v n 16 0 h (by omega) (by omega) (by omega) ((up_lt (by omega)).trans up_eq) up_eq ((up_lt (by omega)).trans up_eq) up_eq hF (by omega) (by omega) 45 (by decide) H.size) mw_J4_append_cf468 md_J4_append_cf468 rfl lk_X2_271 ⟨Nat.le_of_ble_eq_true rfl, Nat.le_of_ble_eq_true rfl⟩ hA hK hT B (by omega) ((up_lt (by omega)).trans up_eq) rfl rfl hl.1 rfl (Nat.le_of_ble_eq_true rfl) dX2_numberInSigns_79 (by dsimp only [rm]; omega)) (by dsimp only [rm]; omega) (by dsimp only [rm]; omega) (fun r ad' f' H locs hw B => ?_)
            obtain ⟨v27, h27, hF27, rfl, rfl, rfl⟩ := hw
            rw [bx_uu, sw_4 (by omega), e27a] at B
            have B : WB g (aw N ad sz) s.heap (N + 1 + 1) (va_up (va_up ad N z1) (N + 1) v27) (va_up (va_up f N (c_sb v27 0 (n + 1))) (N + 1) (c_ba g 16 h27)) H locs := B
            refine lv_pop hx hb dX2_numberInSigns_82 rfl ?_
            refine lv_aload_n hx hb dX2_numberInSigns_83 rfl (lv_at hl 1 rfl) ?_
            refine k_r (k := (2)) (n := (20)) hA B (b_V (q := N) (rest := []) ((up_lt (by omega)).trans up_eq) X (c_S_rev l g (N + 1 + 1) (va_up (va_up ad N z1) (N + 1) v27) (va_up (va_up f N (c_sb v27 0 (n + 1))) (N + 1) (c_ba g 16 h27)) N (N + 1) z1 v27 (n + 1) 16 0 h27 (by omega) (by omega) (by omega) ((up_lt (by omega)).trans up_eq) up_eq ((up_lt (by omega)).trans up_eq) up_eq hF27 (by omega) (by omega) H.size) mw_J4_reverse_43fcb md_J4_reverse_43fcb rfl lk_X2_275 ⟨Nat.le_of_ble_eq_true rfl, Nat.le_of_ble_eq_true rfl⟩ hA hK hT B (by omega) ((up_lt (by omega)).trans up_eq) rfl rfl hl.1 rfl (Nat.le_of_ble_eq_true rfl) dX2_numberInSigns_84 (by dsimp only [rm]; omega)) (by dsimp only [rm]; omega) (by dsimp only [rm]; omega) (fun r ad' f' H locs hw B => ?_)
            obtain ⟨h28, hF28, rfl, rfl, rfl⟩ := hw
            rw [bx_uu] at B
            have B : WB g (aw N ad sz) s.heap (N + 1 + 1) (va_up (va_up ad N z1) (N + 1) v27) (va_up (va_up f N (c_sb v27 0 (n + 1))) (N + 1) (c_ba g 16 h28)) H locs := B
            refine lv_pop hx hb dX2_numberInSigns_87 rfl ?_
            refine lv_aload_n hx hb dX2_numberInSigns_88 rfl (lv_at hl 1 rfl) ?_
            refine k_r (k := (4)) (n := (20 + (4 + (n + 1)))) hA B (b_V (q := N) (rest := []) ((up_lt (by omega)).trans up_eq) X (c_S_toS l g (N + 1 + 1) (va_up (va_up ad N z1) (N + 1) v27) (va_up (va_up f N (c_sb v27 0 (n + 1))) (N + 1) (c_ba g 16 h28)) N (N + 1) z1 v27 (n + 1) 16 0 h28 (by omega) (by omega) (by omega) ((up_lt (by omega)).trans up_eq) up_eq ((up_lt (by omega)).trans up_eq) up_eq hF28 (by omega) (by omega) H.size) mw_J4_toString_0e30d md_J4_toString_0e30d rfl lk_X2_279 ⟨Nat.le_of_ble_eq_true rfl, Nat.le_of_ble_eq_true rfl⟩ hA hK hT B (by omega) ((up_lt (by omega)).trans up_eq) rfl rfl hl.1 rfl (Nat.le_of_ble_eq_true rfl) dX2_numberInSigns_89 (by dsimp only [rm]; omega)) (by dsimp only [rm]; omega) (by dsimp only [rm]; omega) (fun r ad' f' H locs hw B => ?_)
            obtain ⟨a29, a29x, h29, hF29, rfl, rfl, rfl⟩ := hw
            have B : WB g (aw N ad sz) s.heap N ad f H locs := B.drop (by omega) (fun _ hk => ((up_lt (Nat.lt_succ_of_lt (Nat.lt_succ_of_lt (Nat.lt_succ_of_lt hk)))).trans ((up_lt (Nat.lt_succ_of_lt (Nat.lt_succ_of_lt hk))).trans ((up_lt (Nat.lt_succ_of_lt hk)).trans (up_lt hk))))) (fun _ hk => ((up_lt (Nat.lt_succ_of_lt (Nat.lt_succ_of_lt (Nat.lt_succ_of_lt hk)))).trans ((up_lt (Nat.lt_succ_of_lt (Nat.lt_succ_of_lt hk))).trans ((up_lt (Nat.lt_succ_of_lt hk)).trans (up_lt hk)))))
            exact rt_r (r := some a29) rfl X hr (Or.inl ⟨_, rfl⟩) (ad, f) B (PO_of B) ⟨rfl, ⟨_, rfl⟩, rfl⟩ (by dsimp only [rm]; omega) (by dsimp only [rm]; omega) dX2_numberInSigns_92
        · refine lv_iload hx hb dX2_numberInSigns_31 (lv_at hl 3 rfl) ?_
          refine lv_if_eq (tgt := 42) hx hb dX2_numberInSigns_33 (by decide) (fun c30 => ?_) (fun c30 => ?_)
          · refine lv_aload_n hx hb dX2_numberInSigns_42 rfl (lv_at hl 1 rfl) ?_
            refine lv_ldc2 hx hb hown (hts _ (List.mem_cons_of_mem _ lk_X2_267)) dX2_numberInSigns_43 ?_
            refine lv_lload_n hx hb dX2_numberInSigns_46 rfl (lv_at hl 2 rfl) ?_
            refine lv_ldc2 hx hb hown (hts _ (List.mem_cons_of_mem _ lk_X2_269)) dX2_numberInSigns_47 ?_
            refine lv_lrem hx hb dX2_numberInSigns_50 (by decide) ?_
            refine lv_ladd hx hb dX2_numberInSigns_51 ?_
            refine lv_l2i (v := (48 + (xx - xx / 10 * 10)).toInt32) hx hb dX2_numberInSigns_52 rfl ?_
            refine lv_i2c (v := (((48 + (xx - xx / 10 * 10)).toInt32).toUInt32 % 65536).toInt32) hx hb dX2_numberInSigns_53 rfl ?_
            obtain ⟨e31a, e31b, e31c⟩ := g_no (q := (n + 1)) (m := 16) (by omega)
            refine k_r (k := (2)) (n := (20)) hA B (b_V (q := N) (rest := []) ((up_lt (by omega)).trans up_eq) X (c_S_appC l g (N + 1 + 1) (va_up (va_up ad N z1) (N + 1) v) (va_up (va_up f N (c_sb v 0 n)) (N + 1) (c_ba g 16 h)) N (N + 1) z1 v n 16 0 h (by omega) (by omega) (by omega) ((up_lt (by omega)).trans up_eq) up_eq ((up_lt (by omega)).trans up_eq) up_eq hF (by omega) (by omega) ((((48 + (xx - xx / 10 * 10)).toInt32).toUInt32 % 65536).toInt32) (dig_ok _) H.size) mw_J4_append_cf468 md_J4_append_cf468 rfl lk_X2_271 ⟨Nat.le_of_ble_eq_true rfl, Nat.le_of_ble_eq_true rfl⟩ hA hK hT B (by omega) ((up_lt (by omega)).trans up_eq) rfl rfl hl.1 rfl (Nat.le_of_ble_eq_true rfl) dX2_numberInSigns_54 (by dsimp only [rm]; omega)) (by dsimp only [rm]; omega) (by dsimp only [rm]; omega) (fun r ad' f' H locs hw B => ?_)
            obtain ⟨v31, h31, hF31, rfl, rfl, rfl⟩ := hw
            rw [bx_uu, sw_4 (by omega), e31a] at B
            have B : WB g (aw N ad sz) s.heap (N + 1 + 1) (va_up (va_up ad N z1) (N + 1) v31) (va_up (va_up f N (c_sb v31 0 (n + 1))) (N + 1) (c_ba g 16 h31)) H locs := B
            refine lv_pop hx hb dX2_numberInSigns_57 rfl ?_
            refine lv_lload_n hx hb dX2_numberInSigns_58 rfl (lv_at hl 2 rfl) ?_
            refine lv_ldc2 hx hb hown (hts _ (List.mem_cons_of_mem _ lk_X2_269)) dX2_numberInSigns_59 ?_
            refine lv_ldiv hx hb dX2_numberInSigns_62 (by decide) ?_
            refine lv_lstore_n (lv' := [(3, .long (xx / 10)), (0, .long b0), (2, .ref z1), (5, .int (nI n))]) hx hb dX2_numberInSigns_63 rfl hl (by decide) rfl (fun ls hl => ?_)
            refine lv_iinc (v := (nI n) + 1) (lv' := [(5, .int ((nI n) + 1)), (3, .long (xx / 10)), (0, .long b0), (2, .ref z1)]) hx hb dX2_numberInSigns_64 hl (k := 3) rfl rfl (by decide) rfl (fun ls hl => ?_)
            refine lv_goto (tgt := 24) hx hb dX2_numberInSigns_67 (by decide) ?_
            have hlt := dig_lt hn11 c23
            rw [nI_1] at hl
            exact ih1 (xx / 10) (n + 1) v31 h31 H locs (by omega) (by omega) hF31 B ls (lv_sub hl [2, 3, 1, 0] rfl)
          · refine lv_lload_n hx hb dX2_numberInSigns_36 rfl (lv_at hl 2 rfl) ?_
            refine lv_lconst (v := 0) hx hb dX2_numberInSigns_37 (by decide) ?_
            refine W.lcmp hx hb dX2_numberInSigns_38 ?_
            refine lv_if_le (tgt := 70) hx hb dX2_numberInSigns_39 (by decide) (fun c32 => ?_) (fun c32 => ?_)
            · refine lv_lload_n hx hb dX2_numberInSigns_70 rfl (lv_at hl 0 rfl) ?_
              refine lv_lconst (v := 0) hx hb dX2_numberInSigns_71 (by decide) ?_
              refine W.lcmp hx hb dX2_numberInSigns_72 ?_
              refine lv_if_ge (tgt := 83) hx hb dX2_numberInSigns_73 (by decide) (fun c33 => ?_) (fun c33 => ?_)
              · refine lv_aload_n hx hb dX2_numberInSigns_83 rfl (lv_at hl 1 rfl) ?_
                refine k_r (k := (2)) (n := (20)) hA B (b_V (q := N) (rest := []) ((up_lt (by omega)).trans up_eq) X (c_S_rev l g (N + 1 + 1) (va_up (va_up ad N z1) (N + 1) v) (va_up (va_up f N (c_sb v 0 n)) (N + 1) (c_ba g 16 h)) N (N + 1) z1 v n 16 0 h (by omega) (by omega) (by omega) ((up_lt (by omega)).trans up_eq) up_eq ((up_lt (by omega)).trans up_eq) up_eq hF (by omega) (by omega) H.size) mw_J4_reverse_43fcb md_J4_reverse_43fcb rfl lk_X2_275 ⟨Nat.le_of_ble_eq_true rfl, Nat.le_of_ble_eq_true rfl⟩ hA hK hT B (by omega) ((up_lt (by omega)).trans up_eq) rfl rfl hl.1 rfl (Nat.le_of_ble_eq_true rfl) dX2_numberInSigns_84 (by dsimp only [rm]; omega)) (by dsimp only [rm]; omega) (by dsimp only [rm]; omega) (fun r ad' f' H locs hw B => ?_)
                obtain ⟨h34, hF34, rfl, rfl, rfl⟩ := hw
                rw [bx_uu] at B
                have B : WB g (aw N ad sz) s.heap (N + 1 + 1) (va_up (va_up ad N z1) (N + 1) v) (va_up (va_up f N (c_sb v 0 n)) (N + 1) (c_ba g 16 h34)) H locs := B
                refine lv_pop hx hb dX2_numberInSigns_87 rfl ?_
                refine lv_aload_n hx hb dX2_numberInSigns_88 rfl (lv_at hl 1 rfl) ?_
                refine k_r (k := (4)) (n := (20 + (4 + n))) hA B (b_V (q := N) (rest := []) ((up_lt (by omega)).trans up_eq) X (c_S_toS l g (N + 1 + 1) (va_up (va_up ad N z1) (N + 1) v) (va_up (va_up f N (c_sb v 0 n)) (N + 1) (c_ba g 16 h34)) N (N + 1) z1 v n 16 0 h34 (by omega) (by omega) (by omega) ((up_lt (by omega)).trans up_eq) up_eq ((up_lt (by omega)).trans up_eq) up_eq hF34 (by omega) (by omega) H.size) mw_J4_toString_0e30d md_J4_toString_0e30d rfl lk_X2_279 ⟨Nat.le_of_ble_eq_true rfl, Nat.le_of_ble_eq_true rfl⟩ hA hK hT B (by omega) ((up_lt (by omega)).trans up_eq) rfl rfl hl.1 rfl (Nat.le_of_ble_eq_true rfl) dX2_numberInSigns_89 (by dsimp only [rm]; omega)) (by dsimp only [rm]; omega) (by dsimp only [rm]; omega) (fun r ad' f' H locs hw B => ?_)
                obtain ⟨a35, a35x, h35, hF35, rfl, rfl, rfl⟩ := hw
                have B : WB g (aw N ad sz) s.heap N ad f H locs := B.drop (by omega) (fun _ hk => ((up_lt (Nat.lt_succ_of_lt (Nat.lt_succ_of_lt (Nat.lt_succ_of_lt hk)))).trans ((up_lt (Nat.lt_succ_of_lt (Nat.lt_succ_of_lt hk))).trans ((up_lt (Nat.lt_succ_of_lt hk)).trans (up_lt hk))))) (fun _ hk => ((up_lt (Nat.lt_succ_of_lt (Nat.lt_succ_of_lt (Nat.lt_succ_of_lt hk)))).trans ((up_lt (Nat.lt_succ_of_lt (Nat.lt_succ_of_lt hk))).trans ((up_lt (Nat.lt_succ_of_lt hk)).trans (up_lt hk)))))
                exact rt_r (r := some a35) rfl X hr (Or.inl ⟨_, rfl⟩) (ad, f) B (PO_of B) ⟨rfl, ⟨_, rfl⟩, rfl⟩ (by dsimp only [rm]; omega) (by dsimp only [rm]; omega) dX2_numberInSigns_92
              · refine lv_aload_n hx hb dX2_numberInSigns_76 rfl (lv_at hl 1 rfl) ?_
                refine lv_bipush (v := 45) hx hb dX2_numberInSigns_77 (by decide) ?_
                obtain ⟨e36a, e36b, e36c⟩ := g_no (q := (n + 1)) (m := 16) (by omega)
                refine k_r (k := (2)) (n := (20)) hA B (b_V (q := N) (rest := []) ((up_lt (by omega)).trans up_eq) X (c_S_appC l g (N + 1 + 1) (va_up (va_up ad N z1) (N + 1) v) (va_up (va_up f N (c_sb v 0 n)) (N + 1) (c_ba g 16 h)) N (N + 1) z1 v n 16 0 h (by omega) (by omega) (by omega) ((up_lt (by omega)).trans up_eq) up_eq ((up_lt (by omega)).trans up_eq) up_eq hF (by omega) (by omega) 45 (by decide) H.size) mw_J4_append_cf468 md_J4_append_cf468 rfl lk_X2_271 ⟨Nat.le_of_ble_eq_true rfl, Nat.le_of_ble_eq_true rfl⟩ hA hK hT B (by omega) ((up_lt (by omega)).trans up_eq) rfl rfl hl.1 rfl (Nat.le_of_ble_eq_true rfl) dX2_numberInSigns_79 (by dsimp only [rm]; omega)) (by dsimp only [rm]; omega) (by dsimp only [rm]; omega) (fun r ad' f' H locs hw B => ?_)
                obtain ⟨v36, h36, hF36, rfl, rfl, rfl⟩ := hw
                rw [bx_uu, sw_4 (by omega), e36a] at B
                have B : WB g (aw N ad sz) s.heap (N + 1 + 1) (va_up (va_up ad N z1) (N + 1) v36) (va_up (va_up f N (c_sb v36 0 (n + 1))) (N + 1) (c_ba g 16 h36)) H locs := B
                refine lv_pop hx hb dX2_numberInSigns_82 rfl ?_
                refine lv_aload_n hx hb dX2_numberInSigns_83 rfl (lv_at hl 1 rfl) ?_
                refine k_r (k := (2)) (n := (20)) hA B (b_V (q := N) (rest := []) ((up_lt (by omega)).trans up_eq) X (c_S_rev l g (N + 1 + 1) (va_up (va_up ad N z1) (N + 1) v36) (va_up (va_up f N (c_sb v36 0 (n + 1))) (N + 1) (c_ba g 16 h36)) N (N + 1) z1 v36 (n + 1) 16 0 h36 (by omega) (by omega) (by omega) ((up_lt (by omega)).trans up_eq) up_eq ((up_lt (by omega)).trans up_eq) up_eq hF36 (by omega) (by omega) H.size) mw_J4_reverse_43fcb md_J4_reverse_43fcb rfl lk_X2_275 ⟨Nat.le_of_ble_eq_true rfl, Nat.le_of_ble_eq_true rfl⟩ hA hK hT B (by omega) ((up_lt (by omega)).trans up_eq) rfl rfl hl.1 rfl (Nat.le_of_ble_eq_true rfl) dX2_numberInSigns_84 (by dsimp only [rm]; omega)) (by dsimp only [rm]; omega) (by dsimp only [rm]; omega) (fun r ad' f' H locs hw B => ?_)
                obtain ⟨h37, hF37, rfl, rfl, rfl⟩ := hw
                rw [bx_uu] at B
                have B : WB g (aw N ad sz) s.heap (N + 1 + 1) (va_up (va_up ad N z1) (N + 1) v36) (va_up (va_up f N (c_sb v36 0 (n + 1))) (N + 1) (c_ba g 16 h37)) H locs := B
                refine lv_pop hx hb dX2_numberInSigns_87 rfl ?_
                refine lv_aload_n hx hb dX2_numberInSigns_88 rfl (lv_at hl 1 rfl) ?_
                refine k_r (k := (4)) (n := (20 + (4 + (n + 1)))) hA B (b_V (q := N) (rest := []) ((up_lt (by omega)).trans up_eq) X (c_S_toS l g (N + 1 + 1) (va_up (va_up ad N z1) (N + 1) v36) (va_up (va_up f N (c_sb v36 0 (n + 1))) (N + 1) (c_ba g 16 h37)) N (N + 1) z1 v36 (n + 1) 16 0 h37 (by omega) (by omega) (by omega) ((up_lt (by omega)).trans up_eq) up_eq ((up_lt (by omega)).trans up_eq) up_eq hF37 (by omega) (by omega) H.size) mw_J4_toString_0e30d md_J4_toString_0e30d rfl lk_X2_279 ⟨Nat.le_of_ble_eq_true rfl, Nat.le_of_ble_eq_true rfl⟩ hA hK hT B (by omega) ((up_lt (by omega)).trans up_eq) rfl rfl hl.1 rfl (Nat.le_of_ble_eq_true rfl) dX2_numberInSigns_89 (by dsimp only [rm]; omega)) (by dsimp only [rm]; omega) (by dsimp only [rm]; omega) (fun r ad' f' H locs hw B => ?_)
                obtain ⟨a38, a38x, h38, hF38, rfl, rfl, rfl⟩ := hw
                have B : WB g (aw N ad sz) s.heap N ad f H locs := B.drop (by omega) (fun _ hk => ((up_lt (Nat.lt_succ_of_lt (Nat.lt_succ_of_lt (Nat.lt_succ_of_lt hk)))).trans ((up_lt (Nat.lt_succ_of_lt (Nat.lt_succ_of_lt hk))).trans ((up_lt (Nat.lt_succ_of_lt hk)).trans (up_lt hk))))) (fun _ hk => ((up_lt (Nat.lt_succ_of_lt (Nat.lt_succ_of_lt (Nat.lt_succ_of_lt hk)))).trans ((up_lt (Nat.lt_succ_of_lt (Nat.lt_succ_of_lt hk))).trans ((up_lt (Nat.lt_succ_of_lt hk)).trans (up_lt hk)))))
                exact rt_r (r := some a38) rfl X hr (Or.inl ⟨_, rfl⟩) (ad, f) B (PO_of B) ⟨rfl, ⟨_, rfl⟩, rfl⟩ (by dsimp only [rm]; omega) (by dsimp only [rm]; omega) dX2_numberInSigns_92
            · refine lv_aload_n hx hb dX2_numberInSigns_42 rfl (lv_at hl 1 rfl) ?_
              refine lv_ldc2 hx hb hown (hts _ (List.mem_cons_of_mem _ lk_X2_267)) dX2_numberInSigns_43 ?_
              refine lv_lload_n hx hb dX2_numberInSigns_46 rfl (lv_at hl 2 rfl) ?_
              refine lv_ldc2 hx hb hown (hts _ (List.mem_cons_of_mem _ lk_X2_269)) dX2_numberInSigns_47 ?_
              refine lv_lrem hx hb dX2_numberInSigns_50 (by decide) ?_
              refine lv_ladd hx hb dX2_numberInSigns_51 ?_
              refine lv_l2i (v := (48 + (xx - xx / 10 * 10)).toInt32) hx hb dX2_numberInSigns_52 rfl ?_
              refine lv_i2c (v := (((48 + (xx - xx / 10 * 10)).toInt32).toUInt32 % 65536).toInt32) hx hb dX2_numberInSigns_53 rfl ?_
              obtain ⟨e39a, e39b, e39c⟩ := g_no (q := (n + 1)) (m := 16) (by omega)
              refine k_r (k := (2)) (n := (20)) hA B (b_V (q := N) (rest := []) ((up_lt (by omega)).trans up_eq) X (c_S_appC l g (N + 1 + 1) (va_up (va_up ad N z1) (N + 1) v) (va_up (va_up f N (c_sb v 0 n)) (N + 1) (c_ba g 16 h)) N (N + 1) z1 v n 16 0 h (by omega) (by omega) (by omega) ((up_lt (by omega)).trans up_eq) up_eq ((up_lt (by omega)).trans up_eq) up_eq hF (by omega) (by omega) ((((48 + (xx - xx / 10 * 10)).toInt32).toUInt32 % 65536).toInt32) (dig_ok _) H.size) mw_J4_append_cf468 md_J4_append_cf468 rfl lk_X2_271 ⟨Nat.le_of_ble_eq_true rfl, Nat.le_of_ble_eq_true rfl⟩ hA hK hT B (by omega) ((up_lt (by omega)).trans up_eq) rfl rfl hl.1 rfl (Nat.le_of_ble_eq_true rfl) dX2_numberInSigns_54 (by dsimp only [rm]; omega)) (by dsimp only [rm]; omega) (by dsimp only [rm]; omega) (fun r ad' f' H locs hw B => ?_)
              obtain ⟨v39, h39, hF39, rfl, rfl, rfl⟩ := hw
              rw [bx_uu, sw_4 (by omega), e39a] at B
              have B : WB g (aw N ad sz) s.heap (N + 1 + 1) (va_up (va_up ad N z1) (N + 1) v39) (va_up (va_up f N (c_sb v39 0 (n + 1))) (N + 1) (c_ba g 16 h39)) H locs := B
              refine lv_pop hx hb dX2_numberInSigns_57 rfl ?_
              refine lv_lload_n hx hb dX2_numberInSigns_58 rfl (lv_at hl 2 rfl) ?_
              refine lv_ldc2 hx hb hown (hts _ (List.mem_cons_of_mem _ lk_X2_269)) dX2_numberInSigns_59 ?_
              refine lv_ldiv hx hb dX2_numberInSigns_62 (by decide) ?_
              refine lv_lstore_n (lv' := [(3, .long (xx / 10)), (0, .long b0), (2, .ref z1), (5, .int (nI n))]) hx hb dX2_numberInSigns_63 rfl hl (by decide) rfl (fun ls hl => ?_)
              refine lv_iinc (v := (nI n) + 1) (lv' := [(5, .int ((nI n) + 1)), (3, .long (xx / 10)), (0, .long b0), (2, .ref z1)]) hx hb dX2_numberInSigns_64 hl (k := 3) rfl rfl (by decide) rfl (fun ls hl => ?_)
              refine lv_goto (tgt := 24) hx hb dX2_numberInSigns_67 (by decide) ?_
              have hlt := dig_lt hn11 c23
              rw [nI_1] at hl
              exact ih1 (xx / 10) (n + 1) v39 h39 H locs (by omega) (by omega) hF39 B ls (lv_sub hl [2, 3, 1, 0] rfl)
    exact loop22 12 (-b0) 0 v2 (fun _ => 0) H locs (by decide) (by decide) sb_fit0 B ls (lv_sub hl [3, 2, 1, 0] rfl)
