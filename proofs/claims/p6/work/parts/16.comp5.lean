set_option maxHeartbeats 4000000 in
set_option maxRecDepth 100000 in
theorem c_X2_isSpanSound (l : Launch) (g : GG) (N : Nat) (ad : Nat → Nat) (x : Nat → va_E) (sp dy : Nat → TR) (la kn re : Int32) (hN : 23 ≤ N) (i1 : Nat) (hi1 : i1 < 14) : KI l yX2_isSpanSound cX2_isSpanSound 2 (some .boolean) (rm 4 0 0) g [.ref (ad 0), .ref (ad (4 + i1))] N ad (cf g ad x sp dy la kn re) N (fun r ad' f' => ad = ad' ∧ ∃ sp' dy' : Nat → TR, (∀ j, j < 12 → sp' j = sp j) ∧ (∀ j, j < 4 → dy' j = dy j) ∧ cf g ad x sp' dy' la kn re = f') := by
  intro sz
  refine mt_start (by decide) (Nat.le_of_ble_eq_true rfl) ?_
  intro p e s m args below meth c hsz X hr hnam hA hK hT H locs B ls hl
  obtain ⟨hx, hb, hml, hown, hts, hlocks⟩ := id X
  have hl : lv_has ls 2 [(0, .ref (ad 0)), (1, .ref (ad (4 + i1)))] := hl
  refine lv_aload_n hx hb dX2_isSpanSound_0 rfl (lv_at hl 0 rfl) ?_
  refine g_get (q := 0) (k := 6) X hK B rfl in_X2 (pl_c hN 0 (by decide)) cf_0 (by decide) lk_X2_25 rfl rfl dX2_isSpanSound_1 ?_
  refine lv_aload_n hx hb dX2_isSpanSound_4 rfl (lv_at hl 1 rfl) ?_
  refine g_getN (q := (4 + i1)) (k := 0) X hK hT B rfl in_X1 (pl_sp hN hi1) (cf_sp hi1) (by decide) lk_X2_55 rfl rfl dX2_isSpanSound_5 ?_
  refine lv_i2l (v := (sp i1).1.toInt64) hx hb dX2_isSpanSound_8 rfl ?_
  refine lv_aload_n hx hb dX2_isSpanSound_9 rfl (lv_at hl 1 rfl) ?_
  refine g_getN (q := (4 + i1)) (k := 1) X hK hT B rfl in_X1 (pl_sp hN hi1) (cf_sp hi1) (by decide) lk_X2_59 rfl rfl dX2_isSpanSound_10 ?_
  refine lv_i2l (v := (sp i1).2.1.toInt64) hx hb dX2_isSpanSound_13 rfl ?_
  refine lv_aload_n hx hb dX2_isSpanSound_14 rfl (lv_at hl 1 rfl) ?_
  refine g_getN (q := (4 + i1)) (k := 2) X hK hT B rfl in_X1 (pl_sp hN hi1) (cf_sp hi1) (by decide) lk_X2_62 rfl rfl dX2_isSpanSound_15 ?_
  refine lv_i2l (v := (sp i1).2.2.toInt64) hx hb dX2_isSpanSound_18 rfl ?_
  refine k_i (k := 0) (n := 0) hA B (u_VN (rest := []) X (c_X1_put l g N ad x sp dy la kn re hN 12 (by decide) ((sp i1).1.toInt64) ((sp i1).2.1.toInt64) ((sp i1).2.2.toInt64) H.size) mw_X1_put md_X1_put rfl lk_X2_41 ⟨Nat.le_of_ble_eq_true rfl, Nat.le_of_ble_eq_true rfl⟩ hA hK hT B (pl_sp hN (by decide)) (cf_sp (by decide)) rfl rfl hl.1 rfl (Nat.le_of_ble_eq_true rfl) dX2_isSpanSound_19 ⟨Nat.le_of_ble_eq_true rfl, Nat.le_of_ble_eq_true rfl⟩) (Nat.le_of_ble_eq_true rfl) (Nat.le_of_ble_eq_true rfl) (fun r ad' f' H locs hw B => ?_)
  obtain ⟨rfl, rfl, rfl⟩ := hw
  have k1 : ∀ j, j < 12 → (v_X1_put sp 12 ((sp i1).1.toInt64) ((sp i1).2.1.toInt64) ((sp i1).2.2.toInt64)).2 j = sp j := fun j hj => kp_X1_put_sp (by omega)
  generalize (v_X1_put sp 12 ((sp i1).1.toInt64) ((sp i1).2.1.toInt64) ((sp i1).2.2.toInt64)) = t1 at k1 B ⊢
  refine lv_if_eq (tgt := 36) hx hb dX2_isSpanSound_22 (by decide) (fun c2 => ?_) (fun c2 => ?_)
  · refine lv_iconst (v := 0) hx hb dX2_isSpanSound_36 (by decide) ?_
    exact rt_i X hr (ad, (cf g ad x t1.2 dy la kn re)) B (PO_of B) ⟨rfl, _, _, k1, fun _ _ => rfl, rfl⟩ rfl (Nat.le_of_ble_eq_true rfl) (Nat.le_of_ble_eq_true rfl) dX2_isSpanSound_37
  · refine lv_aload_n hx hb dX2_isSpanSound_25 rfl (lv_at hl 0 rfl) ?_
    refine g_get (q := 0) (k := 6) X hK B rfl in_X2 (pl_c hN 0 (by decide)) cf_0 (by decide) lk_X2_25 rfl rfl dX2_isSpanSound_26 ?_
    refine lv_aload_n hx hb dX2_isSpanSound_29 rfl (lv_at hl 1 rfl) ?_
    refine k_i (k := 0) (n := 0) hA B (u_VN (rest := []) X (c_X1_isSameAs l g N ad x t1.2 dy la kn re hN 12 (by decide) i1 hi1 H.size) mw_X1_isSameAs md_X1_isSameAs rfl lk_X2_123 ⟨Nat.le_of_ble_eq_true rfl, Nat.le_of_ble_eq_true rfl⟩ hA hK hT B (pl_sp hN (by decide)) (cf_sp (by decide)) rfl rfl hl.1 rfl (Nat.le_of_ble_eq_true rfl) dX2_isSpanSound_30 ⟨Nat.le_of_ble_eq_true rfl, Nat.le_of_ble_eq_true rfl⟩) (Nat.le_of_ble_eq_true rfl) (Nat.le_of_ble_eq_true rfl) (fun r ad' f' H locs hw B => ?_)
    obtain ⟨rfl, rfl, rfl⟩ := hw
    generalize (v_X1_isSameAs t1.2 12 i1) = t3
    refine lv_if_ne (tgt := 38) hx hb dX2_isSpanSound_33 (by decide) (fun c4 => ?_) (fun c4 => ?_)
    · refine lv_aload_n hx hb dX2_isSpanSound_38 rfl (lv_at hl 0 rfl) ?_
      refine g_get (q := 0) (k := 6) X hK B rfl in_X2 (pl_c hN 0 (by decide)) cf_0 (by decide) lk_X2_25 rfl rfl dX2_isSpanSound_39 ?_
      refine lv_aload_n hx hb dX2_isSpanSound_42 rfl (lv_at hl 1 rfl) ?_
      refine k_i (k := 0) (n := 0) hA B (u_VN (rest := []) X (c_X1_putOpposite l g N ad x t1.2 dy la kn re hN 12 (by decide) i1 hi1 H.size) mw_X1_putOpposite md_X1_putOpposite rfl lk_X2_84 ⟨Nat.le_of_ble_eq_true rfl, Nat.le_of_ble_eq_true rfl⟩ hA hK hT B (pl_sp hN (by decide)) (cf_sp (by decide)) rfl rfl hl.1 rfl (Nat.le_of_ble_eq_true rfl) dX2_isSpanSound_43 ⟨Nat.le_of_ble_eq_true rfl, Nat.le_of_ble_eq_true rfl⟩) (Nat.le_of_ble_eq_true rfl) (Nat.le_of_ble_eq_true rfl) (fun r ad' f' H locs hw B => ?_)
      obtain ⟨rfl, rfl, rfl⟩ := hw
      have k5 : ∀ j, j < 12 → (v_X1_putOpposite t1.2 12 i1).2 j = sp j := fun j hj => (kp_X1_putOpposite_sp (by omega)).trans (k1 j hj)
      generalize (v_X1_putOpposite t1.2 12 i1) = t5 at k5 B ⊢
      refine lv_if_eq (tgt := 76) hx hb dX2_isSpanSound_46 (by decide) (fun c6 => ?_) (fun c6 => ?_)
      · refine lv_aload_n hx hb dX2_isSpanSound_76 rfl (lv_at hl 0 rfl) ?_
        refine g_get (q := 0) (k := 6) X hK B rfl in_X2 (pl_c hN 0 (by decide)) cf_0 (by decide) lk_X2_25 rfl rfl dX2_isSpanSound_77 ?_
        refine lv_aload_n hx hb dX2_isSpanSound_80 rfl (lv_at hl 1 rfl) ?_
        refine k_i (k := 0) (n := 0) hA B (u_VN (rest := []) X (c_X1_putTidy l g N ad x t5.2 dy la kn re hN 12 (by decide) i1 hi1 H.size) mw_X1_putTidy md_X1_putTidy rfl lk_X2_88 ⟨Nat.le_of_ble_eq_true rfl, Nat.le_of_ble_eq_true rfl⟩ hA hK hT B (pl_sp hN (by decide)) (cf_sp (by decide)) rfl rfl hl.1 rfl (Nat.le_of_ble_eq_true rfl) dX2_isSpanSound_81 ⟨Nat.le_of_ble_eq_true rfl, Nat.le_of_ble_eq_true rfl⟩) (Nat.le_of_ble_eq_true rfl) (Nat.le_of_ble_eq_true rfl) (fun r ad' f' H locs hw B => ?_)
        obtain ⟨rfl, rfl, rfl⟩ := hw
        have k7 : ∀ j, j < 12 → (v_X1_putTidy t5.2 12 i1).2 j = sp j := fun j hj => (kp_X1_putTidy_sp (by omega)).trans (k5 j hj)
        generalize (v_X1_putTidy t5.2 12 i1) = t7 at k7 B ⊢
        refine lv_if_ne (tgt := 89) hx hb dX2_isSpanSound_84 (by decide) (fun c8 => ?_) (fun c8 => ?_)
        · refine lv_aload_n hx hb dX2_isSpanSound_89 rfl (lv_at hl 0 rfl) ?_
          refine g_get (q := 0) (k := 6) X hK B rfl in_X2 (pl_c hN 0 (by decide)) cf_0 (by decide) lk_X2_25 rfl rfl dX2_isSpanSound_90 ?_
          refine lv_aload_n hx hb dX2_isSpanSound_93 rfl (lv_at hl 1 rfl) ?_
          refine k_i (k := 0) (n := 0) hA B (u_VN (rest := []) X (c_X1_isAlikeTo l g N ad x t7.2 dy la kn re hN 12 (by decide) i1 hi1 H.size) mw_X1_isAlikeTo md_X1_isAlikeTo rfl lk_X2_126 ⟨Nat.le_of_ble_eq_true rfl, Nat.le_of_ble_eq_true rfl⟩ hA hK hT B (pl_sp hN (by decide)) (cf_sp (by decide)) rfl rfl hl.1 rfl (Nat.le_of_ble_eq_true rfl) dX2_isSpanSound_94 ⟨Nat.le_of_ble_eq_true rfl, Nat.le_of_ble_eq_true rfl⟩) (Nat.le_of_ble_eq_true rfl) (Nat.le_of_ble_eq_true rfl) (fun r ad' f' H locs hw B => ?_)
          obtain ⟨rfl, rfl, rfl⟩ := hw
          generalize (v_X1_isAlikeTo t7.2 12 i1) = t9
          refine lv_if_eq (tgt := 132) hx hb dX2_isSpanSound_97 (by decide) (fun c10 => ?_) (fun c10 => ?_)
          · refine lv_iconst (v := 0) hx hb dX2_isSpanSound_132 (by decide) ?_
            exact rt_i X hr (ad, (cf g ad x t7.2 dy la kn re)) B (PO_of B) ⟨rfl, _, _, k7, fun _ _ => rfl, rfl⟩ rfl (Nat.le_of_ble_eq_true rfl) (Nat.le_of_ble_eq_true rfl) dX2_isSpanSound_133
          · refine lv_aload_n hx hb dX2_isSpanSound_100 rfl (lv_at hl 0 rfl) ?_
            refine g_get (q := 0) (k := 7) X hK B rfl in_X2 (pl_c hN 0 (by decide)) cf_0 (by decide) lk_X2_29 rfl rfl dX2_isSpanSound_101 ?_
            refine lv_aload_n hx hb dX2_isSpanSound_104 rfl (lv_at hl 0 rfl) ?_
            refine g_get (q := 0) (k := 6) X hK B rfl in_X2 (pl_c hN 0 (by decide)) cf_0 (by decide) lk_X2_25 rfl rfl dX2_isSpanSound_105 ?_
            refine k_i (k := 0) (n := 0) hA B (u_VN (rest := []) X (c_X1_putTidy l g N ad x t7.2 dy la kn re hN 13 (by decide) 12 (by decide) H.size) mw_X1_putTidy md_X1_putTidy rfl lk_X2_88 ⟨Nat.le_of_ble_eq_true rfl, Nat.le_of_ble_eq_true rfl⟩ hA hK hT B (pl_sp hN (by decide)) (cf_sp (by decide)) rfl rfl hl.1 rfl (Nat.le_of_ble_eq_true rfl) dX2_isSpanSound_108 ⟨Nat.le_of_ble_eq_true rfl, Nat.le_of_ble_eq_true rfl⟩) (Nat.le_of_ble_eq_true rfl) (Nat.le_of_ble_eq_true rfl) (fun r ad' f' H locs hw B => ?_)
            obtain ⟨rfl, rfl, rfl⟩ := hw
            have k11 : ∀ j, j < 12 → (v_X1_putTidy t7.2 13 12).2 j = sp j := fun j hj => (kp_X1_putTidy_sp (by omega)).trans (k7 j hj)
            generalize (v_X1_putTidy t7.2 13 12) = t11 at k11 B ⊢
            refine lv_if_eq (tgt := 132) hx hb dX2_isSpanSound_111 (by decide) (fun c12 => ?_) (fun c12 => ?_)
            · refine lv_iconst (v := 0) hx hb dX2_isSpanSound_132 (by decide) ?_
              exact rt_i X hr (ad, (cf g ad x t11.2 dy la kn re)) B (PO_of B) ⟨rfl, _, _, k11, fun _ _ => rfl, rfl⟩ rfl (Nat.le_of_ble_eq_true rfl) (Nat.le_of_ble_eq_true rfl) dX2_isSpanSound_133
            · refine lv_aload_n hx hb dX2_isSpanSound_114 rfl (lv_at hl 0 rfl) ?_
              refine g_get (q := 0) (k := 7) X hK B rfl in_X2 (pl_c hN 0 (by decide)) cf_0 (by decide) lk_X2_29 rfl rfl dX2_isSpanSound_115 ?_
              refine lv_aload_n hx hb dX2_isSpanSound_118 rfl (lv_at hl 0 rfl) ?_
              refine g_get (q := 0) (k := 6) X hK B rfl in_X2 (pl_c hN 0 (by decide)) cf_0 (by decide) lk_X2_25 rfl rfl dX2_isSpanSound_119 ?_
              refine k_i (k := 0) (n := 0) hA B (u_VN (rest := []) X (c_X1_isSameAs l g N ad x t11.2 dy la kn re hN 13 (by decide) 12 (by decide) H.size) mw_X1_isSameAs md_X1_isSameAs rfl lk_X2_123 ⟨Nat.le_of_ble_eq_true rfl, Nat.le_of_ble_eq_true rfl⟩ hA hK hT B (pl_sp hN (by decide)) (cf_sp (by decide)) rfl rfl hl.1 rfl (Nat.le_of_ble_eq_true rfl) dX2_isSpanSound_122 ⟨Nat.le_of_ble_eq_true rfl, Nat.le_of_ble_eq_true rfl⟩) (Nat.le_of_ble_eq_true rfl) (Nat.le_of_ble_eq_true rfl) (fun r ad' f' H locs hw B => ?_)
              obtain ⟨rfl, rfl, rfl⟩ := hw
              generalize (v_X1_isSameAs t11.2 13 12) = t13
              refine lv_if_eq (tgt := 132) hx hb dX2_isSpanSound_125 (by decide) (fun c14 => ?_) (fun c14 => ?_)
              · refine lv_iconst (v := 0) hx hb dX2_isSpanSound_132 (by decide) ?_
                exact rt_i X hr (ad, (cf g ad x t11.2 dy la kn re)) B (PO_of B) ⟨rfl, _, _, k11, fun _ _ => rfl, rfl⟩ rfl (Nat.le_of_ble_eq_true rfl) (Nat.le_of_ble_eq_true rfl) dX2_isSpanSound_133
              · refine lv_iconst (v := 1) hx hb dX2_isSpanSound_128 (by decide) ?_
                refine lv_goto (tgt := 133) hx hb dX2_isSpanSound_129 (by decide) ?_
                exact rt_i X hr (ad, (cf g ad x t11.2 dy la kn re)) B (PO_of B) ⟨rfl, _, _, k11, fun _ _ => rfl, rfl⟩ rfl (Nat.le_of_ble_eq_true rfl) (Nat.le_of_ble_eq_true rfl) dX2_isSpanSound_133
        · refine lv_iconst (v := 1) hx hb dX2_isSpanSound_87 (by decide) ?_
          exact rt_i X hr (ad, (cf g ad x t7.2 dy la kn re)) B (PO_of B) ⟨rfl, _, _, k7, fun _ _ => rfl, rfl⟩ rfl (Nat.le_of_ble_eq_true rfl) (Nat.le_of_ble_eq_true rfl) dX2_isSpanSound_88
      · refine lv_aload_n hx hb dX2_isSpanSound_49 rfl (lv_at hl 0 rfl) ?_
        refine g_get (q := 0) (k := 7) X hK B rfl in_X2 (pl_c hN 0 (by decide)) cf_0 (by decide) lk_X2_29 rfl rfl dX2_isSpanSound_50 ?_
        refine lv_aload_n hx hb dX2_isSpanSound_53 rfl (lv_at hl 0 rfl) ?_
        refine g_get (q := 0) (k := 6) X hK B rfl in_X2 (pl_c hN 0 (by decide)) cf_0 (by decide) lk_X2_25 rfl rfl dX2_isSpanSound_54 ?_
        refine k_i (k := 0) (n := 0) hA B (u_VN (rest := []) X (c_X1_putOpposite l g N ad x t5.2 dy la kn re hN 13 (by decide) 12 (by decide) H.size) mw_X1_putOpposite md_X1_putOpposite rfl lk_X2_84 ⟨Nat.le_of_ble_eq_true rfl, Nat.le_of_ble_eq_true rfl⟩ hA hK hT B (pl_sp hN (by decide)) (cf_sp (by decide)) rfl rfl hl.1 rfl (Nat.le_of_ble_eq_true rfl) dX2_isSpanSound_57 ⟨Nat.le_of_ble_eq_true rfl, Nat.le_of_ble_eq_true rfl⟩) (Nat.le_of_ble_eq_true rfl) (Nat.le_of_ble_eq_true rfl) (fun r ad' f' H locs hw B => ?_)
        obtain ⟨rfl, rfl, rfl⟩ := hw
        have k15 : ∀ j, j < 12 → (v_X1_putOpposite t5.2 13 12).2 j = sp j := fun j hj => (kp_X1_putOpposite_sp (by omega)).trans (k5 j hj)
        generalize (v_X1_putOpposite t5.2 13 12) = t15 at k15 B ⊢
        refine lv_if_eq (tgt := 74) hx hb dX2_isSpanSound_60 (by decide) (fun c16 => ?_) (fun c16 => ?_)
        · refine lv_iconst (v := 0) hx hb dX2_isSpanSound_74 (by decide) ?_
          exact rt_i X hr (ad, (cf g ad x t15.2 dy la kn re)) B (PO_of B) ⟨rfl, _, _, k15, fun _ _ => rfl, rfl⟩ rfl (Nat.le_of_ble_eq_true rfl) (Nat.le_of_ble_eq_true rfl) dX2_isSpanSound_75
        · refine lv_aload_n hx hb dX2_isSpanSound_63 rfl (lv_at hl 0 rfl) ?_
          refine g_get (q := 0) (k := 7) X hK B rfl in_X2 (pl_c hN 0 (by decide)) cf_0 (by decide) lk_X2_29 rfl rfl dX2_isSpanSound_64 ?_
          refine lv_aload_n hx hb dX2_isSpanSound_67 rfl (lv_at hl 1 rfl) ?_
          refine k_i (k := 0) (n := 0) hA B (u_VN (rest := []) X (c_X1_isSameAs l g N ad x t15.2 dy la kn re hN 13 (by decide) i1 hi1 H.size) mw_X1_isSameAs md_X1_isSameAs rfl lk_X2_123 ⟨Nat.le_of_ble_eq_true rfl, Nat.le_of_ble_eq_true rfl⟩ hA hK hT B (pl_sp hN (by decide)) (cf_sp (by decide)) rfl rfl hl.1 rfl (Nat.le_of_ble_eq_true rfl) dX2_isSpanSound_68 ⟨Nat.le_of_ble_eq_true rfl, Nat.le_of_ble_eq_true rfl⟩) (Nat.le_of_ble_eq_true rfl) (Nat.le_of_ble_eq_true rfl) (fun r ad' f' H locs hw B => ?_)
          obtain ⟨rfl, rfl, rfl⟩ := hw
          generalize (v_X1_isSameAs t15.2 13 i1) = t17
          refine lv_if_ne (tgt := 76) hx hb dX2_isSpanSound_71 (by decide) (fun c18 => ?_) (fun c18 => ?_)
          · refine lv_aload_n hx hb dX2_isSpanSound_76 rfl (lv_at hl 0 rfl) ?_
            refine g_get (q := 0) (k := 6) X hK B rfl in_X2 (pl_c hN 0 (by decide)) cf_0 (by decide) lk_X2_25 rfl rfl dX2_isSpanSound_77 ?_
            refine lv_aload_n hx hb dX2_isSpanSound_80 rfl (lv_at hl 1 rfl) ?_
            refine k_i (k := 0) (n := 0) hA B (u_VN (rest := []) X (c_X1_putTidy l g N ad x t15.2 dy la kn re hN 12 (by decide) i1 hi1 H.size) mw_X1_putTidy md_X1_putTidy rfl lk_X2_88 ⟨Nat.le_of_ble_eq_true rfl, Nat.le_of_ble_eq_true rfl⟩ hA hK hT B (pl_sp hN (by decide)) (cf_sp (by decide)) rfl rfl hl.1 rfl (Nat.le_of_ble_eq_true rfl) dX2_isSpanSound_81 ⟨Nat.le_of_ble_eq_true rfl, Nat.le_of_ble_eq_true rfl⟩) (Nat.le_of_ble_eq_true rfl) (Nat.le_of_ble_eq_true rfl) (fun r ad' f' H locs hw B => ?_)
            obtain ⟨rfl, rfl, rfl⟩ := hw
            have k19 : ∀ j, j < 12 → (v_X1_putTidy t15.2 12 i1).2 j = sp j := fun j hj => (kp_X1_putTidy_sp (by omega)).trans (k15 j hj)
            generalize (v_X1_putTidy t15.2 12 i1) = t19 at k19 B ⊢
            refine lv_if_ne (tgt := 89) hx hb dX2_isSpanSound_84 (by decide) (fun c20 => ?_) (fun c20 => ?_)
            · refine lv_aload_n hx hb dX2_isSpanSound_89 rfl (lv_at hl 0 rfl) ?_
              refine g_get (q := 0) (k := 6) X hK B rfl in_X2 (pl_c hN 0 (by decide)) cf_0 (by decide) lk_X2_25 rfl rfl dX2_isSpanSound_90 ?_
              refine lv_aload_n hx hb dX2_isSpanSound_93 rfl (lv_at hl 1 rfl) ?_
              refine k_i (k := 0) (n := 0) hA B (u_VN (rest := []) X (c_X1_isAlikeTo l g N ad x t19.2 dy la kn re hN 12 (by decide) i1 hi1 H.size) mw_X1_isAlikeTo md_X1_isAlikeTo rfl lk_X2_126 ⟨Nat.le_of_ble_eq_true rfl, Nat.le_of_ble_eq_true rfl⟩ hA hK hT B (pl_sp hN (by decide)) (cf_sp (by decide)) rfl rfl hl.1 rfl (Nat.le_of_ble_eq_true rfl) dX2_isSpanSound_94 ⟨Nat.le_of_ble_eq_true rfl, Nat.le_of_ble_eq_true rfl⟩) (Nat.le_of_ble_eq_true rfl) (Nat.le_of_ble_eq_true rfl) (fun r ad' f' H locs hw B => ?_)
              obtain ⟨rfl, rfl, rfl⟩ := hw
              generalize (v_X1_isAlikeTo t19.2 12 i1) = t21
              refine lv_if_eq (tgt := 132) hx hb dX2_isSpanSound_97 (by decide) (fun c22 => ?_) (fun c22 => ?_)
              · refine lv_iconst (v := 0) hx hb dX2_isSpanSound_132 (by decide) ?_
                exact rt_i X hr (ad, (cf g ad x t19.2 dy la kn re)) B (PO_of B) ⟨rfl, _, _, k19, fun _ _ => rfl, rfl⟩ rfl (Nat.le_of_ble_eq_true rfl) (Nat.le_of_ble_eq_true rfl) dX2_isSpanSound_133
              · refine lv_aload_n hx hb dX2_isSpanSound_100 rfl (lv_at hl 0 rfl) ?_
                refine g_get (q := 0) (k := 7) X hK B rfl in_X2 (pl_c hN 0 (by decide)) cf_0 (by decide) lk_X2_29 rfl rfl dX2_isSpanSound_101 ?_
                refine lv_aload_n hx hb dX2_isSpanSound_104 rfl (lv_at hl 0 rfl) ?_
                refine g_get (q := 0) (k := 6) X hK B rfl in_X2 (pl_c hN 0 (by decide)) cf_0 (by decide) lk_X2_25 rfl rfl dX2_isSpanSound_105 ?_
                refine k_i (k := 0) (n := 0) hA B (u_VN (rest := []) X (c_X1_putTidy l g N ad x t19.2 dy la kn re hN 13 (by decide) 12 (by decide) H.size) mw_X1_putTidy md_X1_putTidy rfl lk_X2_88 ⟨Nat.le_of_ble_eq_true rfl, Nat.le_of_ble_eq_true rfl⟩ hA hK hT B (pl_sp hN (by decide)) (cf_sp (by decide)) rfl rfl hl.1 rfl (Nat.le_of_ble_eq_true rfl) dX2_isSpanSound_108 ⟨Nat.le_of_ble_eq_true rfl, Nat.le_of_ble_eq_true rfl⟩) (Nat.le_of_ble_eq_true rfl) (Nat.le_of_ble_eq_true rfl) (fun r ad' f' H locs hw B => ?_)
                obtain ⟨rfl, rfl, rfl⟩ := hw
                have k23 : ∀ j, j < 12 → (v_X1_putTidy t19.2 13 12).2 j = sp j := fun j hj => (kp_X1_putTidy_sp (by omega)).trans (k19 j hj)
                generalize (v_X1_putTidy t19.2 13 12) = t23 at k23 B ⊢
                refine lv_if_eq (tgt := 132) hx hb dX2_isSpanSound_111 (by decide) (fun c24 => ?_) (fun c24 => ?_)
                · refine lv_iconst (v := 0) hx hb dX2_isSpanSound_132 (by decide) ?_
                  exact rt_i X hr (ad, (cf g ad x t23.2 dy la kn re)) B (PO_of B) ⟨rfl, _, _, k23, fun _ _ => rfl, rfl⟩ rfl (Nat.le_of_ble_eq_true rfl) (Nat.le_of_ble_eq_true rfl) dX2_isSpanSound_133
                · refine lv_aload_n hx hb dX2_isSpanSound_114 rfl (lv_at hl 0 rfl) ?_
                  refine g_get (q := 0) (k := 7) X hK B rfl in_X2 (pl_c hN 0 (by decide)) cf_0 (by decide) lk_X2_29 rfl rfl dX2_isSpanSound_115 ?_
                  refine lv_aload_n hx hb dX2_isSpanSound_118 rfl (lv_at hl 0 rfl) ?_
                  refine g_get (q := 0) (k := 6) X hK B rfl in_X2 (pl_c hN 0 (by decide)) cf_0 (by decide) lk_X2_25 rfl rfl dX2_isSpanSound_119 ?_
                  refine k_i (k := 0) (n := 0) hA B (u_VN (rest := []) X (c_X1_isSameAs l g N ad x t23.2 dy la kn re hN 13 (by decide) 12 (by decide) H.size) mw_X1_isSameAs md_X1_isSameAs rfl lk_X2_123 ⟨Nat.le_of_ble_eq_true rfl, Nat.le_of_ble_eq_true rfl⟩ hA hK hT B (pl_sp hN (by decide)) (cf_sp (by decide)) rfl rfl hl.1 rfl (Nat.le_of_ble_eq_true rfl) dX2_isSpanSound_122 ⟨Nat.le_of_ble_eq_true rfl, Nat.le_of_ble_eq_true rfl⟩) (Nat.le_of_ble_eq_true rfl) (Nat.le_of_ble_eq_true rfl) (fun r ad' f' H locs hw B => ?_)
                  obtain ⟨rfl, rfl, rfl⟩ := hw
                  generalize (v_X1_isSameAs t23.2 13 12) = t25
                  refine lv_if_eq (tgt := 132) hx hb dX2_isSpanSound_125 (by decide) (fun c26 => ?_) (fun c26 => ?_)
                  · refine lv_iconst (v := 0) hx hb dX2_isSpanSound_132 (by decide) ?_
                    exact rt_i X hr (ad, (cf g ad x t23.2 dy la kn re)) B (PO_of B) ⟨rfl, _, _, k23, fun _ _ => rfl, rfl⟩ rfl (Nat.le_of_ble_eq_true rfl) (Nat.le_of_ble_eq_true rfl) dX2_isSpanSound_133
                  · refine lv_iconst (v := 1) hx hb dX2_isSpanSound_128 (by decide) ?_
                    refine lv_goto (tgt := 133) hx hb dX2_isSpanSound_129 (by decide) ?_
                    exact rt_i X hr (ad, (cf g ad x t23.2 dy la kn re)) B (PO_of B) ⟨rfl, _, _, k23, fun _ _ => rfl, rfl⟩ rfl (Nat.le_of_ble_eq_true rfl) (Nat.le_of_ble_eq_true rfl) dX2_isSpanSound_133
            · refine lv_iconst (v := 1) hx hb dX2_isSpanSound_87 (by decide) ?_
              exact rt_i X hr (ad, (cf g ad x t19.2 dy la kn re)) B (PO_of B) ⟨rfl, _, _, k19, fun _ _ => rfl, rfl⟩ rfl (Nat.le_of_ble_eq_true rfl) (Nat.le_of_ble_eq_true rfl) dX2_isSpanSound_88
          · refine lv_iconst (v := 0) hx hb dX2_isSpanSound_74 (by decide) ?_
            exact rt_i X hr (ad, (cf g ad x t15.2 dy la kn re)) B (PO_of B) ⟨rfl, _, _, k15, fun _ _ => rfl, rfl⟩ rfl (Nat.le_of_ble_eq_true rfl) (Nat.le_of_ble_eq_true rfl) dX2_isSpanSound_75
    · refine lv_iconst (v := 0) hx hb dX2_isSpanSound_36 (by decide) ?_
      exact rt_i X hr (ad, (cf g ad x t1.2 dy la kn re)) B (PO_of B) ⟨rfl, _, _, k1, fun _ _ => rfl, rfl⟩ rfl (Nat.le_of_ble_eq_true rfl) (Nat.le_of_ble_eq_true rfl) dX2_isSpanSound_37
set_option maxHeartbeats 4000000 in
set_option maxRecDepth 100000 in
theorem c_X2_isSumSound (l : Launch) (g : GG) (N : Nat) (ad : Nat → Nat) (x : Nat → va_E) (sp dy : Nat → TR) (la kn re : Int32) (hN : 23 ≤ N) (i1 : Nat) (hi1 : i1 < 14) (i2 : Nat) (hi2 : i2 < 14) : KI l yX2_isSumSound cX2_isSumSound 4 (some .boolean) (rm 3 0 0) g [.ref (ad 0), .ref (ad (4 + i1)), .ref (ad (4 + i2))] N ad (cf g ad x sp dy la kn re) N (fun r ad' f' => ad = ad' ∧ ∃ sp' dy' : Nat → TR, (∀ j, j < 12 → sp' j = sp j) ∧ (∀ j, j < 4 → dy' j = dy j) ∧ cf g ad x sp' dy' la kn re = f') := by
  intro sz
  refine mt_start (by decide) (Nat.le_of_ble_eq_true rfl) ?_
  intro p e s m args below meth c hsz X hr hnam hA hK hT H locs B ls hl
  obtain ⟨hx, hb, hml, hown, hts, hlocks⟩ := id X
  have hl : lv_has ls 4 [(0, .ref (ad 0)), (1, .ref (ad (4 + i1))), (2, .ref (ad (4 + i2)))] := hl
  refine lv_aload_n hx hb dX2_isSumSound_0 rfl (lv_at hl 0 rfl) ?_
  refine g_get (q := 0) (k := 6) X hK B rfl in_X2 (pl_c hN 0 (by decide)) cf_0 (by decide) lk_X2_25 rfl rfl dX2_isSumSound_1 ?_
  refine lv_aload_n hx hb dX2_isSumSound_4 rfl (lv_at hl 1 rfl) ?_
  refine lv_aload_n hx hb dX2_isSumSound_5 rfl (lv_at hl 2 rfl) ?_
  refine k_i (k := 0) (n := 0) hA B (u_VN (rest := []) X (c_X1_putSum l g N ad x sp dy la kn re hN 12 (by decide) i1 hi1 i2 hi2 H.size) mw_X1_putSum md_X1_putSum rfl lk_X2_73 ⟨Nat.le_of_ble_eq_true rfl, Nat.le_of_ble_eq_true rfl⟩ hA hK hT B (pl_sp hN (by decide)) (cf_sp (by decide)) rfl rfl hl.1 rfl (Nat.le_of_ble_eq_true rfl) dX2_isSumSound_6 ⟨Nat.le_of_ble_eq_true rfl, Nat.le_of_ble_eq_true rfl⟩) (Nat.le_of_ble_eq_true rfl) (Nat.le_of_ble_eq_true rfl) (fun r ad' f' H locs hw B => ?_)
  obtain ⟨rfl, rfl, rfl⟩ := hw
  have k1 : ∀ j, j < 12 → (v_X1_putSum sp 12 i1 i2).2 j = sp j := fun j hj => kp_X1_putSum_sp (by omega)
  generalize (v_X1_putSum sp 12 i1 i2) = t1 at k1 B ⊢
  refine lv_istore_n (lv' := [(3, .int t1.1), (0, .ref (ad 0)), (1, .ref (ad (4 + i1))), (2, .ref (ad (4 + i2)))]) hx hb dX2_isSumSound_9 rfl hl (by decide) rfl (fun ls hl => ?_)
  refine lv_iload_n hx hb dX2_isSumSound_10 rfl (lv_at hl 0 rfl) ?_
  refine lv_aload_n hx hb dX2_isSumSound_11 rfl (lv_at hl 1 rfl) ?_
  refine g_get (q := 0) (k := 7) X hK B rfl in_X2 (pl_c hN 0 (by decide)) cf_0 (by decide) lk_X2_29 rfl rfl dX2_isSumSound_12 ?_
  refine lv_aload_n hx hb dX2_isSumSound_15 rfl (lv_at hl 3 rfl) ?_
  refine lv_aload_n hx hb dX2_isSumSound_16 rfl (lv_at hl 2 rfl) ?_
  refine k_i (k := 0) (n := 0) hA B (u_VN (rest := [.int t1.1]) X (c_X1_putSum l g N ad x t1.2 dy la kn re hN 13 (by decide) i2 hi2 i1 hi1 H.size) mw_X1_putSum md_X1_putSum rfl lk_X2_73 ⟨Nat.le_of_ble_eq_true rfl, Nat.le_of_ble_eq_true rfl⟩ hA hK hT B (pl_sp hN (by decide)) (cf_sp (by decide)) rfl rfl hl.1 rfl (Nat.le_of_ble_eq_true rfl) dX2_isSumSound_17 ⟨Nat.le_of_ble_eq_true rfl, Nat.le_of_ble_eq_true rfl⟩) (Nat.le_of_ble_eq_true rfl) (Nat.le_of_ble_eq_true rfl) (fun r ad' f' H locs hw B => ?_)
  obtain ⟨rfl, rfl, rfl⟩ := hw
  have k2 : ∀ j, j < 12 → (v_X1_putSum t1.2 13 i2 i1).2 j = sp j := fun j hj => (kp_X1_putSum_sp (by omega)).trans (k1 j hj)
  generalize (v_X1_putSum t1.2 13 i2 i1) = t2 at k2 B ⊢
  refine lv_icmp_eq (tgt := 25) hx hb dX2_isSumSound_20 (by decide) (fun c3 => ?_) (fun c3 => ?_)
  · refine lv_iload_n hx hb dX2_isSumSound_25 rfl (lv_at hl 0 rfl) ?_
    refine lv_if_ne (tgt := 31) hx hb dX2_isSumSound_26 (by decide) (fun c4 => ?_) (fun c4 => ?_)
    · refine lv_aload_n hx hb dX2_isSumSound_31 rfl (lv_at hl 1 rfl) ?_
      refine g_get (q := 0) (k := 6) X hK B rfl in_X2 (pl_c hN 0 (by decide)) cf_0 (by decide) lk_X2_25 rfl rfl dX2_isSumSound_32 ?_
      refine lv_aload_n hx hb dX2_isSumSound_35 rfl (lv_at hl 1 rfl) ?_
      refine g_get (q := 0) (k := 7) X hK B rfl in_X2 (pl_c hN 0 (by decide)) cf_0 (by decide) lk_X2_29 rfl rfl dX2_isSumSound_36 ?_
      refine k_i (k := 0) (n := 0) hA B (u_VN (rest := []) X (c_X1_isSameAs l g N ad x t2.2 dy la kn re hN 12 (by decide) 13 (by decide) H.size) mw_X1_isSameAs md_X1_isSameAs rfl lk_X2_123 ⟨Nat.le_of_ble_eq_true rfl, Nat.le_of_ble_eq_true rfl⟩ hA hK hT B (pl_sp hN (by decide)) (cf_sp (by decide)) rfl rfl hl.1 rfl (Nat.le_of_ble_eq_true rfl) dX2_isSumSound_39 ⟨Nat.le_of_ble_eq_true rfl, Nat.le_of_ble_eq_true rfl⟩) (Nat.le_of_ble_eq_true rfl) (Nat.le_of_ble_eq_true rfl) (fun r ad' f' H locs hw B => ?_)
      obtain ⟨rfl, rfl, rfl⟩ := hw
      generalize (v_X1_isSameAs t2.2 12 13) = t5
      refine lv_if_ne (tgt := 47) hx hb dX2_isSumSound_42 (by decide) (fun c6 => ?_) (fun c6 => ?_)
      · refine lv_aload_n hx hb dX2_isSumSound_47 rfl (lv_at hl 1 rfl) ?_
        refine g_get (q := 0) (k := 7) X hK B rfl in_X2 (pl_c hN 0 (by decide)) cf_0 (by decide) lk_X2_29 rfl rfl dX2_isSumSound_48 ?_
        refine lv_aload_n hx hb dX2_isSumSound_51 rfl (lv_at hl 1 rfl) ?_
        refine g_get (q := 0) (k := 6) X hK B rfl in_X2 (pl_c hN 0 (by decide)) cf_0 (by decide) lk_X2_25 rfl rfl dX2_isSumSound_52 ?_
        refine lv_aload_n hx hb dX2_isSumSound_55 rfl (lv_at hl 3 rfl) ?_
        refine k_i (k := 0) (n := 0) hA B (u_VN (rest := []) X (c_X1_putDifference l g N ad x t2.2 dy la kn re hN 13 (by decide) 12 (by decide) i2 hi2 H.size) mw_X1_putDifference md_X1_putDifference rfl lk_X2_77 ⟨Nat.le_of_ble_eq_true rfl, Nat.le_of_ble_eq_true rfl⟩ hA hK hT B (pl_sp hN (by decide)) (cf_sp (by decide)) rfl rfl hl.1 rfl (Nat.le_of_ble_eq_true rfl) dX2_isSumSound_56 ⟨Nat.le_of_ble_eq_true rfl, Nat.le_of_ble_eq_true rfl⟩) (Nat.le_of_ble_eq_true rfl) (Nat.le_of_ble_eq_true rfl) (fun r ad' f' H locs hw B => ?_)
        obtain ⟨rfl, rfl, rfl⟩ := hw
        have k7 : ∀ j, j < 12 → (v_X1_putDifference t2.2 13 12 i2).2 j = sp j := fun j hj => (kp_X1_putDifference_sp (by omega)).trans (k2 j hj)
        generalize (v_X1_putDifference t2.2 13 12 i2) = t7 at k7 B ⊢
        refine lv_if_eq (tgt := 77) hx hb dX2_isSumSound_59 (by decide) (fun c8 => ?_) (fun c8 => ?_)
        · refine lv_iconst (v := 0) hx hb dX2_isSumSound_77 (by decide) ?_
          exact rt_i X hr (ad, (cf g ad x t7.2 dy la kn re)) B (PO_of B) ⟨rfl, _, _, k7, fun _ _ => rfl, rfl⟩ rfl (Nat.le_of_ble_eq_true rfl) (Nat.le_of_ble_eq_true rfl) dX2_isSumSound_78
        · refine lv_aload_n hx hb dX2_isSumSound_62 rfl (lv_at hl 1 rfl) ?_
          refine g_get (q := 0) (k := 7) X hK B rfl in_X2 (pl_c hN 0 (by decide)) cf_0 (by decide) lk_X2_29 rfl rfl dX2_isSumSound_63 ?_
          refine lv_aload_n hx hb dX2_isSumSound_66 rfl (lv_at hl 2 rfl) ?_
          refine k_i (k := 0) (n := 0) hA B (u_VN (rest := []) X (c_X1_isSameAs l g N ad x t7.2 dy la kn re hN 13 (by decide) i1 hi1 H.size) mw_X1_isSameAs md_X1_isSameAs rfl lk_X2_123 ⟨Nat.le_of_ble_eq_true rfl, Nat.le_of_ble_eq_true rfl⟩ hA hK hT B (pl_sp hN (by decide)) (cf_sp (by decide)) rfl rfl hl.1 rfl (Nat.le_of_ble_eq_true rfl) dX2_isSumSound_67 ⟨Nat.le_of_ble_eq_true rfl, Nat.le_of_ble_eq_true rfl⟩) (Nat.le_of_ble_eq_true rfl) (Nat.le_of_ble_eq_true rfl) (fun r ad' f' H locs hw B => ?_)
          obtain ⟨rfl, rfl, rfl⟩ := hw
          generalize (v_X1_isSameAs t7.2 13 i1) = t9
          refine lv_if_eq (tgt := 77) hx hb dX2_isSumSound_70 (by decide) (fun c10 => ?_) (fun c10 => ?_)
          · refine lv_iconst (v := 0) hx hb dX2_isSumSound_77 (by decide) ?_
            exact rt_i X hr (ad, (cf g ad x t7.2 dy la kn re)) B (PO_of B) ⟨rfl, _, _, k7, fun _ _ => rfl, rfl⟩ rfl (Nat.le_of_ble_eq_true rfl) (Nat.le_of_ble_eq_true rfl) dX2_isSumSound_78
          · refine lv_iconst (v := 1) hx hb dX2_isSumSound_73 (by decide) ?_
            refine lv_goto (tgt := 78) hx hb dX2_isSumSound_74 (by decide) ?_
            exact rt_i X hr (ad, (cf g ad x t7.2 dy la kn re)) B (PO_of B) ⟨rfl, _, _, k7, fun _ _ => rfl, rfl⟩ rfl (Nat.le_of_ble_eq_true rfl) (Nat.le_of_ble_eq_true rfl) dX2_isSumSound_78
      · refine lv_iconst (v := 0) hx hb dX2_isSumSound_45 (by decide) ?_
        exact rt_i X hr (ad, (cf g ad x t2.2 dy la kn re)) B (PO_of B) ⟨rfl, _, _, k2, fun _ _ => rfl, rfl⟩ rfl (Nat.le_of_ble_eq_true rfl) (Nat.le_of_ble_eq_true rfl) dX2_isSumSound_46
    · refine lv_iconst (v := 1) hx hb dX2_isSumSound_29 (by decide) ?_
      exact rt_i X hr (ad, (cf g ad x t2.2 dy la kn re)) B (PO_of B) ⟨rfl, _, _, k2, fun _ _ => rfl, rfl⟩ rfl (Nat.le_of_ble_eq_true rfl) (Nat.le_of_ble_eq_true rfl) dX2_isSumSound_30
  · refine lv_iconst (v := 0) hx hb dX2_isSumSound_23 (by decide) ?_
    exact rt_i X hr (ad, (cf g ad x t2.2 dy la kn re)) B (PO_of B) ⟨rfl, _, _, k2, fun _ _ => rfl, rfl⟩ rfl (Nat.le_of_ble_eq_true rfl) (Nat.le_of_ble_eq_true rfl) dX2_isSumSound_24
set_option maxHeartbeats 4000000 in
set_option maxRecDepth 100000 in
theorem c_X2_isAlikenessSound (l : Launch) (g : GG) (N : Nat) (ad : Nat → Nat) (x : Nat → va_E) (sp dy : Nat → TR) (la kn re : Int32) (hN : 23 ≤ N) (i1 : Nat) (hi1 : i1 < 14) (i2 : Nat) (hi2 : i2 < 14) : KI l yX2_isAlikenessSound cX2_isAlikenessSound 3 (some .boolean) (rm 4 0 0) g [.ref (ad 0), .ref (ad (4 + i1)), .ref (ad (4 + i2))] N ad (cf g ad x sp dy la kn re) N (fun r ad' f' => ad = ad' ∧ ∃ sp' dy' : Nat → TR, (∀ j, j < 12 → sp' j = sp j) ∧ (∀ j, j < 4 → dy' j = dy j) ∧ cf g ad x sp' dy' la kn re = f') := by
  intro sz
  refine mt_start (by decide) (Nat.le_of_ble_eq_true rfl) ?_
  intro p e s m args below meth c hsz X hr hnam hA hK hT H locs B ls hl
  obtain ⟨hx, hb, hml, hown, hts, hlocks⟩ := id X
  have hl : lv_has ls 3 [(0, .ref (ad 0)), (1, .ref (ad (4 + i1))), (2, .ref (ad (4 + i2)))] := hl
  refine lv_aload_n hx hb dX2_isAlikenessSound_0 rfl (lv_at hl 0 rfl) ?_
  refine g_get (q := 0) (k := 6) X hK B rfl in_X2 (pl_c hN 0 (by decide)) cf_0 (by decide) lk_X2_25 rfl rfl dX2_isAlikenessSound_1 ?_
  refine lv_aload_n hx hb dX2_isAlikenessSound_4 rfl (lv_at hl 1 rfl) ?_
  refine k_i (k := 0) (n := 0) hA B (u_VN (rest := []) X (c_X1_putOpposite l g N ad x sp dy la kn re hN 12 (by decide) i1 hi1 H.size) mw_X1_putOpposite md_X1_putOpposite rfl lk_X2_84 ⟨Nat.le_of_ble_eq_true rfl, Nat.le_of_ble_eq_true rfl⟩ hA hK hT B (pl_sp hN (by decide)) (cf_sp (by decide)) rfl rfl hl.1 rfl (Nat.le_of_ble_eq_true rfl) dX2_isAlikenessSound_5 ⟨Nat.le_of_ble_eq_true rfl, Nat.le_of_ble_eq_true rfl⟩) (Nat.le_of_ble_eq_true rfl) (Nat.le_of_ble_eq_true rfl) (fun r ad' f' H locs hw B => ?_)
  obtain ⟨rfl, rfl, rfl⟩ := hw
  have k1 : ∀ j, j < 12 → (v_X1_putOpposite sp 12 i1).2 j = sp j := fun j hj => kp_X1_putOpposite_sp (by omega)
  generalize (v_X1_putOpposite sp 12 i1) = t1 at k1 B ⊢
  refine lv_if_eq (tgt := 22) hx hb dX2_isAlikenessSound_8 (by decide) (fun c2 => ?_) (fun c2 => ?_)
  · refine lv_iconst (v := 1) hx hb dX2_isAlikenessSound_22 (by decide) ?_
    exact rt_i X hr (ad, (cf g ad x t1.2 dy la kn re)) B (PO_of B) ⟨rfl, _, _, k1, fun _ _ => rfl, rfl⟩ rfl (Nat.le_of_ble_eq_true rfl) (Nat.le_of_ble_eq_true rfl) dX2_isAlikenessSound_23
  · refine lv_aload_n hx hb dX2_isAlikenessSound_11 rfl (lv_at hl 0 rfl) ?_
    refine g_get (q := 0) (k := 7) X hK B rfl in_X2 (pl_c hN 0 (by decide)) cf_0 (by decide) lk_X2_29 rfl rfl dX2_isAlikenessSound_12 ?_
    refine lv_aload_n hx hb dX2_isAlikenessSound_15 rfl (lv_at hl 2 rfl) ?_
    refine k_i (k := 0) (n := 0) hA B (u_VN (rest := []) X (c_X1_putOpposite l g N ad x t1.2 dy la kn re hN 13 (by decide) i2 hi2 H.size) mw_X1_putOpposite md_X1_putOpposite rfl lk_X2_84 ⟨Nat.le_of_ble_eq_true rfl, Nat.le_of_ble_eq_true rfl⟩ hA hK hT B (pl_sp hN (by decide)) (cf_sp (by decide)) rfl rfl hl.1 rfl (Nat.le_of_ble_eq_true rfl) dX2_isAlikenessSound_16 ⟨Nat.le_of_ble_eq_true rfl, Nat.le_of_ble_eq_true rfl⟩) (Nat.le_of_ble_eq_true rfl) (Nat.le_of_ble_eq_true rfl) (fun r ad' f' H locs hw B => ?_)
    obtain ⟨rfl, rfl, rfl⟩ := hw
    have k3 : ∀ j, j < 12 → (v_X1_putOpposite t1.2 13 i2).2 j = sp j := fun j hj => (kp_X1_putOpposite_sp (by omega)).trans (k1 j hj)
    generalize (v_X1_putOpposite t1.2 13 i2) = t3 at k3 B ⊢
    refine lv_if_ne (tgt := 24) hx hb dX2_isAlikenessSound_19 (by decide) (fun c4 => ?_) (fun c4 => ?_)
    · refine lv_aload_n hx hb dX2_isAlikenessSound_24 rfl (lv_at hl 0 rfl) ?_
      refine g_get (q := 0) (k := 6) X hK B rfl in_X2 (pl_c hN 0 (by decide)) cf_0 (by decide) lk_X2_25 rfl rfl dX2_isAlikenessSound_25 ?_
      refine lv_aload_n hx hb dX2_isAlikenessSound_28 rfl (lv_at hl 0 rfl) ?_
      refine g_get (q := 0) (k := 7) X hK B rfl in_X2 (pl_c hN 0 (by decide)) cf_0 (by decide) lk_X2_29 rfl rfl dX2_isAlikenessSound_29 ?_
      refine k_i (k := 0) (n := 0) hA B (u_VN (rest := []) X (c_X1_isAlikeTo l g N ad x t3.2 dy la kn re hN 12 (by decide) 13 (by decide) H.size) mw_X1_isAlikeTo md_X1_isAlikeTo rfl lk_X2_126 ⟨Nat.le_of_ble_eq_true rfl, Nat.le_of_ble_eq_true rfl⟩ hA hK hT B (pl_sp hN (by decide)) (cf_sp (by decide)) rfl rfl hl.1 rfl (Nat.le_of_ble_eq_true rfl) dX2_isAlikenessSound_32 ⟨Nat.le_of_ble_eq_true rfl, Nat.le_of_ble_eq_true rfl⟩) (Nat.le_of_ble_eq_true rfl) (Nat.le_of_ble_eq_true rfl) (fun r ad' f' H locs hw B => ?_)
      obtain ⟨rfl, rfl, rfl⟩ := hw
      generalize (v_X1_isAlikeTo t3.2 12 13) = t5
      refine lv_aload_n hx hb dX2_isAlikenessSound_35 rfl (lv_at hl 1 rfl) ?_
      refine lv_aload_n hx hb dX2_isAlikenessSound_36 rfl (lv_at hl 2 rfl) ?_
      refine k_i (k := 0) (n := 0) hA B (u_VN (rest := [.int t5]) X (c_X1_isAlikeTo l g N ad x t3.2 dy la kn re hN i1 hi1 i2 hi2 H.size) mw_X1_isAlikeTo md_X1_isAlikeTo rfl lk_X2_126 ⟨Nat.le_of_ble_eq_true rfl, Nat.le_of_ble_eq_true rfl⟩ hA hK hT B (pl_sp hN hi1) (cf_sp hi1) rfl rfl hl.1 rfl (Nat.le_of_ble_eq_true rfl) dX2_isAlikenessSound_37 ⟨Nat.le_of_ble_eq_true rfl, Nat.le_of_ble_eq_true rfl⟩) (Nat.le_of_ble_eq_true rfl) (Nat.le_of_ble_eq_true rfl) (fun r ad' f' H locs hw B => ?_)
      obtain ⟨rfl, rfl, rfl⟩ := hw
      generalize (v_X1_isAlikeTo t3.2 i1 i2) = t6
      refine lv_icmp_ne (tgt := 47) hx hb dX2_isAlikenessSound_40 (by decide) (fun c7 => ?_) (fun c7 => ?_)
      · refine lv_iconst (v := 0) hx hb dX2_isAlikenessSound_47 (by decide) ?_
        exact rt_i X hr (ad, (cf g ad x t3.2 dy la kn re)) B (PO_of B) ⟨rfl, _, _, k3, fun _ _ => rfl, rfl⟩ rfl (Nat.le_of_ble_eq_true rfl) (Nat.le_of_ble_eq_true rfl) dX2_isAlikenessSound_48
      · refine lv_iconst (v := 1) hx hb dX2_isAlikenessSound_43 (by decide) ?_
        refine lv_goto (tgt := 48) hx hb dX2_isAlikenessSound_44 (by decide) ?_
        exact rt_i X hr (ad, (cf g ad x t3.2 dy la kn re)) B (PO_of B) ⟨rfl, _, _, k3, fun _ _ => rfl, rfl⟩ rfl (Nat.le_of_ble_eq_true rfl) (Nat.le_of_ble_eq_true rfl) dX2_isAlikenessSound_48
    · refine lv_iconst (v := 1) hx hb dX2_isAlikenessSound_22 (by decide) ?_
      exact rt_i X hr (ad, (cf g ad x t3.2 dy la kn re)) B (PO_of B) ⟨rfl, _, _, k3, fun _ _ => rfl, rfl⟩ rfl (Nat.le_of_ble_eq_true rfl) (Nat.le_of_ble_eq_true rfl) dX2_isAlikenessSound_23
set_option maxHeartbeats 4000000 in
set_option maxRecDepth 100000 in
theorem c_X2_isSound (l : Launch) (g : GG) (N : Nat) (ad : Nat → Nat) (x : Nat → va_E) (sp dy : Nat → TR) (la kn re : Int32) (hN : 23 ≤ N) : KI l yX2_isSound cX2_isSound 3 (some .boolean) (rm 5 0 0) g [.ref (ad 0)] N ad (cf g ad x sp dy la kn re) N (fun r ad' f' => ad = ad' ∧ ∃ sp' dy' : Nat → TR, (∀ j, j < 12 → sp' j = sp j) ∧ (∀ j, j < 4 → dy' j = dy j) ∧ cf g ad x sp' dy' la kn re = f') := by
  intro sz
  refine mt_start (by decide) (Nat.le_of_ble_eq_true rfl) ?_
  intro p e s m args below meth c hsz X hr hnam hA hK hT H locs B ls hl
  obtain ⟨hx, hb, hml, hown, hts, hlocks⟩ := id X
  have hl : lv_has ls 3 [(0, .ref (ad 0))] := hl
  refine lv_iconst (v := 0) hx hb dX2_isSound_0 (by decide) ?_
  refine lv_istore_n (lv' := [(1, .int 0), (0, .ref (ad 0))]) hx hb dX2_isSound_1 rfl hl (by decide) rfl (fun ls hl => ?_)
  have loop1 : ∀ (n1 : Nat) (ua : Int32) (sp9 : Nat → TR) (dy9 : Nat → TR) (H : Heap) (locs : List Loc), ((4 : Int32).toInt - ua.toInt).toNat < n1 → ¬ ua < 0 → (∀ j, j < 12 → sp9 j = sp j) → (∀ j, j < 4 → dy9 j = dy j) → WB g (aw N ad sz) s.heap N ad (cf g ad x sp9 dy9 la kn re) H locs → ∀ ls : Array Slot, lv_has ls 3 [(1, .int ua), (0, .ref (ad 0))] → W p l e (rm 5 0 0) s m args below meth c H locs 0 0 (MQ below (va_Qi (fun r (u : WS) => (fun r ad' f' => ad = ad' ∧ ∃ sp' dy' : Nat → TR, (∀ j, j < 12 → sp' j = sp j) ∧ (∀ j, j < 4 → dy' j = dy j) ∧ cf g ad x sp' dy' la kn re = f') r u.1 u.2) (fun u t => PO g N u.1 u.2 (aw N ad sz) t) (aw N ad sz)) args s (rm 5 0 0).cells (rm 5 0 0).slots (aw N ad sz)) (F0 m 2 ls []) := by
    intro n1
    induction n1 with
    | zero => intro ua sp9 dy9 H locs hn; exact absurd hn (Nat.not_lt_zero _)
    | succ n1 ih1 =>
      intro ua sp9 dy9 H locs hn1 hzua hksp1 hkdy1 B ls hl
      refine lv_iload_n hx hb dX2_isSound_2 rfl (lv_at hl 0 rfl) ?_
      refine lv_iconst (v := 4) hx hb dX2_isSound_3 (by decide) ?_
      refine lv_icmp_ge (tgt := 81) hx hb dX2_isSound_4 (by decide) (fun c2 => ?_) (fun c2 => ?_)
      · refine lv_iconst (v := 0) hx hb dX2_isSound_81 (by decide) ?_
        refine lv_istore_n (lv' := [(1, .int 0), (0, .ref (ad 0))]) hx hb dX2_isSound_82 rfl hl (by decide) rfl (fun ls hl => ?_)
        have loop3 : ∀ (n3 : Nat) (uc : Int32) (sp9 : Nat → TR) (dy9 : Nat → TR) (H : Heap) (locs : List Loc), ((4 : Int32).toInt - uc.toInt).toNat < n3 → ¬ uc < 0 → (∀ j, j < 12 → sp9 j = sp j) → (∀ j, j < 4 → dy9 j = dy j) → WB g (aw N ad sz) s.heap N ad (cf g ad x sp9 dy9 la kn re) H locs → ∀ ls : Array Slot, lv_has ls 3 [(1, .int uc), (0, .ref (ad 0))] → W p l e (rm 5 0 0) s m args below meth c H locs 0 0 (MQ below (va_Qi (fun r (u : WS) => (fun r ad' f' => ad = ad' ∧ ∃ sp' dy' : Nat → TR, (∀ j, j < 12 → sp' j = sp j) ∧ (∀ j, j < 4 → dy' j = dy j) ∧ cf g ad x sp' dy' la kn re = f') r u.1 u.2) (fun u t => PO g N u.1 u.2 (aw N ad sz) t) (aw N ad sz)) args s (rm 5 0 0).cells (rm 5 0 0).slots (aw N ad sz)) (F0 m 83 ls []) := by
          intro n3
          induction n3 with
          | zero => intro uc sp9 dy9 H locs hn; exact absurd hn (Nat.not_lt_zero _)
          | succ n3 ih3 =>
            intro uc sp9 dy9 H locs hn3 hzuc hksp3 hkdy3 B ls hl
            refine lv_iload_n hx hb dX2_isSound_83 rfl (lv_at hl 0 rfl) ?_
            refine lv_iconst (v := 4) hx hb dX2_isSound_84 (by decide) ?_
            refine lv_icmp_ge (tgt := 154) hx hb dX2_isSound_85 (by decide) (fun c4 => ?_) (fun c4 => ?_)
            · refine lv_iconst (v := 1) hx hb dX2_isSound_154 (by decide) ?_
              exact rt_i X hr (ad, (cf g ad x sp9 dy9 la kn re)) B (PO_of B) ⟨rfl, _, _, hksp3, hkdy3, rfl⟩ rfl (Nat.le_of_ble_eq_true rfl) (Nat.le_of_ble_eq_true rfl) dX2_isSound_155
            · refine lv_iconst (v := 0) hx hb dX2_isSound_88 (by decide) ?_
              refine lv_istore_n (lv' := [(2, .int 0), (1, .int uc), (0, .ref (ad 0))]) hx hb dX2_isSound_89 rfl hl (by decide) rfl (fun ls hl => ?_)
              have loop5 : ∀ (n5 : Nat) (ud : Int32) (sp9 : Nat → TR) (dy9 : Nat → TR) (H : Heap) (locs : List Loc), ((4 : Int32).toInt - ud.toInt).toNat < n5 → ¬ ud < 0 → (∀ j, j < 12 → sp9 j = sp j) → (∀ j, j < 4 → dy9 j = dy j) → WB g (aw N ad sz) s.heap N ad (cf g ad x sp9 dy9 la kn re) H locs → ∀ ls : Array Slot, lv_has ls 3 [(2, .int ud), (1, .int uc), (0, .ref (ad 0))] → W p l e (rm 5 0 0) s m args below meth c H locs 0 0 (MQ below (va_Qi (fun r (u : WS) => (fun r ad' f' => ad = ad' ∧ ∃ sp' dy' : Nat → TR, (∀ j, j < 12 → sp' j = sp j) ∧ (∀ j, j < 4 → dy' j = dy j) ∧ cf g ad x sp' dy' la kn re = f') r u.1 u.2) (fun u t => PO g N u.1 u.2 (aw N ad sz) t) (aw N ad sz)) args s (rm 5 0 0).cells (rm 5 0 0).slots (aw N ad sz)) (F0 m 90 ls []) := by
                intro n5
                induction n5 with
                | zero => intro ud sp9 dy9 H locs hn; exact absurd hn (Nat.not_lt_zero _)
                | succ n5 ih5 =>
                  intro ud sp9 dy9 H locs hn5 hzud hksp5 hkdy5 B ls hl
                  refine lv_iload_n hx hb dX2_isSound_90 rfl (lv_at hl 0 rfl) ?_
                  refine lv_iconst (v := 4) hx hb dX2_isSound_91 (by decide) ?_
                  refine lv_icmp_ge (tgt := 148) hx hb dX2_isSound_92 (by decide) (fun c6 => ?_) (fun c6 => ?_)
                  · refine lv_iinc (v := uc + 1) (lv' := [(1, .int (uc + 1)), (2, .int ud), (0, .ref (ad 0))]) hx hb dX2_isSound_148 hl (k := 1) rfl rfl (by decide) rfl (fun ls hl => ?_)
                    refine lv_goto (tgt := 83) hx hb dX2_isSound_151 (by decide) ?_
                    exact ih3 (uc + 1) sp9 dy9 H locs (fu_le c4 hn3) (inc_nn hzuc c4) (hksp5) (hkdy5) B ls (lv_sub hl [0, 2] rfl)
                  · refine lv_aload_n hx hb dX2_isSound_95 rfl (lv_at hl 2 rfl) ?_
                    refine g_get (q := 0) (k := 6) X hK B rfl in_X2 (pl_c hN 0 (by decide)) cf_0 (by decide) lk_X2_25 rfl rfl dX2_isSound_96 ?_
                    refine lv_aload_n hx hb dX2_isSound_99 rfl (lv_at hl 2 rfl) ?_
                    refine g_get (q := 0) (k := 2) X hK B rfl in_X2 (pl_c hN 0 (by decide)) cf_0 (by decide) lk_X2_20 rfl rfl dX2_isSound_100 ?_
                    refine lv_iload_n hx hb dX2_isSound_103 rfl (lv_at hl 1 rfl) ?_
                    refine g_aald (q := 3) (t0 := 4) X hK B (pl_c hN 3 (by decide)) cf_3 rfl rfl (ix_in (n := 4) hzuc c4 rfl) dX2_isSound_104 ?_
                    have h7 : uc.toNatClampNeg < 5 := by have := (ix_lt (n := 4) hzuc c4 rfl); omega
                    refine lv_aload_n hx hb dX2_isSound_105 rfl (lv_at hl 2 rfl) ?_
                    refine g_get (q := 0) (k := 2) X hK B rfl in_X2 (pl_c hN 0 (by decide)) cf_0 (by decide) lk_X2_20 rfl rfl dX2_isSound_106 ?_
                    refine lv_iload_n hx hb dX2_isSound_109 rfl (lv_at hl 0 rfl) ?_
                    refine g_aald (q := 3) (t0 := 4) X hK B (pl_c hN 3 (by decide)) cf_3 rfl rfl (ix_in (n := 4) hzud c6 rfl) dX2_isSound_110 ?_
                    have h8 : ud.toNatClampNeg < 5 := by have := (ix_lt (n := 4) hzud c6 rfl); omega
                    refine k_i (k := 0) (n := 0) hA B (u_VN (rest := []) X (c_X1_putBetween l g N ad x sp9 dy9 la kn re hN 12 (by decide) uc.toNatClampNeg h7 ud.toNatClampNeg h8 H.size) mw_X1_putBetween md_X1_putBetween rfl lk_X2_173 ⟨Nat.le_of_ble_eq_true rfl, Nat.le_of_ble_eq_true rfl⟩ hA hK hT B (pl_sp hN (by decide)) (cf_sp (by decide)) rfl rfl hl.1 rfl (Nat.le_of_ble_eq_true rfl) dX2_isSound_111 ⟨Nat.le_of_ble_eq_true rfl, Nat.le_of_ble_eq_true rfl⟩) (Nat.le_of_ble_eq_true rfl) (Nat.le_of_ble_eq_true rfl) (fun r ad' f' H locs hw B => ?_)
                    obtain ⟨rfl, rfl, rfl⟩ := hw
                    have k9 : ∀ j, j < 12 → (v_X1_putBetween sp9 dy9 12 uc.toNatClampNeg ud.toNatClampNeg).2 j = sp j := fun j hj => (kp_X1_putBetween_sp (by omega)).trans (hksp5 j hj)
                    generalize (v_X1_putBetween sp9 dy9 12 uc.toNatClampNeg ud.toNatClampNeg) = t9 at k9 B ⊢
                    refine lv_if_eq (tgt := 142) hx hb dX2_isSound_114 (by decide) (fun c10 => ?_) (fun c10 => ?_)
                    · refine lv_iinc (v := ud + 1) (lv' := [(2, .int (ud + 1)), (1, .int uc), (0, .ref (ad 0))]) hx hb dX2_isSound_142 hl (k := 0) rfl rfl (by decide) rfl (fun ls hl => ?_)
                      refine lv_goto (tgt := 90) hx hb dX2_isSound_145 (by decide) ?_
                      exact ih5 (ud + 1) t9.2 dy9 H locs (fu_le c6 hn5) (inc_nn hzud c6) (k9) (hkdy5) B ls (lv_sub hl [0, 1, 2] rfl)
                    · refine lv_aload_n hx hb dX2_isSound_117 rfl (lv_at hl 2 rfl) ?_
                      refine lv_aload_n hx hb dX2_isSound_118 rfl (lv_at hl 2 rfl) ?_
                      refine g_get (q := 0) (k := 2) X hK B rfl in_X2 (pl_c hN 0 (by decide)) cf_0 (by decide) lk_X2_20 rfl rfl dX2_isSound_119 ?_
                      refine lv_iload_n hx hb dX2_isSound_122 rfl (lv_at hl 1 rfl) ?_
                      refine g_aald (q := 3) (t0 := 4) X hK B (pl_c hN 3 (by decide)) cf_3 rfl rfl (ix_in (n := 4) hzuc c4 rfl) dX2_isSound_123 ?_
                      have h11 : uc.toNatClampNeg < 5 := by have := (ix_lt (n := 4) hzuc c4 rfl); omega
                      refine lv_aload_n hx hb dX2_isSound_124 rfl (lv_at hl 2 rfl) ?_
                      refine g_get (q := 0) (k := 6) X hK B rfl in_X2 (pl_c hN 0 (by decide)) cf_0 (by decide) lk_X2_25 rfl rfl dX2_isSound_125 ?_
                      refine lv_aload_n hx hb dX2_isSound_128 rfl (lv_at hl 2 rfl) ?_
                      refine g_get (q := 0) (k := 2) X hK B rfl in_X2 (pl_c hN 0 (by decide)) cf_0 (by decide) lk_X2_20 rfl rfl dX2_isSound_129 ?_
                      refine lv_iload_n hx hb dX2_isSound_132 rfl (lv_at hl 0 rfl) ?_
                      refine g_aald (q := 3) (t0 := 4) X hK B (pl_c hN 3 (by decide)) cf_3 rfl rfl (ix_in (n := 4) hzud c6 rfl) dX2_isSound_133 ?_
                      have h12 : ud.toNatClampNeg < 5 := by have := (ix_lt (n := 4) hzud c6 rfl); omega
                      refine k_i (k := 0) (n := 0) hA B (u_V (rest := []) X (c_X2_leads l g N ad x t9.2 dy9 la kn re hN uc.toNatClampNeg h11 12 (by decide) ud.toNatClampNeg h12 H.size) mw_X2_leads md_X2_leads rfl lk_X2_177 ⟨Nat.le_of_ble_eq_true rfl, Nat.le_of_ble_eq_true rfl⟩ hA hK hT B (pl_c hN 0 (by decide)) cf_0 rfl rfl hl.1 rfl (Nat.le_of_ble_eq_true rfl) dX2_isSound_134 ⟨Nat.le_of_ble_eq_true rfl, Nat.le_of_ble_eq_true rfl⟩) (Nat.le_of_ble_eq_true rfl) (Nat.le_of_ble_eq_true rfl) (fun r ad' f' H locs hw B => ?_)
                      obtain ⟨rfl, rfl, rfl⟩ := hw
                      have e13 : ∀ j, j < 4 → (v_X2_leads t9.2 dy9 uc.toNatClampNeg 12 ud.toNatClampNeg).2 j = dy j := fun j hj => (kp_X2_leads_dy (by omega)).trans (hkdy5 j hj)
                      generalize (v_X2_leads t9.2 dy9 uc.toNatClampNeg 12 ud.toNatClampNeg) = t13 at e13 B ⊢
                      refine lv_if_ne (tgt := 142) hx hb dX2_isSound_137 (by decide) (fun c14 => ?_) (fun c14 => ?_)
                      · refine lv_iinc (v := ud + 1) (lv' := [(2, .int (ud + 1)), (1, .int uc), (0, .ref (ad 0))]) hx hb dX2_isSound_142 hl (k := 0) rfl rfl (by decide) rfl (fun ls hl => ?_)
                        refine lv_goto (tgt := 90) hx hb dX2_isSound_145 (by decide) ?_
                        exact ih5 (ud + 1) t9.2 t13.2 H locs (fu_le c6 hn5) (inc_nn hzud c6) (k9) (e13) B ls (lv_sub hl [0, 1, 2] rfl)
                      · refine lv_iconst (v := 0) hx hb dX2_isSound_140 (by decide) ?_
                        exact rt_i X hr (ad, (cf g ad x t9.2 t13.2 la kn re)) B (PO_of B) ⟨rfl, _, _, k9, e13, rfl⟩ rfl (Nat.le_of_ble_eq_true rfl) (Nat.le_of_ble_eq_true rfl) dX2_isSound_141
              exact loop5 (((4 : Int32).toInt - (0 : Int32).toInt).toNat + 1) 0 sp9 dy9 H locs (Nat.lt_succ_self _) (by decide) (hksp3) (hkdy3) B ls hl
        exact loop3 (((4 : Int32).toInt - (0 : Int32).toInt).toNat + 1) 0 sp9 dy9 H locs (Nat.lt_succ_self _) (by decide) (hksp1) (hkdy1) B ls hl
      · refine lv_aload_n hx hb dX2_isSound_7 rfl (lv_at hl 1 rfl) ?_
        refine lv_aload_n hx hb dX2_isSound_8 rfl (lv_at hl 1 rfl) ?_
        refine g_get (q := 0) (k := 0) X hK B rfl in_X2 (pl_c hN 0 (by decide)) cf_0 (by decide) lk_X2_11 rfl rfl dX2_isSound_9 ?_
        refine lv_iload_n hx hb dX2_isSound_12 rfl (lv_at hl 0 rfl) ?_
        refine g_aald (q := 1) (t0 := 3) X hK B (pl_c hN 1 (by decide)) cf_1 rfl rfl (ix_in (n := 4) hzua c2 rfl) dX2_isSound_13 ?_
        have h15 : ua.toNatClampNeg < 14 := by have := (ix_lt (n := 4) hzua c2 rfl); omega
        refine k_i (k := 0) (n := 0) hA B (u_V (rest := []) X (c_X2_isSpanSound l g N ad x sp9 dy9 la kn re hN ua.toNatClampNeg h15 H.size) mw_X2_isSpanSound md_X2_isSpanSound rfl lk_X2_191 ⟨Nat.le_of_ble_eq_true rfl, Nat.le_of_ble_eq_true rfl⟩ hA hK hT B (pl_c hN 0 (by decide)) cf_0 rfl rfl hl.1 rfl (Nat.le_of_ble_eq_true rfl) dX2_isSound_14 ⟨Nat.le_of_ble_eq_true rfl, Nat.le_of_ble_eq_true rfl⟩) (Nat.le_of_ble_eq_true rfl) (Nat.le_of_ble_eq_true rfl) (fun r16 ad' f' H locs hw B => ?_)
        obtain ⟨rfl, sp16, dy16, k16, e16, rfl⟩ := hw
        have k16 : ∀ j, j < 12 → sp16 j = sp j := fun j hj => (k16 j hj).trans (hksp1 j hj)
        have e16 : ∀ j, j < 4 → dy16 j = dy j := fun j hj => (e16 j hj).trans (hkdy1 j hj)
        refine lv_if_ne (tgt := 22) hx hb dX2_isSound_17 (by decide) (fun c17 => ?_) (fun c17 => ?_)
        · refine lv_iconst (v := 0) hx hb dX2_isSound_22 (by decide) ?_
          refine lv_istore_n (lv' := [(2, .int 0), (1, .int ua), (0, .ref (ad 0))]) hx hb dX2_isSound_23 rfl hl (by decide) rfl (fun ls hl => ?_)
          have loop18 : ∀ (n18 : Nat) (ub : Int32) (sp9 : Nat → TR) (dy9 : Nat → TR) (H : Heap) (locs : List Loc), ((4 : Int32).toInt - ub.toInt).toNat < n18 → ¬ ub < 0 → (∀ j, j < 12 → sp9 j = sp j) → (∀ j, j < 4 → dy9 j = dy j) → WB g (aw N ad sz) s.heap N ad (cf g ad x sp9 dy9 la kn re) H locs → ∀ ls : Array Slot, lv_has ls 3 [(2, .int ub), (1, .int ua), (0, .ref (ad 0))] → W p l e (rm 5 0 0) s m args below meth c H locs 0 0 (MQ below (va_Qi (fun r (u : WS) => (fun r ad' f' => ad = ad' ∧ ∃ sp' dy' : Nat → TR, (∀ j, j < 12 → sp' j = sp j) ∧ (∀ j, j < 4 → dy' j = dy j) ∧ cf g ad x sp' dy' la kn re = f') r u.1 u.2) (fun u t => PO g N u.1 u.2 (aw N ad sz) t) (aw N ad sz)) args s (rm 5 0 0).cells (rm 5 0 0).slots (aw N ad sz)) (F0 m 24 ls []) := by
            intro n18
            induction n18 with
            | zero => intro ub sp9 dy9 H locs hn; exact absurd hn (Nat.not_lt_zero _)
            | succ n18 ih18 =>
              intro ub sp9 dy9 H locs hn18 hzub hksp18 hkdy18 B ls hl
              refine lv_iload_n hx hb dX2_isSound_24 rfl (lv_at hl 0 rfl) ?_
              refine lv_iconst (v := 4) hx hb dX2_isSound_25 (by decide) ?_
              refine lv_icmp_ge (tgt := 75) hx hb dX2_isSound_26 (by decide) (fun c19 => ?_) (fun c19 => ?_)
              · refine lv_iinc (v := ua + 1) (lv' := [(1, .int (ua + 1)), (2, .int ub), (0, .ref (ad 0))]) hx hb dX2_isSound_75 hl (k := 1) rfl rfl (by decide) rfl (fun ls hl => ?_)
                refine lv_goto (tgt := 2) hx hb dX2_isSound_78 (by decide) ?_
                exact ih1 (ua + 1) sp9 dy9 H locs (fu_le c2 hn1) (inc_nn hzua c2) (hksp18) (hkdy18) B ls (lv_sub hl [0, 2] rfl)
              · refine lv_aload_n hx hb dX2_isSound_29 rfl (lv_at hl 2 rfl) ?_
                refine lv_aload_n hx hb dX2_isSound_30 rfl (lv_at hl 2 rfl) ?_
                refine g_get (q := 0) (k := 0) X hK B rfl in_X2 (pl_c hN 0 (by decide)) cf_0 (by decide) lk_X2_11 rfl rfl dX2_isSound_31 ?_
                refine lv_iload_n hx hb dX2_isSound_34 rfl (lv_at hl 1 rfl) ?_
                refine g_aald (q := 1) (t0 := 3) X hK B (pl_c hN 1 (by decide)) cf_1 rfl rfl (ix_in (n := 4) hzua c2 rfl) dX2_isSound_35 ?_
                have h20 : ua.toNatClampNeg < 14 := by have := (ix_lt (n := 4) hzua c2 rfl); omega
                refine lv_aload_n hx hb dX2_isSound_36 rfl (lv_at hl 2 rfl) ?_
                refine g_get (q := 0) (k := 0) X hK B rfl in_X2 (pl_c hN 0 (by decide)) cf_0 (by decide) lk_X2_11 rfl rfl dX2_isSound_37 ?_
                refine lv_iload_n hx hb dX2_isSound_40 rfl (lv_at hl 0 rfl) ?_
                refine g_aald (q := 1) (t0 := 3) X hK B (pl_c hN 1 (by decide)) cf_1 rfl rfl (ix_in (n := 4) hzub c19 rfl) dX2_isSound_41 ?_
                have h21 : ub.toNatClampNeg < 14 := by have := (ix_lt (n := 4) hzub c19 rfl); omega
                refine k_i (k := 0) (n := 0) hA B (u_V (rest := []) X (c_X2_isSumSound l g N ad x sp9 dy9 la kn re hN ua.toNatClampNeg h20 ub.toNatClampNeg h21 H.size) mw_X2_isSumSound md_X2_isSumSound rfl lk_X2_194 ⟨Nat.le_of_ble_eq_true rfl, Nat.le_of_ble_eq_true rfl⟩ hA hK hT B (pl_c hN 0 (by decide)) cf_0 rfl rfl hl.1 rfl (Nat.le_of_ble_eq_true rfl) dX2_isSound_42 ⟨Nat.le_of_ble_eq_true rfl, Nat.le_of_ble_eq_true rfl⟩) (Nat.le_of_ble_eq_true rfl) (Nat.le_of_ble_eq_true rfl) (fun r22 ad' f' H locs hw B => ?_)
                obtain ⟨rfl, sp22, dy22, k22, e22, rfl⟩ := hw
                have k22 : ∀ j, j < 12 → sp22 j = sp j := fun j hj => (k22 j hj).trans (hksp18 j hj)
                have e22 : ∀ j, j < 4 → dy22 j = dy j := fun j hj => (e22 j hj).trans (hkdy18 j hj)
                refine lv_if_eq (tgt := 67) hx hb dX2_isSound_45 (by decide) (fun c23 => ?_) (fun c23 => ?_)
                · refine lv_iconst (v := 0) hx hb dX2_isSound_67 (by decide) ?_
                  exact rt_i X hr (ad, (cf g ad x sp22 dy22 la kn re)) B (PO_of B) ⟨rfl, _, _, k22, e22, rfl⟩ rfl (Nat.le_of_ble_eq_true rfl) (Nat.le_of_ble_eq_true rfl) dX2_isSound_68
                · refine lv_aload_n hx hb dX2_isSound_48 rfl (lv_at hl 2 rfl) ?_
                  refine lv_aload_n hx hb dX2_isSound_49 rfl (lv_at hl 2 rfl) ?_
                  refine g_get (q := 0) (k := 0) X hK B rfl in_X2 (pl_c hN 0 (by decide)) cf_0 (by decide) lk_X2_11 rfl rfl dX2_isSound_50 ?_
                  refine lv_iload_n hx hb dX2_isSound_53 rfl (lv_at hl 1 rfl) ?_
                  refine g_aald (q := 1) (t0 := 3) X hK B (pl_c hN 1 (by decide)) cf_1 rfl rfl (ix_in (n := 4) hzua c2 rfl) dX2_isSound_54 ?_
                  have h24 : ua.toNatClampNeg < 14 := by have := (ix_lt (n := 4) hzua c2 rfl); omega
                  refine lv_aload_n hx hb dX2_isSound_55 rfl (lv_at hl 2 rfl) ?_
                  refine g_get (q := 0) (k := 0) X hK B rfl in_X2 (pl_c hN 0 (by decide)) cf_0 (by decide) lk_X2_11 rfl rfl dX2_isSound_56 ?_
                  refine lv_iload_n hx hb dX2_isSound_59 rfl (lv_at hl 0 rfl) ?_
                  refine g_aald (q := 1) (t0 := 3) X hK B (pl_c hN 1 (by decide)) cf_1 rfl rfl (ix_in (n := 4) hzub c19 rfl) dX2_isSound_60 ?_
                  have h25 : ub.toNatClampNeg < 14 := by have := (ix_lt (n := 4) hzub c19 rfl); omega
                  refine k_i (k := 0) (n := 0) hA B (u_V (rest := []) X (c_X2_isAlikenessSound l g N ad x sp22 dy22 la kn re hN ua.toNatClampNeg h24 ub.toNatClampNeg h25 H.size) mw_X2_isAlikenessSound md_X2_isAlikenessSound rfl lk_X2_197 ⟨Nat.le_of_ble_eq_true rfl, Nat.le_of_ble_eq_true rfl⟩ hA hK hT B (pl_c hN 0 (by decide)) cf_0 rfl rfl hl.1 rfl (Nat.le_of_ble_eq_true rfl) dX2_isSound_61 ⟨Nat.le_of_ble_eq_true rfl, Nat.le_of_ble_eq_true rfl⟩) (Nat.le_of_ble_eq_true rfl) (Nat.le_of_ble_eq_true rfl) (fun r26 ad' f' H locs hw B => ?_)
                  obtain ⟨rfl, sp26, dy26, k26, e26, rfl⟩ := hw
                  have k26 : ∀ j, j < 12 → sp26 j = sp j := fun j hj => (k26 j hj).trans (k22 j hj)
                  have e26 : ∀ j, j < 4 → dy26 j = dy j := fun j hj => (e26 j hj).trans (e22 j hj)
                  refine lv_if_ne (tgt := 69) hx hb dX2_isSound_64 (by decide) (fun c27 => ?_) (fun c27 => ?_)
                  · refine lv_iinc (v := ub + 1) (lv' := [(2, .int (ub + 1)), (1, .int ua), (0, .ref (ad 0))]) hx hb dX2_isSound_69 hl (k := 0) rfl rfl (by decide) rfl (fun ls hl => ?_)
                    refine lv_goto (tgt := 24) hx hb dX2_isSound_72 (by decide) ?_
                    exact ih18 (ub + 1) sp26 dy26 H locs (fu_le c19 hn18) (inc_nn hzub c19) (k26) (e26) B ls (lv_sub hl [0, 1, 2] rfl)
                  · refine lv_iconst (v := 0) hx hb dX2_isSound_67 (by decide) ?_
                    exact rt_i X hr (ad, (cf g ad x sp26 dy26 la kn re)) B (PO_of B) ⟨rfl, _, _, k26, e26, rfl⟩ rfl (Nat.le_of_ble_eq_true rfl) (Nat.le_of_ble_eq_true rfl) dX2_isSound_68
          exact loop18 (((4 : Int32).toInt - (0 : Int32).toInt).toNat + 1) 0 sp16 dy16 H locs (Nat.lt_succ_self _) (by decide) (k16) (e16) B ls hl
        · refine lv_iconst (v := 0) hx hb dX2_isSound_20 (by decide) ?_
          exact rt_i X hr (ad, (cf g ad x sp16 dy16 la kn re)) B (PO_of B) ⟨rfl, _, _, k16, e16, rfl⟩ rfl (Nat.le_of_ble_eq_true rfl) (Nat.le_of_ble_eq_true rfl) dX2_isSound_21
  exact loop1 (((4 : Int32).toInt - (0 : Int32).toInt).toNat + 1) 0 sp dy H locs (Nat.lt_succ_self _) (by decide) (fun _ _ => rfl) (fun _ _ => rfl) B ls hl
set_option maxHeartbeats 4000000 in
set_option maxRecDepth 100000 in
theorem c_X2_digestCard (l : Launch) (g : GG) (N : Nat) (ad : Nat → Nat) (x : Nat → va_E) (sp dy : Nat → TR) (la kn re : Int32) (hN : 23 ≤ N) (b1 : Int64) (i2 : Nat) (hi2 : i2 < 14) : KL l yX2_digestCard cX2_digestCard 7 (rm 4 0 0) g [.ref (ad 0), .long b1, .ref (ad (4 + i2))] N ad (cf g ad x sp dy la kn re) N (fun r ad' f' => ad = ad' ∧ ∃ sp' dy' : Nat → TR, (∀ j, j < 12 → sp' j = sp j) ∧ (∀ j, j < 4 → dy' j = dy j) ∧ cf g ad x sp' dy' la kn re = f') := by
  intro sz
  refine mt_start (by decide) (Nat.le_of_ble_eq_true rfl) ?_
  intro p e s m args below meth c hsz X hr hnam hA hK hT H locs B ls hl
  obtain ⟨hx, hb, hml, hown, hts, hlocks⟩ := id X
  have hl : lv_has ls 7 [(0, .ref (ad 0)), (1, .long b1), (3, .ref (ad (4 + i2)))] := hl
  refine lv_lload_n hx hb dX2_digestCard_0 rfl (lv_at hl 1 rfl) ?_
  refine lv_lstore (lv' := [(4, .long b1), (0, .ref (ad 0)), (1, .long b1), (3, .ref (ad (4 + i2)))]) hx hb dX2_digestCard_1 hl (by decide) rfl (fun ls hl => ?_)
  refine lv_iconst (v := 0) hx hb dX2_digestCard_3 (by decide) ?_
  refine lv_istore (lv' := [(6, .int 0), (4, .long b1), (0, .ref (ad 0)), (1, .long b1), (3, .ref (ad (4 + i2)))]) hx hb dX2_digestCard_4 hl (by decide) rfl (fun ls hl => ?_)
  have loop1 : ∀ (n1 : Nat) (ua : Int32) (da : Int64) (sp9 : Nat → TR) (dy9 : Nat → TR) (H : Heap) (locs : List Loc), ((3 : Int32).toInt - ua.toInt).toNat < n1 → ¬ ua < 0 → (∀ j, j < 12 → sp9 j = sp j) → (∀ j, j < 4 → dy9 j = dy j) → WB g (aw N ad sz) s.heap N ad (cf g ad x sp9 dy9 la kn re) H locs → ∀ ls : Array Slot, lv_has ls 7 [(6, .int ua), (4, .long da), (0, .ref (ad 0)), (1, .long b1), (3, .ref (ad (4 + i2)))] → W p l e (rm 4 0 0) s m args below meth c H locs 0 0 (MQ below (va_Ql (fun r (u : WS) => (fun r ad' f' => ad = ad' ∧ ∃ sp' dy' : Nat → TR, (∀ j, j < 12 → sp' j = sp j) ∧ (∀ j, j < 4 → dy' j = dy j) ∧ cf g ad x sp' dy' la kn re = f') r u.1 u.2) (fun u t => PO g N u.1 u.2 (aw N ad sz) t) (aw N ad sz)) args s (rm 4 0 0).cells (rm 4 0 0).slots (aw N ad sz)) (F0 m 6 ls []) := by
    intro n1
    induction n1 with
    | zero => intro ua da sp9 dy9 H locs hn; exact absurd hn (Nat.not_lt_zero _)
    | succ n1 ih1 =>
      intro ua da sp9 dy9 H locs hn1 hzua hksp1 hkdy1 B ls hl
      refine lv_iload hx hb dX2_digestCard_6 (lv_at hl 0 rfl) ?_
      refine lv_iconst (v := 3) hx hb dX2_digestCard_8 (by decide) ?_
      refine lv_icmp_ge (tgt := 32) hx hb dX2_digestCard_9 (by decide) (fun c2 => ?_) (fun c2 => ?_)
      · refine lv_lload hx hb dX2_digestCard_32 (lv_at hl 1 rfl) ?_
        refine lv_aload_n hx hb dX2_digestCard_34 rfl (lv_at hl 4 rfl) ?_
        refine k_l (k := 0) (n := 0) hA B (u_VN (rest := [.long da]) X (c_X1_allMonths l g N ad x sp9 dy9 la kn re hN i2 hi2 H.size) mw_X1_allMonths md_X1_allMonths rfl lk_X2_108 ⟨Nat.le_of_ble_eq_true rfl, Nat.le_of_ble_eq_true rfl⟩ hA hK hT B (pl_sp hN hi2) (cf_sp hi2) rfl rfl hl.1 rfl (Nat.le_of_ble_eq_true rfl) dX2_digestCard_35 ⟨Nat.le_of_ble_eq_true rfl, Nat.le_of_ble_eq_true rfl⟩) (Nat.le_of_ble_eq_true rfl) (Nat.le_of_ble_eq_true rfl) (fun r ad' f' H locs hw B => ?_)
        obtain ⟨rfl, rfl, rfl⟩ := hw
        generalize (v_X1_allMonths sp9 i2) = t3
        refine k_l (k := 0) (n := 0) hA B (u_S (rest := []) X (c_X2_digestNext l g N ad x sp9 dy9 la kn re hN da t3 H.size) mw_X2_digestNext md_X2_digestNext rfl lk_X2_213 ⟨Nat.le_of_ble_eq_true rfl, Nat.le_of_ble_eq_true rfl⟩ hA hK hT B hl.1 rfl (Nat.le_of_ble_eq_true rfl) dX2_digestCard_38 ⟨Nat.le_of_ble_eq_true rfl, Nat.le_of_ble_eq_true rfl⟩) (Nat.le_of_ble_eq_true rfl) (Nat.le_of_ble_eq_true rfl) (fun r ad' f' H locs hw B => ?_)
        obtain ⟨rfl, rfl, rfl⟩ := hw
        generalize (v_X2_digestNext da t3) = t4
        refine lv_lstore (lv' := [(4, .long t4), (6, .int ua), (0, .ref (ad 0)), (1, .long b1), (3, .ref (ad (4 + i2)))]) hx hb dX2_digestCard_41 hl (by decide) rfl (fun ls hl => ?_)
        refine lv_lload hx hb dX2_digestCard_43 (lv_at hl 0 rfl) ?_
        refine lv_aload_n hx hb dX2_digestCard_45 rfl (lv_at hl 4 rfl) ?_
        refine k_i (k := 0) (n := 0) hA B (u_VN (rest := [.long t4]) X (c_X1_isNothing l g N ad x sp9 dy9 la kn re hN i2 hi2 H.size) mw_X1_isNothing md_X1_isNothing rfl lk_X2_116 ⟨Nat.le_of_ble_eq_true rfl, Nat.le_of_ble_eq_true rfl⟩ hA hK hT B (pl_sp hN hi2) (cf_sp hi2) rfl rfl hl.1 rfl (Nat.le_of_ble_eq_true rfl) dX2_digestCard_46 ⟨Nat.le_of_ble_eq_true rfl, Nat.le_of_ble_eq_true rfl⟩) (Nat.le_of_ble_eq_true rfl) (Nat.le_of_ble_eq_true rfl) (fun r ad' f' H locs hw B => ?_)
        obtain ⟨rfl, rfl, rfl⟩ := hw
        generalize (v_X1_isNothing sp9 i2) = t5
        refine lv_if_eq (tgt := 56) hx hb dX2_digestCard_49 (by decide) (fun c6 => ?_) (fun c6 => ?_)
        · refine lv_lconst (v := 0) hx hb dX2_digestCard_56 (by decide) ?_
          refine k_l (k := 0) (n := 0) hA B (u_S (rest := []) X (c_X2_digestNext l g N ad x sp9 dy9 la kn re hN t4 0 H.size) mw_X2_digestNext md_X2_digestNext rfl lk_X2_213 ⟨Nat.le_of_ble_eq_true rfl, Nat.le_of_ble_eq_true rfl⟩ hA hK hT B hl.1 rfl (Nat.le_of_ble_eq_true rfl) dX2_digestCard_57 ⟨Nat.le_of_ble_eq_true rfl, Nat.le_of_ble_eq_true rfl⟩) (Nat.le_of_ble_eq_true rfl) (Nat.le_of_ble_eq_true rfl) (fun r ad' f' H locs hw B => ?_)
          obtain ⟨rfl, rfl, rfl⟩ := hw
          generalize (v_X2_digestNext t4 0) = t7
          refine lv_lstore (lv' := [(4, .long t7), (6, .int ua), (0, .ref (ad 0)), (1, .long b1), (3, .ref (ad (4 + i2)))]) hx hb dX2_digestCard_60 hl (by decide) rfl (fun ls hl => ?_)
          refine lv_lload hx hb dX2_digestCard_62 (lv_at hl 0 rfl) ?_
          refine lv_aload_n hx hb dX2_digestCard_64 rfl (lv_at hl 4 rfl) ?_
          refine k_i (k := 0) (n := 0) hA B (u_VN (rest := [.long t7]) X (c_X1_isBelowZero l g N ad x sp9 dy9 la kn re hN i2 hi2 H.size) mw_X1_isBelowZero md_X1_isBelowZero rfl lk_X2_120 ⟨Nat.le_of_ble_eq_true rfl, Nat.le_of_ble_eq_true rfl⟩ hA hK hT B (pl_sp hN hi2) (cf_sp hi2) rfl rfl hl.1 rfl (Nat.le_of_ble_eq_true rfl) dX2_digestCard_65 ⟨Nat.le_of_ble_eq_true rfl, Nat.le_of_ble_eq_true rfl⟩) (Nat.le_of_ble_eq_true rfl) (Nat.le_of_ble_eq_true rfl) (fun r ad' f' H locs hw B => ?_)
          obtain ⟨rfl, rfl, rfl⟩ := hw
          generalize (v_X1_isBelowZero sp9 i2) = t8
          refine lv_if_eq (tgt := 75) hx hb dX2_digestCard_68 (by decide) (fun c9 => ?_) (fun c9 => ?_)
          · refine lv_lconst (v := 0) hx hb dX2_digestCard_75 (by decide) ?_
            refine k_l (k := 0) (n := 0) hA B (u_S (rest := []) X (c_X2_digestNext l g N ad x sp9 dy9 la kn re hN t7 0 H.size) mw_X2_digestNext md_X2_digestNext rfl lk_X2_213 ⟨Nat.le_of_ble_eq_true rfl, Nat.le_of_ble_eq_true rfl⟩ hA hK hT B hl.1 rfl (Nat.le_of_ble_eq_true rfl) dX2_digestCard_76 ⟨Nat.le_of_ble_eq_true rfl, Nat.le_of_ble_eq_true rfl⟩) (Nat.le_of_ble_eq_true rfl) (Nat.le_of_ble_eq_true rfl) (fun r ad' f' H locs hw B => ?_)
            obtain ⟨rfl, rfl, rfl⟩ := hw
            generalize (v_X2_digestNext t7 0) = t10
            refine lv_lstore (lv' := [(4, .long t10), (6, .int ua), (0, .ref (ad 0)), (1, .long b1), (3, .ref (ad (4 + i2)))]) hx hb dX2_digestCard_79 hl (by decide) rfl (fun ls hl => ?_)
            refine lv_lload hx hb dX2_digestCard_81 (lv_at hl 0 rfl) ?_
            refine lv_aload_n hx hb dX2_digestCard_83 rfl (lv_at hl 4 rfl) ?_
            refine k_i (k := 0) (n := 0) hA B (u_VN (rest := [.long t10]) X (c_X1_signs l g N ad x sp9 dy9 la kn re hN i2 hi2 H.size) mw_X1_signs md_X1_signs rfl lk_X2_210 ⟨Nat.le_of_ble_eq_true rfl, Nat.le_of_ble_eq_true rfl⟩ hA hK hT B (pl_sp hN hi2) (cf_sp hi2) rfl rfl hl.1 rfl (Nat.le_of_ble_eq_true rfl) dX2_digestCard_84 ⟨Nat.le_of_ble_eq_true rfl, Nat.le_of_ble_eq_true rfl⟩) (Nat.le_of_ble_eq_true rfl) (Nat.le_of_ble_eq_true rfl) (fun r ad' f' H locs hw B => ?_)
            obtain ⟨rfl, rfl, rfl⟩ := hw
            generalize (v_X1_signs sp9 i2) = t11
            refine lv_i2l (v := t11.toInt64) hx hb dX2_digestCard_87 rfl ?_
            refine k_l (k := 0) (n := 0) hA B (u_S (rest := []) X (c_X2_digestNext l g N ad x sp9 dy9 la kn re hN t10 t11.toInt64 H.size) mw_X2_digestNext md_X2_digestNext rfl lk_X2_213 ⟨Nat.le_of_ble_eq_true rfl, Nat.le_of_ble_eq_true rfl⟩ hA hK hT B hl.1 rfl (Nat.le_of_ble_eq_true rfl) dX2_digestCard_88 ⟨Nat.le_of_ble_eq_true rfl, Nat.le_of_ble_eq_true rfl⟩) (Nat.le_of_ble_eq_true rfl) (Nat.le_of_ble_eq_true rfl) (fun r ad' f' H locs hw B => ?_)
            obtain ⟨rfl, rfl, rfl⟩ := hw
            generalize (v_X2_digestNext t10 t11.toInt64) = t12
            refine lv_lstore (lv' := [(4, .long t12), (6, .int ua), (0, .ref (ad 0)), (1, .long b1), (3, .ref (ad (4 + i2)))]) hx hb dX2_digestCard_91 hl (by decide) rfl (fun ls hl => ?_)
            refine lv_lload hx hb dX2_digestCard_93 (lv_at hl 0 rfl) ?_
            refine lv_aload_n hx hb dX2_digestCard_95 rfl (lv_at hl 2 rfl) ?_
            refine lv_aload_n hx hb dX2_digestCard_96 rfl (lv_at hl 2 rfl) ?_
            refine g_get (q := 0) (k := 6) X hK B rfl in_X2 (pl_c hN 0 (by decide)) cf_0 (by decide) lk_X2_25 rfl rfl dX2_digestCard_97 ?_
            refine lv_aload_n hx hb dX2_digestCard_100 rfl (lv_at hl 4 rfl) ?_
            refine k_i (k := 0) (n := 0) hA B (u_VN (rest := [.ref (ad 0), .long t12]) X (c_X1_putTidy l g N ad x sp9 dy9 la kn re hN 12 (by decide) i2 hi2 H.size) mw_X1_putTidy md_X1_putTidy rfl lk_X2_88 ⟨Nat.le_of_ble_eq_true rfl, Nat.le_of_ble_eq_true rfl⟩ hA hK hT B (pl_sp hN (by decide)) (cf_sp (by decide)) rfl rfl hl.1 rfl (Nat.le_of_ble_eq_true rfl) dX2_digestCard_101 ⟨Nat.le_of_ble_eq_true rfl, Nat.le_of_ble_eq_true rfl⟩) (Nat.le_of_ble_eq_true rfl) (Nat.le_of_ble_eq_true rfl) (fun r ad' f' H locs hw B => ?_)
            obtain ⟨rfl, rfl, rfl⟩ := hw
            have k13 : ∀ j, j < 12 → (v_X1_putTidy sp9 12 i2).2 j = sp j := fun j hj => (kp_X1_putTidy_sp (by omega)).trans (hksp1 j hj)
            generalize (v_X1_putTidy sp9 12 i2) = t13 at k13 B ⊢
            refine k_i (k := 0) (n := 0) hA B (u_V (rest := [.long t12]) X (c_X2_resultSigns l g N ad x t13.2 dy9 la kn re hN t13.1 H.size) mw_X2_resultSigns md_X2_resultSigns rfl lk_X2_253 ⟨Nat.le_of_ble_eq_true rfl, Nat.le_of_ble_eq_true rfl⟩ hA hK hT B (pl_c hN 0 (by decide)) cf_0 rfl rfl hl.1 rfl (Nat.le_of_ble_eq_true rfl) dX2_digestCard_104 ⟨Nat.le_of_ble_eq_true rfl, Nat.le_of_ble_eq_true rfl⟩) (Nat.le_of_ble_eq_true rfl) (Nat.le_of_ble_eq_true rfl) (fun r ad' f' H locs hw B => ?_)
            obtain ⟨rfl, rfl, rfl⟩ := hw
            generalize (v_X2_resultSigns t13.2 t13.1) = t14
            refine lv_i2l (v := t14.toInt64) hx hb dX2_digestCard_107 rfl ?_
            refine k_l (k := 0) (n := 0) hA B (u_S (rest := []) X (c_X2_digestNext l g N ad x t13.2 dy9 la kn re hN t12 t14.toInt64 H.size) mw_X2_digestNext md_X2_digestNext rfl lk_X2_213 ⟨Nat.le_of_ble_eq_true rfl, Nat.le_of_ble_eq_true rfl⟩ hA hK hT B hl.1 rfl (Nat.le_of_ble_eq_true rfl) dX2_digestCard_108 ⟨Nat.le_of_ble_eq_true rfl, Nat.le_of_ble_eq_true rfl⟩) (Nat.le_of_ble_eq_true rfl) (Nat.le_of_ble_eq_true rfl) (fun r ad' f' H locs hw B => ?_)
            obtain ⟨rfl, rfl, rfl⟩ := hw
            generalize (v_X2_digestNext t12 t14.toInt64) = t15
            refine lv_lstore (lv' := [(4, .long t15), (6, .int ua), (0, .ref (ad 0)), (1, .long b1), (3, .ref (ad (4 + i2)))]) hx hb dX2_digestCard_111 hl (by decide) rfl (fun ls hl => ?_)
            refine lv_lload hx hb dX2_digestCard_113 (lv_at hl 0 rfl) ?_
            refine lv_aload_n hx hb dX2_digestCard_115 rfl (lv_at hl 2 rfl) ?_
            refine lv_aload_n hx hb dX2_digestCard_116 rfl (lv_at hl 2 rfl) ?_
            refine g_get (q := 0) (k := 6) X hK B rfl in_X2 (pl_c hN 0 (by decide)) cf_0 (by decide) lk_X2_25 rfl rfl dX2_digestCard_117 ?_
            refine lv_aload_n hx hb dX2_digestCard_120 rfl (lv_at hl 4 rfl) ?_
            refine k_i (k := 0) (n := 0) hA B (u_VN (rest := [.ref (ad 0), .long t15]) X (c_X1_putOpposite l g N ad x t13.2 dy9 la kn re hN 12 (by decide) i2 hi2 H.size) mw_X1_putOpposite md_X1_putOpposite rfl lk_X2_84 ⟨Nat.le_of_ble_eq_true rfl, Nat.le_of_ble_eq_true rfl⟩ hA hK hT B (pl_sp hN (by decide)) (cf_sp (by decide)) rfl rfl hl.1 rfl (Nat.le_of_ble_eq_true rfl) dX2_digestCard_121 ⟨Nat.le_of_ble_eq_true rfl, Nat.le_of_ble_eq_true rfl⟩) (Nat.le_of_ble_eq_true rfl) (Nat.le_of_ble_eq_true rfl) (fun r ad' f' H locs hw B => ?_)
            obtain ⟨rfl, rfl, rfl⟩ := hw
            have k16 : ∀ j, j < 12 → (v_X1_putOpposite t13.2 12 i2).2 j = sp j := fun j hj => (kp_X1_putOpposite_sp (by omega)).trans (k13 j hj)
            generalize (v_X1_putOpposite t13.2 12 i2) = t16 at k16 B ⊢
            refine k_i (k := 0) (n := 0) hA B (u_V (rest := [.long t15]) X (c_X2_resultSigns l g N ad x t16.2 dy9 la kn re hN t16.1 H.size) mw_X2_resultSigns md_X2_resultSigns rfl lk_X2_253 ⟨Nat.le_of_ble_eq_true rfl, Nat.le_of_ble_eq_true rfl⟩ hA hK hT B (pl_c hN 0 (by decide)) cf_0 rfl rfl hl.1 rfl (Nat.le_of_ble_eq_true rfl) dX2_digestCard_124 ⟨Nat.le_of_ble_eq_true rfl, Nat.le_of_ble_eq_true rfl⟩) (Nat.le_of_ble_eq_true rfl) (Nat.le_of_ble_eq_true rfl) (fun r ad' f' H locs hw B => ?_)
            obtain ⟨rfl, rfl, rfl⟩ := hw
            generalize (v_X2_resultSigns t16.2 t16.1) = t17
            refine lv_i2l (v := t17.toInt64) hx hb dX2_digestCard_127 rfl ?_
            refine k_l (k := 0) (n := 0) hA B (u_S (rest := []) X (c_X2_digestNext l g N ad x t16.2 dy9 la kn re hN t15 t17.toInt64 H.size) mw_X2_digestNext md_X2_digestNext rfl lk_X2_213 ⟨Nat.le_of_ble_eq_true rfl, Nat.le_of_ble_eq_true rfl⟩ hA hK hT B hl.1 rfl (Nat.le_of_ble_eq_true rfl) dX2_digestCard_128 ⟨Nat.le_of_ble_eq_true rfl, Nat.le_of_ble_eq_true rfl⟩) (Nat.le_of_ble_eq_true rfl) (Nat.le_of_ble_eq_true rfl) (fun r ad' f' H locs hw B => ?_)
            obtain ⟨rfl, rfl, rfl⟩ := hw
            generalize (v_X2_digestNext t15 t17.toInt64) = t18
            exact rt_l X hr (ad, (cf g ad x t16.2 dy9 la kn re)) B (PO_of B) ⟨rfl, _, _, k16, hkdy1, rfl⟩ (Nat.le_of_ble_eq_true rfl) (Nat.le_of_ble_eq_true rfl) dX2_digestCard_131
          · refine lv_lconst (v := 1) hx hb dX2_digestCard_71 (by decide) ?_
            refine lv_goto (tgt := 76) hx hb dX2_digestCard_72 (by decide) ?_
            refine k_l (k := 0) (n := 0) hA B (u_S (rest := []) X (c_X2_digestNext l g N ad x sp9 dy9 la kn re hN t7 1 H.size) mw_X2_digestNext md_X2_digestNext rfl lk_X2_213 ⟨Nat.le_of_ble_eq_true rfl, Nat.le_of_ble_eq_true rfl⟩ hA hK hT B hl.1 rfl (Nat.le_of_ble_eq_true rfl) dX2_digestCard_76 ⟨Nat.le_of_ble_eq_true rfl, Nat.le_of_ble_eq_true rfl⟩) (Nat.le_of_ble_eq_true rfl) (Nat.le_of_ble_eq_true rfl) (fun r ad' f' H locs hw B => ?_)
            obtain ⟨rfl, rfl, rfl⟩ := hw
            generalize (v_X2_digestNext t7 1) = t19
            refine lv_lstore (lv' := [(4, .long t19), (6, .int ua), (0, .ref (ad 0)), (1, .long b1), (3, .ref (ad (4 + i2)))]) hx hb dX2_digestCard_79 hl (by decide) rfl (fun ls hl => ?_)
            refine lv_lload hx hb dX2_digestCard_81 (lv_at hl 0 rfl) ?_
            refine lv_aload_n hx hb dX2_digestCard_83 rfl (lv_at hl 4 rfl) ?_
            refine k_i (k := 0) (n := 0) hA B (u_VN (rest := [.long t19]) X (c_X1_signs l g N ad x sp9 dy9 la kn re hN i2 hi2 H.size) mw_X1_signs md_X1_signs rfl lk_X2_210 ⟨Nat.le_of_ble_eq_true rfl, Nat.le_of_ble_eq_true rfl⟩ hA hK hT B (pl_sp hN hi2) (cf_sp hi2) rfl rfl hl.1 rfl (Nat.le_of_ble_eq_true rfl) dX2_digestCard_84 ⟨Nat.le_of_ble_eq_true rfl, Nat.le_of_ble_eq_true rfl⟩) (Nat.le_of_ble_eq_true rfl) (Nat.le_of_ble_eq_true rfl) (fun r ad' f' H locs hw B => ?_)
            obtain ⟨rfl, rfl, rfl⟩ := hw
            generalize (v_X1_signs sp9 i2) = t20
            refine lv_i2l (v := t20.toInt64) hx hb dX2_digestCard_87 rfl ?_
            refine k_l (k := 0) (n := 0) hA B (u_S (rest := []) X (c_X2_digestNext l g N ad x sp9 dy9 la kn re hN t19 t20.toInt64 H.size) mw_X2_digestNext md_X2_digestNext rfl lk_X2_213 ⟨Nat.le_of_ble_eq_true rfl, Nat.le_of_ble_eq_true rfl⟩ hA hK hT B hl.1 rfl (Nat.le_of_ble_eq_true rfl) dX2_digestCard_88 ⟨Nat.le_of_ble_eq_true rfl, Nat.le_of_ble_eq_true rfl⟩) (Nat.le_of_ble_eq_true rfl) (Nat.le_of_ble_eq_true rfl) (fun r ad' f' H locs hw B => ?_)
            obtain ⟨rfl, rfl, rfl⟩ := hw
            generalize (v_X2_digestNext t19 t20.toInt64) = t21
            refine lv_lstore (lv' := [(4, .long t21), (6, .int ua), (0, .ref (ad 0)), (1, .long b1), (3, .ref (ad (4 + i2)))]) hx hb dX2_digestCard_91 hl (by decide) rfl (fun ls hl => ?_)
            refine lv_lload hx hb dX2_digestCard_93 (lv_at hl 0 rfl) ?_
            refine lv_aload_n hx hb dX2_digestCard_95 rfl (lv_at hl 2 rfl) ?_
            refine lv_aload_n hx hb dX2_digestCard_96 rfl (lv_at hl 2 rfl) ?_
            refine g_get (q := 0) (k := 6) X hK B rfl in_X2 (pl_c hN 0 (by decide)) cf_0 (by decide) lk_X2_25 rfl rfl dX2_digestCard_97 ?_
            refine lv_aload_n hx hb dX2_digestCard_100 rfl (lv_at hl 4 rfl) ?_
            refine k_i (k := 0) (n := 0) hA B (u_VN (rest := [.ref (ad 0), .long t21]) X (c_X1_putTidy l g N ad x sp9 dy9 la kn re hN 12 (by decide) i2 hi2 H.size) mw_X1_putTidy md_X1_putTidy rfl lk_X2_88 ⟨Nat.le_of_ble_eq_true rfl, Nat.le_of_ble_eq_true rfl⟩ hA hK hT B (pl_sp hN (by decide)) (cf_sp (by decide)) rfl rfl hl.1 rfl (Nat.le_of_ble_eq_true rfl) dX2_digestCard_101 ⟨Nat.le_of_ble_eq_true rfl, Nat.le_of_ble_eq_true rfl⟩) (Nat.le_of_ble_eq_true rfl) (Nat.le_of_ble_eq_true rfl) (fun r ad' f' H locs hw B => ?_)
            obtain ⟨rfl, rfl, rfl⟩ := hw
            have k22 : ∀ j, j < 12 → (v_X1_putTidy sp9 12 i2).2 j = sp j := fun j hj => (kp_X1_putTidy_sp (by omega)).trans (hksp1 j hj)
            generalize (v_X1_putTidy sp9 12 i2) = t22 at k22 B ⊢
            refine k_i (k := 0) (n := 0) hA B (u_V (rest := [.long t21]) X (c_X2_resultSigns l g N ad x t22.2 dy9 la kn re hN t22.1 H.size) mw_X2_resultSigns md_X2_resultSigns rfl lk_X2_253 ⟨Nat.le_of_ble_eq_true rfl, Nat.le_of_ble_eq_true rfl⟩ hA hK hT B (pl_c hN 0 (by decide)) cf_0 rfl rfl hl.1 rfl (Nat.le_of_ble_eq_true rfl) dX2_digestCard_104 ⟨Nat.le_of_ble_eq_true rfl, Nat.le_of_ble_eq_true rfl⟩) (Nat.le_of_ble_eq_true rfl) (Nat.le_of_ble_eq_true rfl) (fun r ad' f' H locs hw B => ?_)
            obtain ⟨rfl, rfl, rfl⟩ := hw
            generalize (v_X2_resultSigns t22.2 t22.1) = t23
            refine lv_i2l (v := t23.toInt64) hx hb dX2_digestCard_107 rfl ?_
            refine k_l (k := 0) (n := 0) hA B (u_S (rest := []) X (c_X2_digestNext l g N ad x t22.2 dy9 la kn re hN t21 t23.toInt64 H.size) mw_X2_digestNext md_X2_digestNext rfl lk_X2_213 ⟨Nat.le_of_ble_eq_true rfl, Nat.le_of_ble_eq_true rfl⟩ hA hK hT B hl.1 rfl (Nat.le_of_ble_eq_true rfl) dX2_digestCard_108 ⟨Nat.le_of_ble_eq_true rfl, Nat.le_of_ble_eq_true rfl⟩) (Nat.le_of_ble_eq_true rfl) (Nat.le_of_ble_eq_true rfl) (fun r ad' f' H locs hw B => ?_)
            obtain ⟨rfl, rfl, rfl⟩ := hw
            generalize (v_X2_digestNext t21 t23.toInt64) = t24
            refine lv_lstore (lv' := [(4, .long t24), (6, .int ua), (0, .ref (ad 0)), (1, .long b1), (3, .ref (ad (4 + i2)))]) hx hb dX2_digestCard_111 hl (by decide) rfl (fun ls hl => ?_)
            refine lv_lload hx hb dX2_digestCard_113 (lv_at hl 0 rfl) ?_
            refine lv_aload_n hx hb dX2_digestCard_115 rfl (lv_at hl 2 rfl) ?_
            refine lv_aload_n hx hb dX2_digestCard_116 rfl (lv_at hl 2 rfl) ?_
            refine g_get (q := 0) (k := 6) X hK B rfl in_X2 (pl_c hN 0 (by decide)) cf_0 (by decide) lk_X2_25 rfl rfl dX2_digestCard_117 ?_
            refine lv_aload_n hx hb dX2_digestCard_120 rfl (lv_at hl 4 rfl) ?_
            refine k_i (k := 0) (n := 0) hA B (u_VN (rest := [.ref (ad 0), .long t24]) X (c_X1_putOpposite l g N ad x t22.2 dy9 la kn re hN 12 (by decide) i2 hi2 H.size) mw_X1_putOpposite md_X1_putOpposite rfl lk_X2_84 ⟨Nat.le_of_ble_eq_true rfl, Nat.le_of_ble_eq_true rfl⟩ hA hK hT B (pl_sp hN (by decide)) (cf_sp (by decide)) rfl rfl hl.1 rfl (Nat.le_of_ble_eq_true rfl) dX2_digestCard_121 ⟨Nat.le_of_ble_eq_true rfl, Nat.le_of_ble_eq_true rfl⟩) (Nat.le_of_ble_eq_true rfl) (Nat.le_of_ble_eq_true rfl) (fun r ad' f' H locs hw B => ?_)
            obtain ⟨rfl, rfl, rfl⟩ := hw
            have k25 : ∀ j, j < 12 → (v_X1_putOpposite t22.2 12 i2).2 j = sp j := fun j hj => (kp_X1_putOpposite_sp (by omega)).trans (k22 j hj)
            generalize (v_X1_putOpposite t22.2 12 i2) = t25 at k25 B ⊢
            refine k_i (k := 0) (n := 0) hA B (u_V (rest := [.long t24]) X (c_X2_resultSigns l g N ad x t25.2 dy9 la kn re hN t25.1 H.size) mw_X2_resultSigns md_X2_resultSigns rfl lk_X2_253 ⟨Nat.le_of_ble_eq_true rfl, Nat.le_of_ble_eq_true rfl⟩ hA hK hT B (pl_c hN 0 (by decide)) cf_0 rfl rfl hl.1 rfl (Nat.le_of_ble_eq_true rfl) dX2_digestCard_124 ⟨Nat.le_of_ble_eq_true rfl, Nat.le_of_ble_eq_true rfl⟩) (Nat.le_of_ble_eq_true rfl) (Nat.le_of_ble_eq_true rfl) (fun r ad' f' H locs hw B => ?_)
            obtain ⟨rfl, rfl, rfl⟩ := hw
            generalize (v_X2_resultSigns t25.2 t25.1) = t26
            refine lv_i2l (v := t26.toInt64) hx hb dX2_digestCard_127 rfl ?_
            refine k_l (k := 0) (n := 0) hA B (u_S (rest := []) X (c_X2_digestNext l g N ad x t25.2 dy9 la kn re hN t24 t26.toInt64 H.size) mw_X2_digestNext md_X2_digestNext rfl lk_X2_213 ⟨Nat.le_of_ble_eq_true rfl, Nat.le_of_ble_eq_true rfl⟩ hA hK hT B hl.1 rfl (Nat.le_of_ble_eq_true rfl) dX2_digestCard_128 ⟨Nat.le_of_ble_eq_true rfl, Nat.le_of_ble_eq_true rfl⟩) (Nat.le_of_ble_eq_true rfl) (Nat.le_of_ble_eq_true rfl) (fun r ad' f' H locs hw B => ?_)
            obtain ⟨rfl, rfl, rfl⟩ := hw
            generalize (v_X2_digestNext t24 t26.toInt64) = t27
            exact rt_l X hr (ad, (cf g ad x t25.2 dy9 la kn re)) B (PO_of B) ⟨rfl, _, _, k25, hkdy1, rfl⟩ (Nat.le_of_ble_eq_true rfl) (Nat.le_of_ble_eq_true rfl) dX2_digestCard_131
        · refine lv_lconst (v := 1) hx hb dX2_digestCard_52 (by decide) ?_
          refine lv_goto (tgt := 57) hx hb dX2_digestCard_53 (by decide) ?_
          refine k_l (k := 0) (n := 0) hA B (u_S (rest := []) X (c_X2_digestNext l g N ad x sp9 dy9 la kn re hN t4 1 H.size) mw_X2_digestNext md_X2_digestNext rfl lk_X2_213 ⟨Nat.le_of_ble_eq_true rfl, Nat.le_of_ble_eq_true rfl⟩ hA hK hT B hl.1 rfl (Nat.le_of_ble_eq_true rfl) dX2_digestCard_57 ⟨Nat.le_of_ble_eq_true rfl, Nat.le_of_ble_eq_true rfl⟩) (Nat.le_of_ble_eq_true rfl) (Nat.le_of_ble_eq_true rfl) (fun r ad' f' H locs hw B => ?_)
          obtain ⟨rfl, rfl, rfl⟩ := hw
          generalize (v_X2_digestNext t4 1) = t28
          refine lv_lstore (lv' := [(4, .long t28), (6, .int ua), (0, .ref (ad 0)), (1, .long b1), (3, .ref (ad (4 + i2)))]) hx hb dX2_digestCard_60 hl (by decide) rfl (fun ls hl => ?_)
          refine lv_lload hx hb dX2_digestCard_62 (lv_at hl 0 rfl) ?_
          refine lv_aload_n hx hb dX2_digestCard_64 rfl (lv_at hl 4 rfl) ?_
          refine k_i (k := 0) (n := 0) hA B (u_VN (rest := [.long t28]) X (c_X1_isBelowZero l g N ad x sp9 dy9 la kn re hN i2 hi2 H.size) mw_X1_isBelowZero md_X1_isBelowZero rfl lk_X2_120 ⟨Nat.le_of_ble_eq_true rfl, Nat.le_of_ble_eq_true rfl⟩ hA hK hT B (pl_sp hN hi2) (cf_sp hi2) rfl rfl hl.1 rfl (Nat.le_of_ble_eq_true rfl) dX2_digestCard_65 ⟨Nat.le_of_ble_eq_true rfl, Nat.le_of_ble_eq_true rfl⟩) (Nat.le_of_ble_eq_true rfl) (Nat.le_of_ble_eq_true rfl) (fun r ad' f' H locs hw B => ?_)
          obtain ⟨rfl, rfl, rfl⟩ := hw
          generalize (v_X1_isBelowZero sp9 i2) = t29
          refine lv_if_eq (tgt := 75) hx hb dX2_digestCard_68 (by decide) (fun c30 => ?_) (fun c30 => ?_)
          · refine lv_lconst (v := 0) hx hb dX2_digestCard_75 (by decide) ?_
            refine k_l (k := 0) (n := 0) hA B (u_S (rest := []) X (c_X2_digestNext l g N ad x sp9 dy9 la kn re hN t28 0 H.size) mw_X2_digestNext md_X2_digestNext rfl lk_X2_213 ⟨Nat.le_of_ble_eq_true rfl, Nat.le_of_ble_eq_true rfl⟩ hA hK hT B hl.1 rfl (Nat.le_of_ble_eq_true rfl) dX2_digestCard_76 ⟨Nat.le_of_ble_eq_true rfl, Nat.le_of_ble_eq_true rfl⟩) (Nat.le_of_ble_eq_true rfl) (Nat.le_of_ble_eq_true rfl) (fun r ad' f' H locs hw B => ?_)
            obtain ⟨rfl, rfl, rfl⟩ := hw
            generalize (v_X2_digestNext t28 0) = t31
            refine lv_lstore (lv' := [(4, .long t31), (6, .int ua), (0, .ref (ad 0)), (1, .long b1), (3, .ref (ad (4 + i2)))]) hx hb dX2_digestCard_79 hl (by decide) rfl (fun ls hl => ?_)
            refine lv_lload hx hb dX2_digestCard_81 (lv_at hl 0 rfl) ?_
            refine lv_aload_n hx hb dX2_digestCard_83 rfl (lv_at hl 4 rfl) ?_
            refine k_i (k := 0) (n := 0) hA B (u_VN (rest := [.long t31]) X (c_X1_signs l g N ad x sp9 dy9 la kn re hN i2 hi2 H.size) mw_X1_signs md_X1_signs rfl lk_X2_210 ⟨Nat.le_of_ble_eq_true rfl, Nat.le_of_ble_eq_true rfl⟩ hA hK hT B (pl_sp hN hi2) (cf_sp hi2) rfl rfl hl.1 rfl (Nat.le_of_ble_eq_true rfl) dX2_digestCard_84 ⟨Nat.le_of_ble_eq_true rfl, Nat.le_of_ble_eq_true rfl⟩) (Nat.le_of_ble_eq_true rfl) (Nat.le_of_ble_eq_true rfl) (fun r ad' f' H locs hw B => ?_)
            obtain ⟨rfl, rfl, rfl⟩ := hw
            generalize (v_X1_signs sp9 i2) = t32
            refine lv_i2l (v := t32.toInt64) hx hb dX2_digestCard_87 rfl ?_
            refine k_l (k := 0) (n := 0) hA B (u_S (rest := []) X (c_X2_digestNext l g N ad x sp9 dy9 la kn re hN t31 t32.toInt64 H.size) mw_X2_digestNext md_X2_digestNext rfl lk_X2_213 ⟨Nat.le_of_ble_eq_true rfl, Nat.le_of_ble_eq_true rfl⟩ hA hK hT B hl.1 rfl (Nat.le_of_ble_eq_true rfl) dX2_digestCard_88 ⟨Nat.le_of_ble_eq_true rfl, Nat.le_of_ble_eq_true rfl⟩) (Nat.le_of_ble_eq_true rfl) (Nat.le_of_ble_eq_true rfl) (fun r ad' f' H locs hw B => ?_)
            obtain ⟨rfl, rfl, rfl⟩ := hw
            generalize (v_X2_digestNext t31 t32.toInt64) = t33
            refine lv_lstore (lv' := [(4, .long t33), (6, .int ua), (0, .ref (ad 0)), (1, .long b1), (3, .ref (ad (4 + i2)))]) hx hb dX2_digestCard_91 hl (by decide) rfl (fun ls hl => ?_)
            refine lv_lload hx hb dX2_digestCard_93 (lv_at hl 0 rfl) ?_
            refine lv_aload_n hx hb dX2_digestCard_95 rfl (lv_at hl 2 rfl) ?_
            refine lv_aload_n hx hb dX2_digestCard_96 rfl (lv_at hl 2 rfl) ?_
            refine g_get (q := 0) (k := 6) X hK B rfl in_X2 (pl_c hN 0 (by decide)) cf_0 (by decide) lk_X2_25 rfl rfl dX2_digestCard_97 ?_
            refine lv_aload_n hx hb dX2_digestCard_100 rfl (lv_at hl 4 rfl) ?_
            refine k_i (k := 0) (n := 0) hA B (u_VN (rest := [.ref (ad 0), .long t33]) X (c_X1_putTidy l g N ad x sp9 dy9 la kn re hN 12 (by decide) i2 hi2 H.size) mw_X1_putTidy md_X1_putTidy rfl lk_X2_88 ⟨Nat.le_of_ble_eq_true rfl, Nat.le_of_ble_eq_true rfl⟩ hA hK hT B (pl_sp hN (by decide)) (cf_sp (by decide)) rfl rfl hl.1 rfl (Nat.le_of_ble_eq_true rfl) dX2_digestCard_101 ⟨Nat.le_of_ble_eq_true rfl, Nat.le_of_ble_eq_true rfl⟩) (Nat.le_of_ble_eq_true rfl) (Nat.le_of_ble_eq_true rfl) (fun r ad' f' H locs hw B => ?_)
            obtain ⟨rfl, rfl, rfl⟩ := hw
            have k34 : ∀ j, j < 12 → (v_X1_putTidy sp9 12 i2).2 j = sp j := fun j hj => (kp_X1_putTidy_sp (by omega)).trans (hksp1 j hj)
            generalize (v_X1_putTidy sp9 12 i2) = t34 at k34 B ⊢
            refine k_i (k := 0) (n := 0) hA B (u_V (rest := [.long t33]) X (c_X2_resultSigns l g N ad x t34.2 dy9 la kn re hN t34.1 H.size) mw_X2_resultSigns md_X2_resultSigns rfl lk_X2_253 ⟨Nat.le_of_ble_eq_true rfl, Nat.le_of_ble_eq_true rfl⟩ hA hK hT B (pl_c hN 0 (by decide)) cf_0 rfl rfl hl.1 rfl (Nat.le_of_ble_eq_true rfl) dX2_digestCard_104 ⟨Nat.le_of_ble_eq_true rfl, Nat.le_of_ble_eq_true rfl⟩) (Nat.le_of_ble_eq_true rfl) (Nat.le_of_ble_eq_true rfl) (fun r ad' f' H locs hw B => ?_)
            obtain ⟨rfl, rfl, rfl⟩ := hw
            generalize (v_X2_resultSigns t34.2 t34.1) = t35
            refine lv_i2l (v := t35.toInt64) hx hb dX2_digestCard_107 rfl ?_
            refine k_l (k := 0) (n := 0) hA B (u_S (rest := []) X (c_X2_digestNext l g N ad x t34.2 dy9 la kn re hN t33 t35.toInt64 H.size) mw_X2_digestNext md_X2_digestNext rfl lk_X2_213 ⟨Nat.le_of_ble_eq_true rfl, Nat.le_of_ble_eq_true rfl⟩ hA hK hT B hl.1 rfl (Nat.le_of_ble_eq_true rfl) dX2_digestCard_108 ⟨Nat.le_of_ble_eq_true rfl, Nat.le_of_ble_eq_true rfl⟩) (Nat.le_of_ble_eq_true rfl) (Nat.le_of_ble_eq_true rfl) (fun r ad' f' H locs hw B => ?_)
            obtain ⟨rfl, rfl, rfl⟩ := hw
            generalize (v_X2_digestNext t33 t35.toInt64) = t36
            refine lv_lstore (lv' := [(4, .long t36), (6, .int ua), (0, .ref (ad 0)), (1, .long b1), (3, .ref (ad (4 + i2)))]) hx hb dX2_digestCard_111 hl (by decide) rfl (fun ls hl => ?_)
            refine lv_lload hx hb dX2_digestCard_113 (lv_at hl 0 rfl) ?_
            refine lv_aload_n hx hb dX2_digestCard_115 rfl (lv_at hl 2 rfl) ?_
            refine lv_aload_n hx hb dX2_digestCard_116 rfl (lv_at hl 2 rfl) ?_
            refine g_get (q := 0) (k := 6) X hK B rfl in_X2 (pl_c hN 0 (by decide)) cf_0 (by decide) lk_X2_25 rfl rfl dX2_digestCard_117 ?_
            refine lv_aload_n hx hb dX2_digestCard_120 rfl (lv_at hl 4 rfl) ?_
            refine k_i (k := 0) (n := 0) hA B (u_VN (rest := [.ref (ad 0), .long t36]) X (c_X1_putOpposite l g N ad x t34.2 dy9 la kn re hN 12 (by decide) i2 hi2 H.size) mw_X1_putOpposite md_X1_putOpposite rfl lk_X2_84 ⟨Nat.le_of_ble_eq_true rfl, Nat.le_of_ble_eq_true rfl⟩ hA hK hT B (pl_sp hN (by decide)) (cf_sp (by decide)) rfl rfl hl.1 rfl (Nat.le_of_ble_eq_true rfl) dX2_digestCard_121 ⟨Nat.le_of_ble_eq_true rfl, Nat.le_of_ble_eq_true rfl⟩) (Nat.le_of_ble_eq_true rfl) (Nat.le_of_ble_eq_true rfl) (fun r ad' f' H locs hw B => ?_)
            obtain ⟨rfl, rfl, rfl⟩ := hw
            have k37 : ∀ j, j < 12 → (v_X1_putOpposite t34.2 12 i2).2 j = sp j := fun j hj => (kp_X1_putOpposite_sp (by omega)).trans (k34 j hj)
            generalize (v_X1_putOpposite t34.2 12 i2) = t37 at k37 B ⊢
            refine k_i (k := 0) (n := 0) hA B (u_V (rest := [.long t36]) X (c_X2_resultSigns l g N ad x t37.2 dy9 la kn re hN t37.1 H.size) mw_X2_resultSigns md_X2_resultSigns rfl lk_X2_253 ⟨Nat.le_of_ble_eq_true rfl, Nat.le_of_ble_eq_true rfl⟩ hA hK hT B (pl_c hN 0 (by decide)) cf_0 rfl rfl hl.1 rfl (Nat.le_of_ble_eq_true rfl) dX2_digestCard_124 ⟨Nat.le_of_ble_eq_true rfl, Nat.le_of_ble_eq_true rfl⟩) (Nat.le_of_ble_eq_true rfl) (Nat.le_of_ble_eq_true rfl) (fun r ad' f' H locs hw B => ?_)
            obtain ⟨rfl, rfl, rfl⟩ := hw
            generalize (v_X2_resultSigns t37.2 t37.1) = t38
            refine lv_i2l (v := t38.toInt64) hx hb dX2_digestCard_127 rfl ?_
            refine k_l (k := 0) (n := 0) hA B (u_S (rest := []) X (c_X2_digestNext l g N ad x t37.2 dy9 la kn re hN t36 t38.toInt64 H.size) mw_X2_digestNext md_X2_digestNext rfl lk_X2_213 ⟨Nat.le_of_ble_eq_true rfl, Nat.le_of_ble_eq_true rfl⟩ hA hK hT B hl.1 rfl (Nat.le_of_ble_eq_true rfl) dX2_digestCard_128 ⟨Nat.le_of_ble_eq_true rfl, Nat.le_of_ble_eq_true rfl⟩) (Nat.le_of_ble_eq_true rfl) (Nat.le_of_ble_eq_true rfl) (fun r ad' f' H locs hw B => ?_)
            obtain ⟨rfl, rfl, rfl⟩ := hw
            generalize (v_X2_digestNext t36 t38.toInt64) = t39
            exact rt_l X hr (ad, (cf g ad x t37.2 dy9 la kn re)) B (PO_of B) ⟨rfl, _, _, k37, hkdy1, rfl⟩ (Nat.le_of_ble_eq_true rfl) (Nat.le_of_ble_eq_true rfl) dX2_digestCard_131
          · refine lv_lconst (v := 1) hx hb dX2_digestCard_71 (by decide) ?_
            refine lv_goto (tgt := 76) hx hb dX2_digestCard_72 (by decide) ?_
            refine k_l (k := 0) (n := 0) hA B (u_S (rest := []) X (c_X2_digestNext l g N ad x sp9 dy9 la kn re hN t28 1 H.size) mw_X2_digestNext md_X2_digestNext rfl lk_X2_213 ⟨Nat.le_of_ble_eq_true rfl, Nat.le_of_ble_eq_true rfl⟩ hA hK hT B hl.1 rfl (Nat.le_of_ble_eq_true rfl) dX2_digestCard_76 ⟨Nat.le_of_ble_eq_true rfl, Nat.le_of_ble_eq_true rfl⟩) (Nat.le_of_ble_eq_true rfl) (Nat.le_of_ble_eq_true rfl) (fun r ad' f' H locs hw B => ?_)
            obtain ⟨rfl, rfl, rfl⟩ := hw
            generalize (v_X2_digestNext t28 1) = t40
            refine lv_lstore (lv' := [(4, .long t40), (6, .int ua), (0, .ref (ad 0)), (1, .long b1), (3, .ref (ad (4 + i2)))]) hx hb dX2_digestCard_79 hl (by decide) rfl (fun ls hl => ?_)
            refine lv_lload hx hb dX2_digestCard_81 (lv_at hl 0 rfl) ?_
            refine lv_aload_n hx hb dX2_digestCard_83 rfl (lv_at hl 4 rfl) ?_
            refine k_i (k := 0) (n := 0) hA B (u_VN (rest := [.long t40]) X (c_X1_signs l g N ad x sp9 dy9 la kn re hN i2 hi2 H.size) mw_X1_signs md_X1_signs rfl lk_X2_210 ⟨Nat.le_of_ble_eq_true rfl, Nat.le_of_ble_eq_true rfl⟩ hA hK hT B (pl_sp hN hi2) (cf_sp hi2) rfl rfl hl.1 rfl (Nat.le_of_ble_eq_true rfl) dX2_digestCard_84 ⟨Nat.le_of_ble_eq_true rfl, Nat.le_of_ble_eq_true rfl⟩) (Nat.le_of_ble_eq_true rfl) (Nat.le_of_ble_eq_true rfl) (fun r ad' f' H locs hw B => ?_)
            obtain ⟨rfl, rfl, rfl⟩ := hw
            generalize (v_X1_signs sp9 i2) = t41
            refine lv_i2l (v := t41.toInt64) hx hb dX2_digestCard_87 rfl ?_
            refine k_l (k := 0) (n := 0) hA B (u_S (rest := []) X (c_X2_digestNext l g N ad x sp9 dy9 la kn re hN t40 t41.toInt64 H.size) mw_X2_digestNext md_X2_digestNext rfl lk_X2_213 ⟨Nat.le_of_ble_eq_true rfl, Nat.le_of_ble_eq_true rfl⟩ hA hK hT B hl.1 rfl (Nat.le_of_ble_eq_true rfl) dX2_digestCard_88 ⟨Nat.le_of_ble_eq_true rfl, Nat.le_of_ble_eq_true rfl⟩) (Nat.le_of_ble_eq_true rfl) (Nat.le_of_ble_eq_true rfl) (fun r ad' f' H locs hw B => ?_)
            obtain ⟨rfl, rfl, rfl⟩ := hw
            generalize (v_X2_digestNext t40 t41.toInt64) = t42
            refine lv_lstore (lv' := [(4, .long t42), (6, .int ua), (0, .ref (ad 0)), (1, .long b1), (3, .ref (ad (4 + i2)))]) hx hb dX2_digestCard_91 hl (by decide) rfl (fun ls hl => ?_)
            refine lv_lload hx hb dX2_digestCard_93 (lv_at hl 0 rfl) ?_
            refine lv_aload_n hx hb dX2_digestCard_95 rfl (lv_at hl 2 rfl) ?_
            refine lv_aload_n hx hb dX2_digestCard_96 rfl (lv_at hl 2 rfl) ?_
            refine g_get (q := 0) (k := 6) X hK B rfl in_X2 (pl_c hN 0 (by decide)) cf_0 (by decide) lk_X2_25 rfl rfl dX2_digestCard_97 ?_
            refine lv_aload_n hx hb dX2_digestCard_100 rfl (lv_at hl 4 rfl) ?_
            refine k_i (k := 0) (n := 0) hA B (u_VN (rest := [.ref (ad 0), .long t42]) X (c_X1_putTidy l g N ad x sp9 dy9 la kn re hN 12 (by decide) i2 hi2 H.size) mw_X1_putTidy md_X1_putTidy rfl lk_X2_88 ⟨Nat.le_of_ble_eq_true rfl, Nat.le_of_ble_eq_true rfl⟩ hA hK hT B (pl_sp hN (by decide)) (cf_sp (by decide)) rfl rfl hl.1 rfl (Nat.le_of_ble_eq_true rfl) dX2_digestCard_101 ⟨Nat.le_of_ble_eq_true rfl, Nat.le_of_ble_eq_true rfl⟩) (Nat.le_of_ble_eq_true rfl) (Nat.le_of_ble_eq_true rfl) (fun r ad' f' H locs hw B => ?_)
            obtain ⟨rfl, rfl, rfl⟩ := hw
            have k43 : ∀ j, j < 12 → (v_X1_putTidy sp9 12 i2).2 j = sp j := fun j hj => (kp_X1_putTidy_sp (by omega)).trans (hksp1 j hj)
            generalize (v_X1_putTidy sp9 12 i2) = t43 at k43 B ⊢
            refine k_i (k := 0) (n := 0) hA B (u_V (rest := [.long t42]) X (c_X2_resultSigns l g N ad x t43.2 dy9 la kn re hN t43.1 H.size) mw_X2_resultSigns md_X2_resultSigns rfl lk_X2_253 ⟨Nat.le_of_ble_eq_true rfl, Nat.le_of_ble_eq_true rfl⟩ hA hK hT B (pl_c hN 0 (by decide)) cf_0 rfl rfl hl.1 rfl (Nat.le_of_ble_eq_true rfl) dX2_digestCard_104 ⟨Nat.le_of_ble_eq_true rfl, Nat.le_of_ble_eq_true rfl⟩) (Nat.le_of_ble_eq_true rfl) (Nat.le_of_ble_eq_true rfl) (fun r ad' f' H locs hw B => ?_)
            obtain ⟨rfl, rfl, rfl⟩ := hw
            generalize (v_X2_resultSigns t43.2 t43.1) = t44
            refine lv_i2l (v := t44.toInt64) hx hb dX2_digestCard_107 rfl ?_
            refine k_l (k := 0) (n := 0) hA B (u_S (rest := []) X (c_X2_digestNext l g N ad x t43.2 dy9 la kn re hN t42 t44.toInt64 H.size) mw_X2_digestNext md_X2_digestNext rfl lk_X2_213 ⟨Nat.le_of_ble_eq_true rfl, Nat.le_of_ble_eq_true rfl⟩ hA hK hT B hl.1 rfl (Nat.le_of_ble_eq_true rfl) dX2_digestCard_108 ⟨Nat.le_of_ble_eq_true rfl, Nat.le_of_ble_eq_true rfl⟩) (Nat.le_of_ble_eq_true rfl) (Nat.le_of_ble_eq_true rfl) (fun r ad' f' H locs hw B => ?_)
            obtain ⟨rfl, rfl, rfl⟩ := hw
            generalize (v_X2_digestNext t42 t44.toInt64) = t45
            refine lv_lstore (lv' := [(4, .long t45), (6, .int ua), (0, .ref (ad 0)), (1, .long b1), (3, .ref (ad (4 + i2)))]) hx hb dX2_digestCard_111 hl (by decide) rfl (fun ls hl => ?_)
            refine lv_lload hx hb dX2_digestCard_113 (lv_at hl 0 rfl) ?_
            refine lv_aload_n hx hb dX2_digestCard_115 rfl (lv_at hl 2 rfl) ?_
            refine lv_aload_n hx hb dX2_digestCard_116 rfl (lv_at hl 2 rfl) ?_
            refine g_get (q := 0) (k := 6) X hK B rfl in_X2 (pl_c hN 0 (by decide)) cf_0 (by decide) lk_X2_25 rfl rfl dX2_digestCard_117 ?_
            refine lv_aload_n hx hb dX2_digestCard_120 rfl (lv_at hl 4 rfl) ?_
            refine k_i (k := 0) (n := 0) hA B (u_VN (rest := [.ref (ad 0), .long t45]) X (c_X1_putOpposite l g N ad x t43.2 dy9 la kn re hN 12 (by decide) i2 hi2 H.size) mw_X1_putOpposite md_X1_putOpposite rfl lk_X2_84 ⟨Nat.le_of_ble_eq_true rfl, Nat.le_of_ble_eq_true rfl⟩ hA hK hT B (pl_sp hN (by decide)) (cf_sp (by decide)) rfl rfl hl.1 rfl (Nat.le_of_ble_eq_true rfl) dX2_digestCard_121 ⟨Nat.le_of_ble_eq_true rfl, Nat.le_of_ble_eq_true rfl⟩) (Nat.le_of_ble_eq_true rfl) (Nat.le_of_ble_eq_true rfl) (fun r ad' f' H locs hw B => ?_)
            obtain ⟨rfl, rfl, rfl⟩ := hw
            have k46 : ∀ j, j < 12 → (v_X1_putOpposite t43.2 12 i2).2 j = sp j := fun j hj => (kp_X1_putOpposite_sp (by omega)).trans (k43 j hj)
            generalize (v_X1_putOpposite t43.2 12 i2) = t46 at k46 B ⊢
            refine k_i (k := 0) (n := 0) hA B (u_V (rest := [.long t45]) X (c_X2_resultSigns l g N ad x t46.2 dy9 la kn re hN t46.1 H.size) mw_X2_resultSigns md_X2_resultSigns rfl lk_X2_253 ⟨Nat.le_of_ble_eq_true rfl, Nat.le_of_ble_eq_true rfl⟩ hA hK hT B (pl_c hN 0 (by decide)) cf_0 rfl rfl hl.1 rfl (Nat.le_of_ble_eq_true rfl) dX2_digestCard_124 ⟨Nat.le_of_ble_eq_true rfl, Nat.le_of_ble_eq_true rfl⟩) (Nat.le_of_ble_eq_true rfl) (Nat.le_of_ble_eq_true rfl) (fun r ad' f' H locs hw B => ?_)
            obtain ⟨rfl, rfl, rfl⟩ := hw
            generalize (v_X2_resultSigns t46.2 t46.1) = t47
            refine lv_i2l (v := t47.toInt64) hx hb dX2_digestCard_127 rfl ?_
            refine k_l (k := 0) (n := 0) hA B (u_S (rest := []) X (c_X2_digestNext l g N ad x t46.2 dy9 la kn re hN t45 t47.toInt64 H.size) mw_X2_digestNext md_X2_digestNext rfl lk_X2_213 ⟨Nat.le_of_ble_eq_true rfl, Nat.le_of_ble_eq_true rfl⟩ hA hK hT B hl.1 rfl (Nat.le_of_ble_eq_true rfl) dX2_digestCard_128 ⟨Nat.le_of_ble_eq_true rfl, Nat.le_of_ble_eq_true rfl⟩) (Nat.le_of_ble_eq_true rfl) (Nat.le_of_ble_eq_true rfl) (fun r ad' f' H locs hw B => ?_)
            obtain ⟨rfl, rfl, rfl⟩ := hw
            generalize (v_X2_digestNext t45 t47.toInt64) = t48
            exact rt_l X hr (ad, (cf g ad x t46.2 dy9 la kn re)) B (PO_of B) ⟨rfl, _, _, k46, hkdy1, rfl⟩ (Nat.le_of_ble_eq_true rfl) (Nat.le_of_ble_eq_true rfl) dX2_digestCard_131
      · refine lv_lload hx hb dX2_digestCard_12 (lv_at hl 1 rfl) ?_
        refine lv_aload_n hx hb dX2_digestCard_14 rfl (lv_at hl 4 rfl) ?_
        refine lv_iload hx hb dX2_digestCard_15 (lv_at hl 0 rfl) ?_
        refine k_i (k := 0) (n := 0) hA B (u_VN (rest := [.long da]) X (c_X1_number l g N ad x sp9 dy9 la kn re hN i2 hi2 ua H.size) mw_X1_number md_X1_number rfl lk_X2_104 ⟨Nat.le_of_ble_eq_true rfl, Nat.le_of_ble_eq_true rfl⟩ hA hK hT B (pl_sp hN hi2) (cf_sp hi2) rfl rfl hl.1 rfl (Nat.le_of_ble_eq_true rfl) dX2_digestCard_17 ⟨Nat.le_of_ble_eq_true rfl, Nat.le_of_ble_eq_true rfl⟩) (Nat.le_of_ble_eq_true rfl) (Nat.le_of_ble_eq_true rfl) (fun r ad' f' H locs hw B => ?_)
        obtain ⟨rfl, rfl, rfl⟩ := hw
        generalize (v_X1_number sp9 i2 ua) = t49
        refine lv_i2l (v := t49.toInt64) hx hb dX2_digestCard_20 rfl ?_
        refine k_l (k := 0) (n := 0) hA B (u_S (rest := []) X (c_X2_digestNext l g N ad x sp9 dy9 la kn re hN da t49.toInt64 H.size) mw_X2_digestNext md_X2_digestNext rfl lk_X2_213 ⟨Nat.le_of_ble_eq_true rfl, Nat.le_of_ble_eq_true rfl⟩ hA hK hT B hl.1 rfl (Nat.le_of_ble_eq_true rfl) dX2_digestCard_21 ⟨Nat.le_of_ble_eq_true rfl, Nat.le_of_ble_eq_true rfl⟩) (Nat.le_of_ble_eq_true rfl) (Nat.le_of_ble_eq_true rfl) (fun r ad' f' H locs hw B => ?_)
        obtain ⟨rfl, rfl, rfl⟩ := hw
        generalize (v_X2_digestNext da t49.toInt64) = t50
        refine lv_lstore (lv' := [(4, .long t50), (6, .int ua), (0, .ref (ad 0)), (1, .long b1), (3, .ref (ad (4 + i2)))]) hx hb dX2_digestCard_24 hl (by decide) rfl (fun ls hl => ?_)
        refine lv_iinc (v := ua + 1) (lv' := [(6, .int (ua + 1)), (4, .long t50), (0, .ref (ad 0)), (1, .long b1), (3, .ref (ad (4 + i2)))]) hx hb dX2_digestCard_26 hl (k := 1) rfl rfl (by decide) rfl (fun ls hl => ?_)
        refine lv_goto (tgt := 6) hx hb dX2_digestCard_29 (by decide) ?_
        exact ih1 (ua + 1) t50 sp9 dy9 H locs (fu_le c2 hn1) (inc_nn hzua c2) (hksp1) (hkdy1) B ls (lv_sub hl [0, 1, 2, 3, 4] rfl)
  exact loop1 (((3 : Int32).toInt - (0 : Int32).toInt).toNat + 1) 0 b1 sp dy H locs (Nat.lt_succ_self _) (by decide) (fun _ _ => rfl) (fun _ _ => rfl) B ls hl
set_option maxHeartbeats 4000000 in
set_option maxRecDepth 100000 in
theorem c_X2_digestPairsOfCards (l : Launch) (g : GG) (N : Nat) (ad : Nat → Nat) (x : Nat → va_E) (sp dy : Nat → TR) (la kn re : Int32) (hN : 23 ≤ N) (b1 : Int64) : KL l yX2_digestPairsOfCards cX2_digestPairsOfCards 7 (rm 2 0 0) g [.ref (ad 0), .long b1] N ad (cf g ad x sp dy la kn re) N (fun r ad' f' => ad = ad' ∧ ∃ sp' dy' : Nat → TR, (∀ j, j < 12 → sp' j = sp j) ∧ (∀ j, j < 4 → dy' j = dy j) ∧ cf g ad x sp' dy' la kn re = f') := by
  intro sz
  refine mt_start (by decide) (Nat.le_of_ble_eq_true rfl) ?_
  intro p e s m args below meth c hsz X hr hnam hA hK hT H locs B ls hl
  obtain ⟨hx, hb, hml, hown, hts, hlocks⟩ := id X
  have hl : lv_has ls 7 [(0, .ref (ad 0)), (1, .long b1)] := hl
  refine lv_lload_n hx hb dX2_digestPairsOfCards_0 rfl (lv_at hl 1 rfl) ?_
  refine lv_lstore_n (lv' := [(3, .long b1), (0, .ref (ad 0)), (1, .long b1)]) hx hb dX2_digestPairsOfCards_1 rfl hl (by decide) rfl (fun ls hl => ?_)
  refine lv_iconst (v := 0) hx hb dX2_digestPairsOfCards_2 (by decide) ?_
  refine lv_istore (lv' := [(5, .int 0), (3, .long b1), (0, .ref (ad 0)), (1, .long b1)]) hx hb dX2_digestPairsOfCards_3 hl (by decide) rfl (fun ls hl => ?_)
  have loop1 : ∀ (n1 : Nat) (ua : Int32) (da : Int64) (sp9 : Nat → TR) (dy9 : Nat → TR) (H : Heap) (locs : List Loc), ((4 : Int32).toInt - ua.toInt).toNat < n1 → ¬ ua < 0 → (∀ j, j < 12 → sp9 j = sp j) → (∀ j, j < 4 → dy9 j = dy j) → WB g (aw N ad sz) s.heap N ad (cf g ad x sp9 dy9 la kn re) H locs → ∀ ls : Array Slot, lv_has ls 7 [(5, .int ua), (3, .long da), (0, .ref (ad 0)), (1, .long b1)] → W p l e (rm 2 0 0) s m args below meth c H locs 0 0 (MQ below (va_Ql (fun r (u : WS) => (fun r ad' f' => ad = ad' ∧ ∃ sp' dy' : Nat → TR, (∀ j, j < 12 → sp' j = sp j) ∧ (∀ j, j < 4 → dy' j = dy j) ∧ cf g ad x sp' dy' la kn re = f') r u.1 u.2) (fun u t => PO g N u.1 u.2 (aw N ad sz) t) (aw N ad sz)) args s (rm 2 0 0).cells (rm 2 0 0).slots (aw N ad sz)) (F0 m 5 ls []) := by
    intro n1
    induction n1 with
    | zero => intro ua da sp9 dy9 H locs hn; exact absurd hn (Nat.not_lt_zero _)
    | succ n1 ih1 =>
      intro ua da sp9 dy9 H locs hn1 hzua hksp1 hkdy1 B ls hl
      refine lv_iload hx hb dX2_digestPairsOfCards_5 (lv_at hl 0 rfl) ?_
      refine lv_iconst (v := 4) hx hb dX2_digestPairsOfCards_7 (by decide) ?_
      refine lv_icmp_ge (tgt := 92) hx hb dX2_digestPairsOfCards_8 (by decide) (fun c2 => ?_) (fun c2 => ?_)
      · refine lv_lload_n hx hb dX2_digestPairsOfCards_92 rfl (lv_at hl 1 rfl) ?_
        exact rt_l X hr (ad, (cf g ad x sp9 dy9 la kn re)) B (PO_of B) ⟨rfl, _, _, hksp1, hkdy1, rfl⟩ (Nat.le_of_ble_eq_true rfl) (Nat.le_of_ble_eq_true rfl) dX2_digestPairsOfCards_93
      · refine lv_iconst (v := 0) hx hb dX2_digestPairsOfCards_11 (by decide) ?_
        refine lv_istore (lv' := [(6, .int 0), (5, .int ua), (3, .long da), (0, .ref (ad 0)), (1, .long b1)]) hx hb dX2_digestPairsOfCards_12 hl (by decide) rfl (fun ls hl => ?_)
        have loop3 : ∀ (n3 : Nat) (ub : Int32) (db : Int64) (sp9 : Nat → TR) (dy9 : Nat → TR) (H : Heap) (locs : List Loc), ((4 : Int32).toInt - ub.toInt).toNat < n3 → ¬ ub < 0 → (∀ j, j < 12 → sp9 j = sp j) → (∀ j, j < 4 → dy9 j = dy j) → WB g (aw N ad sz) s.heap N ad (cf g ad x sp9 dy9 la kn re) H locs → ∀ ls : Array Slot, lv_has ls 7 [(6, .int ub), (5, .int ua), (3, .long db), (0, .ref (ad 0)), (1, .long b1)] → W p l e (rm 2 0 0) s m args below meth c H locs 0 0 (MQ below (va_Ql (fun r (u : WS) => (fun r ad' f' => ad = ad' ∧ ∃ sp' dy' : Nat → TR, (∀ j, j < 12 → sp' j = sp j) ∧ (∀ j, j < 4 → dy' j = dy j) ∧ cf g ad x sp' dy' la kn re = f') r u.1 u.2) (fun u t => PO g N u.1 u.2 (aw N ad sz) t) (aw N ad sz)) args s (rm 2 0 0).cells (rm 2 0 0).slots (aw N ad sz)) (F0 m 14 ls []) := by
          intro n3
          induction n3 with
          | zero => intro ub db sp9 dy9 H locs hn; exact absurd hn (Nat.not_lt_zero _)
          | succ n3 ih3 =>
            intro ub db sp9 dy9 H locs hn3 hzub hksp3 hkdy3 B ls hl
            refine lv_iload hx hb dX2_digestPairsOfCards_14 (lv_at hl 0 rfl) ?_
            refine lv_iconst (v := 4) hx hb dX2_digestPairsOfCards_16 (by decide) ?_
            refine lv_icmp_ge (tgt := 86) hx hb dX2_digestPairsOfCards_17 (by decide) (fun c4 => ?_) (fun c4 => ?_)
            · refine lv_iinc (v := ua + 1) (lv' := [(5, .int (ua + 1)), (6, .int ub), (3, .long db), (0, .ref (ad 0)), (1, .long b1)]) hx hb dX2_digestPairsOfCards_86 hl (k := 1) rfl rfl (by decide) rfl (fun ls hl => ?_)
              refine lv_goto (tgt := 5) hx hb dX2_digestPairsOfCards_89 (by decide) ?_
              exact ih1 (ua + 1) db sp9 dy9 H locs (fu_le c2 hn1) (inc_nn hzua c2) (hksp3) (hkdy3) B ls (lv_sub hl [0, 2, 3, 4] rfl)
            · refine lv_lload_n hx hb dX2_digestPairsOfCards_20 rfl (lv_at hl 2 rfl) ?_
              refine lv_aload_n hx hb dX2_digestPairsOfCards_21 rfl (lv_at hl 3 rfl) ?_
              refine g_get (q := 0) (k := 0) X hK B rfl in_X2 (pl_c hN 0 (by decide)) cf_0 (by decide) lk_X2_11 rfl rfl dX2_digestPairsOfCards_22 ?_
              refine lv_iload hx hb dX2_digestPairsOfCards_25 (lv_at hl 1 rfl) ?_
              refine g_aald (q := 1) (t0 := 3) X hK B (pl_c hN 1 (by decide)) cf_1 rfl rfl (ix_in (n := 4) hzua c2 rfl) dX2_digestPairsOfCards_27 ?_
              have h5 : ua.toNatClampNeg < 14 := by have := (ix_lt (n := 4) hzua c2 rfl); omega
              refine lv_aload_n hx hb dX2_digestPairsOfCards_28 rfl (lv_at hl 3 rfl) ?_
              refine g_get (q := 0) (k := 0) X hK B rfl in_X2 (pl_c hN 0 (by decide)) cf_0 (by decide) lk_X2_11 rfl rfl dX2_digestPairsOfCards_29 ?_
              refine lv_iload hx hb dX2_digestPairsOfCards_32 (lv_at hl 0 rfl) ?_
              refine g_aald (q := 1) (t0 := 3) X hK B (pl_c hN 1 (by decide)) cf_1 rfl rfl (ix_in (n := 4) hzub c4 rfl) dX2_digestPairsOfCards_34 ?_
              have h6 : ub.toNatClampNeg < 14 := by have := (ix_lt (n := 4) hzub c4 rfl); omega
              refine k_i (k := 0) (n := 0) hA B (u_VN (rest := [.long db]) X (c_X1_isSameAs l g N ad x sp9 dy9 la kn re hN ua.toNatClampNeg h5 ub.toNatClampNeg h6 H.size) mw_X1_isSameAs md_X1_isSameAs rfl lk_X2_123 ⟨Nat.le_of_ble_eq_true rfl, Nat.le_of_ble_eq_true rfl⟩ hA hK hT B (pl_sp hN h5) (cf_sp h5) rfl rfl hl.1 rfl (Nat.le_of_ble_eq_true rfl) dX2_digestPairsOfCards_35 ⟨Nat.le_of_ble_eq_true rfl, Nat.le_of_ble_eq_true rfl⟩) (Nat.le_of_ble_eq_true rfl) (Nat.le_of_ble_eq_true rfl) (fun r ad' f' H locs hw B => ?_)
              obtain ⟨rfl, rfl, rfl⟩ := hw
              generalize (v_X1_isSameAs sp9 ua.toNatClampNeg ub.toNatClampNeg) = t7
              refine lv_if_eq (tgt := 45) hx hb dX2_digestPairsOfCards_38 (by decide) (fun c8 => ?_) (fun c8 => ?_)
              · refine lv_lconst (v := 0) hx hb dX2_digestPairsOfCards_45 (by decide) ?_
                refine k_l (k := 0) (n := 0) hA B (u_S (rest := []) X (c_X2_digestNext l g N ad x sp9 dy9 la kn re hN db 0 H.size) mw_X2_digestNext md_X2_digestNext rfl lk_X2_213 ⟨Nat.le_of_ble_eq_true rfl, Nat.le_of_ble_eq_true rfl⟩ hA hK hT B hl.1 rfl (Nat.le_of_ble_eq_true rfl) dX2_digestPairsOfCards_46 ⟨Nat.le_of_ble_eq_true rfl, Nat.le_of_ble_eq_true rfl⟩) (Nat.le_of_ble_eq_true rfl) (Nat.le_of_ble_eq_true rfl) (fun r ad' f' H locs hw B => ?_)
                obtain ⟨rfl, rfl, rfl⟩ := hw
                generalize (v_X2_digestNext db 0) = t9
                refine lv_lstore_n (lv' := [(3, .long t9), (6, .int ub), (5, .int ua), (0, .ref (ad 0)), (1, .long b1)]) hx hb dX2_digestPairsOfCards_49 rfl hl (by decide) rfl (fun ls hl => ?_)
                refine lv_lload_n hx hb dX2_digestPairsOfCards_50 rfl (lv_at hl 0 rfl) ?_
                refine lv_aload_n hx hb dX2_digestPairsOfCards_51 rfl (lv_at hl 3 rfl) ?_
                refine g_get (q := 0) (k := 0) X hK B rfl in_X2 (pl_c hN 0 (by decide)) cf_0 (by decide) lk_X2_11 rfl rfl dX2_digestPairsOfCards_52 ?_
                refine lv_iload hx hb dX2_digestPairsOfCards_55 (lv_at hl 2 rfl) ?_
                refine g_aald (q := 1) (t0 := 3) X hK B (pl_c hN 1 (by decide)) cf_1 rfl rfl (ix_in (n := 4) hzua c2 rfl) dX2_digestPairsOfCards_57 ?_
                have h10 : ua.toNatClampNeg < 14 := by have := (ix_lt (n := 4) hzua c2 rfl); omega
                refine lv_aload_n hx hb dX2_digestPairsOfCards_58 rfl (lv_at hl 3 rfl) ?_
                refine g_get (q := 0) (k := 0) X hK B rfl in_X2 (pl_c hN 0 (by decide)) cf_0 (by decide) lk_X2_11 rfl rfl dX2_digestPairsOfCards_59 ?_
                refine lv_iload hx hb dX2_digestPairsOfCards_62 (lv_at hl 1 rfl) ?_
                refine g_aald (q := 1) (t0 := 3) X hK B (pl_c hN 1 (by decide)) cf_1 rfl rfl (ix_in (n := 4) hzub c4 rfl) dX2_digestPairsOfCards_64 ?_
                have h11 : ub.toNatClampNeg < 14 := by have := (ix_lt (n := 4) hzub c4 rfl); omega
                refine k_i (k := 0) (n := 0) hA B (u_VN (rest := [.long t9]) X (c_X1_isAlikeTo l g N ad x sp9 dy9 la kn re hN ua.toNatClampNeg h10 ub.toNatClampNeg h11 H.size) mw_X1_isAlikeTo md_X1_isAlikeTo rfl lk_X2_126 ⟨Nat.le_of_ble_eq_true rfl, Nat.le_of_ble_eq_true rfl⟩ hA hK hT B (pl_sp hN h10) (cf_sp h10) rfl rfl hl.1 rfl (Nat.le_of_ble_eq_true rfl) dX2_digestPairsOfCards_65 ⟨Nat.le_of_ble_eq_true rfl, Nat.le_of_ble_eq_true rfl⟩) (Nat.le_of_ble_eq_true rfl) (Nat.le_of_ble_eq_true rfl) (fun r ad' f' H locs hw B => ?_)
                obtain ⟨rfl, rfl, rfl⟩ := hw
                generalize (v_X1_isAlikeTo sp9 ua.toNatClampNeg ub.toNatClampNeg) = t12
                refine lv_if_eq (tgt := 75) hx hb dX2_digestPairsOfCards_68 (by decide) (fun c13 => ?_) (fun c13 => ?_)
                · refine lv_lconst (v := 0) hx hb dX2_digestPairsOfCards_75 (by decide) ?_
                  refine k_l (k := 0) (n := 0) hA B (u_S (rest := []) X (c_X2_digestNext l g N ad x sp9 dy9 la kn re hN t9 0 H.size) mw_X2_digestNext md_X2_digestNext rfl lk_X2_213 ⟨Nat.le_of_ble_eq_true rfl, Nat.le_of_ble_eq_true rfl⟩ hA hK hT B hl.1 rfl (Nat.le_of_ble_eq_true rfl) dX2_digestPairsOfCards_76 ⟨Nat.le_of_ble_eq_true rfl, Nat.le_of_ble_eq_true rfl⟩) (Nat.le_of_ble_eq_true rfl) (Nat.le_of_ble_eq_true rfl) (fun r ad' f' H locs hw B => ?_)
                  obtain ⟨rfl, rfl, rfl⟩ := hw
                  generalize (v_X2_digestNext t9 0) = t14
                  refine lv_lstore_n (lv' := [(3, .long t14), (6, .int ub), (5, .int ua), (0, .ref (ad 0)), (1, .long b1)]) hx hb dX2_digestPairsOfCards_79 rfl hl (by decide) rfl (fun ls hl => ?_)
                  refine lv_iinc (v := ub + 1) (lv' := [(6, .int (ub + 1)), (3, .long t14), (5, .int ua), (0, .ref (ad 0)), (1, .long b1)]) hx hb dX2_digestPairsOfCards_80 hl (k := 1) rfl rfl (by decide) rfl (fun ls hl => ?_)
                  refine lv_goto (tgt := 14) hx hb dX2_digestPairsOfCards_83 (by decide) ?_
                  exact ih3 (ub + 1) t14 sp9 dy9 H locs (fu_le c4 hn3) (inc_nn hzub c4) (hksp3) (hkdy3) B ls (lv_sub hl [0, 2, 1, 3, 4] rfl)
                · refine lv_lconst (v := 1) hx hb dX2_digestPairsOfCards_71 (by decide) ?_
                  refine lv_goto (tgt := 76) hx hb dX2_digestPairsOfCards_72 (by decide) ?_
                  refine k_l (k := 0) (n := 0) hA B (u_S (rest := []) X (c_X2_digestNext l g N ad x sp9 dy9 la kn re hN t9 1 H.size) mw_X2_digestNext md_X2_digestNext rfl lk_X2_213 ⟨Nat.le_of_ble_eq_true rfl, Nat.le_of_ble_eq_true rfl⟩ hA hK hT B hl.1 rfl (Nat.le_of_ble_eq_true rfl) dX2_digestPairsOfCards_76 ⟨Nat.le_of_ble_eq_true rfl, Nat.le_of_ble_eq_true rfl⟩) (Nat.le_of_ble_eq_true rfl) (Nat.le_of_ble_eq_true rfl) (fun r ad' f' H locs hw B => ?_)
                  obtain ⟨rfl, rfl, rfl⟩ := hw
                  generalize (v_X2_digestNext t9 1) = t15
                  refine lv_lstore_n (lv' := [(3, .long t15), (6, .int ub), (5, .int ua), (0, .ref (ad 0)), (1, .long b1)]) hx hb dX2_digestPairsOfCards_79 rfl hl (by decide) rfl (fun ls hl => ?_)
                  refine lv_iinc (v := ub + 1) (lv' := [(6, .int (ub + 1)), (3, .long t15), (5, .int ua), (0, .ref (ad 0)), (1, .long b1)]) hx hb dX2_digestPairsOfCards_80 hl (k := 1) rfl rfl (by decide) rfl (fun ls hl => ?_)
                  refine lv_goto (tgt := 14) hx hb dX2_digestPairsOfCards_83 (by decide) ?_
                  exact ih3 (ub + 1) t15 sp9 dy9 H locs (fu_le c4 hn3) (inc_nn hzub c4) (hksp3) (hkdy3) B ls (lv_sub hl [0, 2, 1, 3, 4] rfl)
              · refine lv_lconst (v := 1) hx hb dX2_digestPairsOfCards_41 (by decide) ?_
                refine lv_goto (tgt := 46) hx hb dX2_digestPairsOfCards_42 (by decide) ?_
                refine k_l (k := 0) (n := 0) hA B (u_S (rest := []) X (c_X2_digestNext l g N ad x sp9 dy9 la kn re hN db 1 H.size) mw_X2_digestNext md_X2_digestNext rfl lk_X2_213 ⟨Nat.le_of_ble_eq_true rfl, Nat.le_of_ble_eq_true rfl⟩ hA hK hT B hl.1 rfl (Nat.le_of_ble_eq_true rfl) dX2_digestPairsOfCards_46 ⟨Nat.le_of_ble_eq_true rfl, Nat.le_of_ble_eq_true rfl⟩) (Nat.le_of_ble_eq_true rfl) (Nat.le_of_ble_eq_true rfl) (fun r ad' f' H locs hw B => ?_)
                obtain ⟨rfl, rfl, rfl⟩ := hw
                generalize (v_X2_digestNext db 1) = t16
                refine lv_lstore_n (lv' := [(3, .long t16), (6, .int ub), (5, .int ua), (0, .ref (ad 0)), (1, .long b1)]) hx hb dX2_digestPairsOfCards_49 rfl hl (by decide) rfl (fun ls hl => ?_)
                refine lv_lload_n hx hb dX2_digestPairsOfCards_50 rfl (lv_at hl 0 rfl) ?_
                refine lv_aload_n hx hb dX2_digestPairsOfCards_51 rfl (lv_at hl 3 rfl) ?_
                refine g_get (q := 0) (k := 0) X hK B rfl in_X2 (pl_c hN 0 (by decide)) cf_0 (by decide) lk_X2_11 rfl rfl dX2_digestPairsOfCards_52 ?_
                refine lv_iload hx hb dX2_digestPairsOfCards_55 (lv_at hl 2 rfl) ?_
                refine g_aald (q := 1) (t0 := 3) X hK B (pl_c hN 1 (by decide)) cf_1 rfl rfl (ix_in (n := 4) hzua c2 rfl) dX2_digestPairsOfCards_57 ?_
                have h17 : ua.toNatClampNeg < 14 := by have := (ix_lt (n := 4) hzua c2 rfl); omega
                refine lv_aload_n hx hb dX2_digestPairsOfCards_58 rfl (lv_at hl 3 rfl) ?_
                refine g_get (q := 0) (k := 0) X hK B rfl in_X2 (pl_c hN 0 (by decide)) cf_0 (by decide) lk_X2_11 rfl rfl dX2_digestPairsOfCards_59 ?_
                refine lv_iload hx hb dX2_digestPairsOfCards_62 (lv_at hl 1 rfl) ?_
                refine g_aald (q := 1) (t0 := 3) X hK B (pl_c hN 1 (by decide)) cf_1 rfl rfl (ix_in (n := 4) hzub c4 rfl) dX2_digestPairsOfCards_64 ?_
                have h18 : ub.toNatClampNeg < 14 := by have := (ix_lt (n := 4) hzub c4 rfl); omega
                refine k_i (k := 0) (n := 0) hA B (u_VN (rest := [.long t16]) X (c_X1_isAlikeTo l g N ad x sp9 dy9 la kn re hN ua.toNatClampNeg h17 ub.toNatClampNeg h18 H.size) mw_X1_isAlikeTo md_X1_isAlikeTo rfl lk_X2_126 ⟨Nat.le_of_ble_eq_true rfl, Nat.le_of_ble_eq_true rfl⟩ hA hK hT B (pl_sp hN h17) (cf_sp h17) rfl rfl hl.1 rfl (Nat.le_of_ble_eq_true rfl) dX2_digestPairsOfCards_65 ⟨Nat.le_of_ble_eq_true rfl, Nat.le_of_ble_eq_true rfl⟩) (Nat.le_of_ble_eq_true rfl) (Nat.le_of_ble_eq_true rfl) (fun r ad' f' H locs hw B => ?_)
                obtain ⟨rfl, rfl, rfl⟩ := hw
                generalize (v_X1_isAlikeTo sp9 ua.toNatClampNeg ub.toNatClampNeg) = t19
                refine lv_if_eq (tgt := 75) hx hb dX2_digestPairsOfCards_68 (by decide) (fun c20 => ?_) (fun c20 => ?_)
                · refine lv_lconst (v := 0) hx hb dX2_digestPairsOfCards_75 (by decide) ?_
                  refine k_l (k := 0) (n := 0) hA B (u_S (rest := []) X (c_X2_digestNext l g N ad x sp9 dy9 la kn re hN t16 0 H.size) mw_X2_digestNext md_X2_digestNext rfl lk_X2_213 ⟨Nat.le_of_ble_eq_true rfl, Nat.le_of_ble_eq_true rfl⟩ hA hK hT B hl.1 rfl (Nat.le_of_ble_eq_true rfl) dX2_digestPairsOfCards_76 ⟨Nat.le_of_ble_eq_true rfl, Nat.le_of_ble_eq_true rfl⟩) (Nat.le_of_ble_eq_true rfl) (Nat.le_of_ble_eq_true rfl) (fun r ad' f' H locs hw B => ?_)
                  obtain ⟨rfl, rfl, rfl⟩ := hw
                  generalize (v_X2_digestNext t16 0) = t21
                  refine lv_lstore_n (lv' := [(3, .long t21), (6, .int ub), (5, .int ua), (0, .ref (ad 0)), (1, .long b1)]) hx hb dX2_digestPairsOfCards_79 rfl hl (by decide) rfl (fun ls hl => ?_)
                  refine lv_iinc (v := ub + 1) (lv' := [(6, .int (ub + 1)), (3, .long t21), (5, .int ua), (0, .ref (ad 0)), (1, .long b1)]) hx hb dX2_digestPairsOfCards_80 hl (k := 1) rfl rfl (by decide) rfl (fun ls hl => ?_)
                  refine lv_goto (tgt := 14) hx hb dX2_digestPairsOfCards_83 (by decide) ?_
                  exact ih3 (ub + 1) t21 sp9 dy9 H locs (fu_le c4 hn3) (inc_nn hzub c4) (hksp3) (hkdy3) B ls (lv_sub hl [0, 2, 1, 3, 4] rfl)
                · refine lv_lconst (v := 1) hx hb dX2_digestPairsOfCards_71 (by decide) ?_
                  refine lv_goto (tgt := 76) hx hb dX2_digestPairsOfCards_72 (by decide) ?_
                  refine k_l (k := 0) (n := 0) hA B (u_S (rest := []) X (c_X2_digestNext l g N ad x sp9 dy9 la kn re hN t16 1 H.size) mw_X2_digestNext md_X2_digestNext rfl lk_X2_213 ⟨Nat.le_of_ble_eq_true rfl, Nat.le_of_ble_eq_true rfl⟩ hA hK hT B hl.1 rfl (Nat.le_of_ble_eq_true rfl) dX2_digestPairsOfCards_76 ⟨Nat.le_of_ble_eq_true rfl, Nat.le_of_ble_eq_true rfl⟩) (Nat.le_of_ble_eq_true rfl) (Nat.le_of_ble_eq_true rfl) (fun r ad' f' H locs hw B => ?_)
                  obtain ⟨rfl, rfl, rfl⟩ := hw
                  generalize (v_X2_digestNext t16 1) = t22
                  refine lv_lstore_n (lv' := [(3, .long t22), (6, .int ub), (5, .int ua), (0, .ref (ad 0)), (1, .long b1)]) hx hb dX2_digestPairsOfCards_79 rfl hl (by decide) rfl (fun ls hl => ?_)
                  refine lv_iinc (v := ub + 1) (lv' := [(6, .int (ub + 1)), (3, .long t22), (5, .int ua), (0, .ref (ad 0)), (1, .long b1)]) hx hb dX2_digestPairsOfCards_80 hl (k := 1) rfl rfl (by decide) rfl (fun ls hl => ?_)
                  refine lv_goto (tgt := 14) hx hb dX2_digestPairsOfCards_83 (by decide) ?_
                  exact ih3 (ub + 1) t22 sp9 dy9 H locs (fu_le c4 hn3) (inc_nn hzub c4) (hksp3) (hkdy3) B ls (lv_sub hl [0, 2, 1, 3, 4] rfl)
        exact loop3 (((4 : Int32).toInt - (0 : Int32).toInt).toNat + 1) 0 da sp9 dy9 H locs (Nat.lt_succ_self _) (by decide) (hksp1) (hkdy1) B ls hl
  exact loop1 (((4 : Int32).toInt - (0 : Int32).toInt).toNat + 1) 0 b1 sp dy H locs (Nat.lt_succ_self _) (by decide) (fun _ _ => rfl) (fun _ _ => rfl) B ls hl
set_option maxHeartbeats 4000000 in
set_option maxRecDepth 100000 in
theorem c_X2_digestDate (l : Launch) (g : GG) (N : Nat) (ad : Nat → Nat) (x : Nat → va_E) (sp dy : Nat → TR) (la kn re : Int32) (hN : 23 ≤ N) (b1 : Int64) (j2 : Nat) (hj2 : j2 < 5) : KL l yX2_digestDate cX2_digestDate 7 (rm 5 0 0) g [.ref (ad 0), .long b1, .ref (ad (18 + j2))] N ad (cf g ad x sp dy la kn re) N (fun r ad' f' => ad = ad' ∧ ∃ sp' dy' : Nat → TR, (∀ j, j < 12 → sp' j = sp j) ∧ (∀ j, j < 4 → dy' j = dy j) ∧ cf g ad x sp' dy' la kn re = f') := by
  intro sz
  refine mt_start (by decide) (Nat.le_of_ble_eq_true rfl) ?_
  intro p e s m args below meth c hsz X hr hnam hA hK hT H locs B ls hl
  obtain ⟨hx, hb, hml, hown, hts, hlocks⟩ := id X
  have hl : lv_has ls 7 [(0, .ref (ad 0)), (1, .long b1), (3, .ref (ad (18 + j2)))] := hl
  refine lv_lload_n hx hb dX2_digestDate_0 rfl (lv_at hl 1 rfl) ?_
  refine lv_lstore (lv' := [(4, .long b1), (0, .ref (ad 0)), (1, .long b1), (3, .ref (ad (18 + j2)))]) hx hb dX2_digestDate_1 hl (by decide) rfl (fun ls hl => ?_)
  refine lv_iconst (v := 0) hx hb dX2_digestDate_3 (by decide) ?_
  refine lv_istore (lv' := [(6, .int 0), (4, .long b1), (0, .ref (ad 0)), (1, .long b1), (3, .ref (ad (18 + j2)))]) hx hb dX2_digestDate_4 hl (by decide) rfl (fun ls hl => ?_)
  have loop1 : ∀ (n1 : Nat) (ua : Int32) (da : Int64) (sp9 : Nat → TR) (dy9 : Nat → TR) (H : Heap) (locs : List Loc), ((4 : Int32).toInt - ua.toInt).toNat < n1 → ¬ ua < 0 → (∀ j, j < 12 → sp9 j = sp j) → (∀ j, j < 4 → dy9 j = dy j) → WB g (aw N ad sz) s.heap N ad (cf g ad x sp9 dy9 la kn re) H locs → ∀ ls : Array Slot, lv_has ls 7 [(6, .int ua), (4, .long da), (0, .ref (ad 0)), (1, .long b1), (3, .ref (ad (18 + j2)))] → W p l e (rm 5 0 0) s m args below meth c H locs 0 0 (MQ below (va_Ql (fun r (u : WS) => (fun r ad' f' => ad = ad' ∧ ∃ sp' dy' : Nat → TR, (∀ j, j < 12 → sp' j = sp j) ∧ (∀ j, j < 4 → dy' j = dy j) ∧ cf g ad x sp' dy' la kn re = f') r u.1 u.2) (fun u t => PO g N u.1 u.2 (aw N ad sz) t) (aw N ad sz)) args s (rm 5 0 0).cells (rm 5 0 0).slots (aw N ad sz)) (F0 m 6 ls []) := by
    intro n1
    induction n1 with
    | zero => intro ua da sp9 dy9 H locs hn; exact absurd hn (Nat.not_lt_zero _)
    | succ n1 ih1 =>
      intro ua da sp9 dy9 H locs hn1 hzua hksp1 hkdy1 B ls hl
      refine lv_iload hx hb dX2_digestDate_6 (lv_at hl 0 rfl) ?_
      refine lv_iconst (v := 4) hx hb dX2_digestDate_8 (by decide) ?_
      refine lv_icmp_ge (tgt := 32) hx hb dX2_digestDate_9 (by decide) (fun c2 => ?_) (fun c2 => ?_)
      · refine lv_iconst (v := 0) hx hb dX2_digestDate_32 (by decide) ?_
        refine lv_istore (lv' := [(6, .int 0), (4, .long da), (0, .ref (ad 0)), (1, .long b1), (3, .ref (ad (18 + j2)))]) hx hb dX2_digestDate_33 hl (by decide) rfl (fun ls hl => ?_)
        have loop3 : ∀ (n3 : Nat) (ub : Int32) (db : Int64) (sp9 : Nat → TR) (dy9 : Nat → TR) (H : Heap) (locs : List Loc), ((4 : Int32).toInt - ub.toInt).toNat < n3 → ¬ ub < 0 → (∀ j, j < 12 → sp9 j = sp j) → (∀ j, j < 4 → dy9 j = dy j) → WB g (aw N ad sz) s.heap N ad (cf g ad x sp9 dy9 la kn re) H locs → ∀ ls : Array Slot, lv_has ls 7 [(6, .int ub), (4, .long db), (0, .ref (ad 0)), (1, .long b1), (3, .ref (ad (18 + j2)))] → W p l e (rm 5 0 0) s m args below meth c H locs 0 0 (MQ below (va_Ql (fun r (u : WS) => (fun r ad' f' => ad = ad' ∧ ∃ sp' dy' : Nat → TR, (∀ j, j < 12 → sp' j = sp j) ∧ (∀ j, j < 4 → dy' j = dy j) ∧ cf g ad x sp' dy' la kn re = f') r u.1 u.2) (fun u t => PO g N u.1 u.2 (aw N ad sz) t) (aw N ad sz)) args s (rm 5 0 0).cells (rm 5 0 0).slots (aw N ad sz)) (F0 m 35 ls []) := by
          intro n3
          induction n3 with
          | zero => intro ub db sp9 dy9 H locs hn; exact absurd hn (Nat.not_lt_zero _)
          | succ n3 ih3 =>
            intro ub db sp9 dy9 H locs hn3 hzub hksp3 hkdy3 B ls hl
            refine lv_iload hx hb dX2_digestDate_35 (lv_at hl 0 rfl) ?_
            refine lv_iconst (v := 4) hx hb dX2_digestDate_37 (by decide) ?_
            refine lv_icmp_ge (tgt := 117) hx hb dX2_digestDate_38 (by decide) (fun c4 => ?_) (fun c4 => ?_)
            · refine lv_lload hx hb dX2_digestDate_117 (lv_at hl 1 rfl) ?_
              exact rt_l X hr (ad, (cf g ad x sp9 dy9 la kn re)) B (PO_of B) ⟨rfl, _, _, hksp3, hkdy3, rfl⟩ (Nat.le_of_ble_eq_true rfl) (Nat.le_of_ble_eq_true rfl) dX2_digestDate_119
            · refine lv_lload hx hb dX2_digestDate_41 (lv_at hl 1 rfl) ?_
              refine lv_aload_n hx hb dX2_digestDate_43 rfl (lv_at hl 2 rfl) ?_
              refine lv_aload_n hx hb dX2_digestDate_44 rfl (lv_at hl 4 rfl) ?_
              refine lv_aload_n hx hb dX2_digestDate_45 rfl (lv_at hl 2 rfl) ?_
              refine g_get (q := 0) (k := 0) X hK B rfl in_X2 (pl_c hN 0 (by decide)) cf_0 (by decide) lk_X2_11 rfl rfl dX2_digestDate_46 ?_
              refine lv_iload hx hb dX2_digestDate_49 (lv_at hl 0 rfl) ?_
              refine g_aald (q := 1) (t0 := 3) X hK B (pl_c hN 1 (by decide)) cf_1 rfl rfl (ix_in (n := 4) hzub c4 rfl) dX2_digestDate_51 ?_
              have h5 : ub.toNatClampNeg < 14 := by have := (ix_lt (n := 4) hzub c4 rfl); omega
              refine lv_iconst (v := 0) hx hb dX2_digestDate_52 (by decide) ?_
              refine k_i (k := 0) (n := 0) hA B (u_V (rest := [.long db]) X (c_X2_reach l g N ad x sp9 dy9 la kn re hN j2 hj2 ub.toNatClampNeg h5 0 H.size) mw_X2_reach md_X2_reach rfl lk_X2_161 ⟨Nat.le_of_ble_eq_true rfl, Nat.le_of_ble_eq_true rfl⟩ hA hK hT B (pl_c hN 0 (by decide)) cf_0 rfl rfl hl.1 rfl (Nat.le_of_ble_eq_true rfl) dX2_digestDate_53 ⟨Nat.le_of_ble_eq_true rfl, Nat.le_of_ble_eq_true rfl⟩) (Nat.le_of_ble_eq_true rfl) (Nat.le_of_ble_eq_true rfl) (fun r ad' f' H locs hw B => ?_)
              obtain ⟨rfl, rfl, rfl⟩ := hw
              have e6 : ∀ j, j < 4 → (v_X2_reach sp9 dy9 j2 ub.toNatClampNeg 0).2 j = dy j := fun j hj => (kp_X2_reach_dy (by omega)).trans (hkdy3 j hj)
              generalize (v_X2_reach sp9 dy9 j2 ub.toNatClampNeg 0) = t6 at e6 B ⊢
              refine lv_if_eq (tgt := 70) hx hb dX2_digestDate_56 (by decide) (fun c7 => ?_) (fun c7 => ?_)
              · refine lv_lconst (v := 0) hx hb dX2_digestDate_70 (by decide) ?_
                refine k_l (k := 0) (n := 0) hA B (u_S (rest := []) X (c_X2_digestNext l g N ad x sp9 t6.2 la kn re hN db 0 H.size) mw_X2_digestNext md_X2_digestNext rfl lk_X2_213 ⟨Nat.le_of_ble_eq_true rfl, Nat.le_of_ble_eq_true rfl⟩ hA hK hT B hl.1 rfl (Nat.le_of_ble_eq_true rfl) dX2_digestDate_71 ⟨Nat.le_of_ble_eq_true rfl, Nat.le_of_ble_eq_true rfl⟩) (Nat.le_of_ble_eq_true rfl) (Nat.le_of_ble_eq_true rfl) (fun r ad' f' H locs hw B => ?_)
                obtain ⟨rfl, rfl, rfl⟩ := hw
                generalize (v_X2_digestNext db 0) = t8
                refine lv_lstore (lv' := [(4, .long t8), (6, .int ub), (0, .ref (ad 0)), (1, .long b1), (3, .ref (ad (18 + j2)))]) hx hb dX2_digestDate_74 hl (by decide) rfl (fun ls hl => ?_)
                refine lv_lload hx hb dX2_digestDate_76 (lv_at hl 0 rfl) ?_
                refine lv_aload_n hx hb dX2_digestDate_78 rfl (lv_at hl 2 rfl) ?_
                refine lv_aload_n hx hb dX2_digestDate_79 rfl (lv_at hl 4 rfl) ?_
                refine lv_aload_n hx hb dX2_digestDate_80 rfl (lv_at hl 2 rfl) ?_
                refine g_get (q := 0) (k := 0) X hK B rfl in_X2 (pl_c hN 0 (by decide)) cf_0 (by decide) lk_X2_11 rfl rfl dX2_digestDate_81 ?_
                refine lv_iload hx hb dX2_digestDate_84 (lv_at hl 1 rfl) ?_
                refine g_aald (q := 1) (t0 := 3) X hK B (pl_c hN 1 (by decide)) cf_1 rfl rfl (ix_in (n := 4) hzub c4 rfl) dX2_digestDate_86 ?_
                have h9 : ub.toNatClampNeg < 14 := by have := (ix_lt (n := 4) hzub c4 rfl); omega
                refine lv_iconst (v := 1) hx hb dX2_digestDate_87 (by decide) ?_
                refine k_i (k := 0) (n := 0) hA B (u_V (rest := [.long t8]) X (c_X2_reach l g N ad x sp9 t6.2 la kn re hN j2 hj2 ub.toNatClampNeg h9 1 H.size) mw_X2_reach md_X2_reach rfl lk_X2_161 ⟨Nat.le_of_ble_eq_true rfl, Nat.le_of_ble_eq_true rfl⟩ hA hK hT B (pl_c hN 0 (by decide)) cf_0 rfl rfl hl.1 rfl (Nat.le_of_ble_eq_true rfl) dX2_digestDate_88 ⟨Nat.le_of_ble_eq_true rfl, Nat.le_of_ble_eq_true rfl⟩) (Nat.le_of_ble_eq_true rfl) (Nat.le_of_ble_eq_true rfl) (fun r ad' f' H locs hw B => ?_)
                obtain ⟨rfl, rfl, rfl⟩ := hw
                have e10 : ∀ j, j < 4 → (v_X2_reach sp9 t6.2 j2 ub.toNatClampNeg 1).2 j = dy j := fun j hj => (kp_X2_reach_dy (by omega)).trans (e6 j hj)
                generalize (v_X2_reach sp9 t6.2 j2 ub.toNatClampNeg 1) = t10 at e10 B ⊢
                refine lv_if_eq (tgt := 105) hx hb dX2_digestDate_91 (by decide) (fun c11 => ?_) (fun c11 => ?_)
                · refine lv_lconst (v := 0) hx hb dX2_digestDate_105 (by decide) ?_
                  refine k_l (k := 0) (n := 0) hA B (u_S (rest := []) X (c_X2_digestNext l g N ad x sp9 t10.2 la kn re hN t8 0 H.size) mw_X2_digestNext md_X2_digestNext rfl lk_X2_213 ⟨Nat.le_of_ble_eq_true rfl, Nat.le_of_ble_eq_true rfl⟩ hA hK hT B hl.1 rfl (Nat.le_of_ble_eq_true rfl) dX2_digestDate_106 ⟨Nat.le_of_ble_eq_true rfl, Nat.le_of_ble_eq_true rfl⟩) (Nat.le_of_ble_eq_true rfl) (Nat.le_of_ble_eq_true rfl) (fun r ad' f' H locs hw B => ?_)
                  obtain ⟨rfl, rfl, rfl⟩ := hw
                  generalize (v_X2_digestNext t8 0) = t12
                  refine lv_lstore (lv' := [(4, .long t12), (6, .int ub), (0, .ref (ad 0)), (1, .long b1), (3, .ref (ad (18 + j2)))]) hx hb dX2_digestDate_109 hl (by decide) rfl (fun ls hl => ?_)
                  refine lv_iinc (v := ub + 1) (lv' := [(6, .int (ub + 1)), (4, .long t12), (0, .ref (ad 0)), (1, .long b1), (3, .ref (ad (18 + j2)))]) hx hb dX2_digestDate_111 hl (k := 1) rfl rfl (by decide) rfl (fun ls hl => ?_)
                  refine lv_goto (tgt := 35) hx hb dX2_digestDate_114 (by decide) ?_
                  exact ih3 (ub + 1) t12 sp9 t10.2 H locs (fu_le c4 hn3) (inc_nn hzub c4) (hksp3) (e10) B ls (lv_sub hl [0, 1, 2, 3, 4] rfl)
                · refine lv_aload_n hx hb dX2_digestDate_94 rfl (lv_at hl 2 rfl) ?_
                  refine g_get (q := 0) (k := 8) X hK B rfl in_X2 (pl_c hN 0 (by decide)) cf_0 (by decide) lk_X2_33 rfl rfl dX2_digestDate_95 ?_
                  refine k_i (k := 0) (n := 0) hA B (u_VN (rest := [.long t8]) X (c_X0_signs l g N ad x sp9 t10.2 la kn re hN 4 (by decide) H.size) mw_X0_signs md_X0_signs rfl lk_X2_257 ⟨Nat.le_of_ble_eq_true rfl, Nat.le_of_ble_eq_true rfl⟩ hA hK hT B (pl_dy hN (by decide)) (cf_dy (by decide)) rfl rfl hl.1 rfl (Nat.le_of_ble_eq_true rfl) dX2_digestDate_98 ⟨Nat.le_of_ble_eq_true rfl, Nat.le_of_ble_eq_true rfl⟩) (Nat.le_of_ble_eq_true rfl) (Nat.le_of_ble_eq_true rfl) (fun r ad' f' H locs hw B => ?_)
                  obtain ⟨rfl, rfl, rfl⟩ := hw
                  generalize (v_X0_signs t10.2 4) = t13
                  refine lv_i2l (v := t13.toInt64) hx hb dX2_digestDate_101 rfl ?_
                  refine lv_goto (tgt := 106) hx hb dX2_digestDate_102 (by decide) ?_
                  refine k_l (k := 0) (n := 0) hA B (u_S (rest := []) X (c_X2_digestNext l g N ad x sp9 t10.2 la kn re hN t8 t13.toInt64 H.size) mw_X2_digestNext md_X2_digestNext rfl lk_X2_213 ⟨Nat.le_of_ble_eq_true rfl, Nat.le_of_ble_eq_true rfl⟩ hA hK hT B hl.1 rfl (Nat.le_of_ble_eq_true rfl) dX2_digestDate_106 ⟨Nat.le_of_ble_eq_true rfl, Nat.le_of_ble_eq_true rfl⟩) (Nat.le_of_ble_eq_true rfl) (Nat.le_of_ble_eq_true rfl) (fun r ad' f' H locs hw B => ?_)
                  obtain ⟨rfl, rfl, rfl⟩ := hw
                  generalize (v_X2_digestNext t8 t13.toInt64) = t14
                  refine lv_lstore (lv' := [(4, .long t14), (6, .int ub), (0, .ref (ad 0)), (1, .long b1), (3, .ref (ad (18 + j2)))]) hx hb dX2_digestDate_109 hl (by decide) rfl (fun ls hl => ?_)
                  refine lv_iinc (v := ub + 1) (lv' := [(6, .int (ub + 1)), (4, .long t14), (0, .ref (ad 0)), (1, .long b1), (3, .ref (ad (18 + j2)))]) hx hb dX2_digestDate_111 hl (k := 1) rfl rfl (by decide) rfl (fun ls hl => ?_)
                  refine lv_goto (tgt := 35) hx hb dX2_digestDate_114 (by decide) ?_
                  exact ih3 (ub + 1) t14 sp9 t10.2 H locs (fu_le c4 hn3) (inc_nn hzub c4) (hksp3) (e10) B ls (lv_sub hl [0, 1, 2, 3, 4] rfl)
              · refine lv_aload_n hx hb dX2_digestDate_59 rfl (lv_at hl 2 rfl) ?_
                refine g_get (q := 0) (k := 8) X hK B rfl in_X2 (pl_c hN 0 (by decide)) cf_0 (by decide) lk_X2_33 rfl rfl dX2_digestDate_60 ?_
                refine k_i (k := 0) (n := 0) hA B (u_VN (rest := [.long db]) X (c_X0_signs l g N ad x sp9 t6.2 la kn re hN 4 (by decide) H.size) mw_X0_signs md_X0_signs rfl lk_X2_257 ⟨Nat.le_of_ble_eq_true rfl, Nat.le_of_ble_eq_true rfl⟩ hA hK hT B (pl_dy hN (by decide)) (cf_dy (by decide)) rfl rfl hl.1 rfl (Nat.le_of_ble_eq_true rfl) dX2_digestDate_63 ⟨Nat.le_of_ble_eq_true rfl, Nat.le_of_ble_eq_true rfl⟩) (Nat.le_of_ble_eq_true rfl) (Nat.le_of_ble_eq_true rfl) (fun r ad' f' H locs hw B => ?_)
                obtain ⟨rfl, rfl, rfl⟩ := hw
                generalize (v_X0_signs t6.2 4) = t15
                refine lv_i2l (v := t15.toInt64) hx hb dX2_digestDate_66 rfl ?_
                refine lv_goto (tgt := 71) hx hb dX2_digestDate_67 (by decide) ?_
                refine k_l (k := 0) (n := 0) hA B (u_S (rest := []) X (c_X2_digestNext l g N ad x sp9 t6.2 la kn re hN db t15.toInt64 H.size) mw_X2_digestNext md_X2_digestNext rfl lk_X2_213 ⟨Nat.le_of_ble_eq_true rfl, Nat.le_of_ble_eq_true rfl⟩ hA hK hT B hl.1 rfl (Nat.le_of_ble_eq_true rfl) dX2_digestDate_71 ⟨Nat.le_of_ble_eq_true rfl, Nat.le_of_ble_eq_true rfl⟩) (Nat.le_of_ble_eq_true rfl) (Nat.le_of_ble_eq_true rfl) (fun r ad' f' H locs hw B => ?_)
                obtain ⟨rfl, rfl, rfl⟩ := hw
                generalize (v_X2_digestNext db t15.toInt64) = t16
                refine lv_lstore (lv' := [(4, .long t16), (6, .int ub), (0, .ref (ad 0)), (1, .long b1), (3, .ref (ad (18 + j2)))]) hx hb dX2_digestDate_74 hl (by decide) rfl (fun ls hl => ?_)
                refine lv_lload hx hb dX2_digestDate_76 (lv_at hl 0 rfl) ?_
                refine lv_aload_n hx hb dX2_digestDate_78 rfl (lv_at hl 2 rfl) ?_
                refine lv_aload_n hx hb dX2_digestDate_79 rfl (lv_at hl 4 rfl) ?_
                refine lv_aload_n hx hb dX2_digestDate_80 rfl (lv_at hl 2 rfl) ?_
                refine g_get (q := 0) (k := 0) X hK B rfl in_X2 (pl_c hN 0 (by decide)) cf_0 (by decide) lk_X2_11 rfl rfl dX2_digestDate_81 ?_
                refine lv_iload hx hb dX2_digestDate_84 (lv_at hl 1 rfl) ?_
                refine g_aald (q := 1) (t0 := 3) X hK B (pl_c hN 1 (by decide)) cf_1 rfl rfl (ix_in (n := 4) hzub c4 rfl) dX2_digestDate_86 ?_
                have h17 : ub.toNatClampNeg < 14 := by have := (ix_lt (n := 4) hzub c4 rfl); omega
                refine lv_iconst (v := 1) hx hb dX2_digestDate_87 (by decide) ?_
                refine k_i (k := 0) (n := 0) hA B (u_V (rest := [.long t16]) X (c_X2_reach l g N ad x sp9 t6.2 la kn re hN j2 hj2 ub.toNatClampNeg h17 1 H.size) mw_X2_reach md_X2_reach rfl lk_X2_161 ⟨Nat.le_of_ble_eq_true rfl, Nat.le_of_ble_eq_true rfl⟩ hA hK hT B (pl_c hN 0 (by decide)) cf_0 rfl rfl hl.1 rfl (Nat.le_of_ble_eq_true rfl) dX2_digestDate_88 ⟨Nat.le_of_ble_eq_true rfl, Nat.le_of_ble_eq_true rfl⟩) (Nat.le_of_ble_eq_true rfl) (Nat.le_of_ble_eq_true rfl) (fun r ad' f' H locs hw B => ?_)
                obtain ⟨rfl, rfl, rfl⟩ := hw
                have e18 : ∀ j, j < 4 → (v_X2_reach sp9 t6.2 j2 ub.toNatClampNeg 1).2 j = dy j := fun j hj => (kp_X2_reach_dy (by omega)).trans (e6 j hj)
                generalize (v_X2_reach sp9 t6.2 j2 ub.toNatClampNeg 1) = t18 at e18 B ⊢
                refine lv_if_eq (tgt := 105) hx hb dX2_digestDate_91 (by decide) (fun c19 => ?_) (fun c19 => ?_)
                · refine lv_lconst (v := 0) hx hb dX2_digestDate_105 (by decide) ?_
                  refine k_l (k := 0) (n := 0) hA B (u_S (rest := []) X (c_X2_digestNext l g N ad x sp9 t18.2 la kn re hN t16 0 H.size) mw_X2_digestNext md_X2_digestNext rfl lk_X2_213 ⟨Nat.le_of_ble_eq_true rfl, Nat.le_of_ble_eq_true rfl⟩ hA hK hT B hl.1 rfl (Nat.le_of_ble_eq_true rfl) dX2_digestDate_106 ⟨Nat.le_of_ble_eq_true rfl, Nat.le_of_ble_eq_true rfl⟩) (Nat.le_of_ble_eq_true rfl) (Nat.le_of_ble_eq_true rfl) (fun r ad' f' H locs hw B => ?_)
                  obtain ⟨rfl, rfl, rfl⟩ := hw
                  generalize (v_X2_digestNext t16 0) = t20
                  refine lv_lstore (lv' := [(4, .long t20), (6, .int ub), (0, .ref (ad 0)), (1, .long b1), (3, .ref (ad (18 + j2)))]) hx hb dX2_digestDate_109 hl (by decide) rfl (fun ls hl => ?_)
                  refine lv_iinc (v := ub + 1) (lv' := [(6, .int (ub + 1)), (4, .long t20), (0, .ref (ad 0)), (1, .long b1), (3, .ref (ad (18 + j2)))]) hx hb dX2_digestDate_111 hl (k := 1) rfl rfl (by decide) rfl (fun ls hl => ?_)
                  refine lv_goto (tgt := 35) hx hb dX2_digestDate_114 (by decide) ?_
                  exact ih3 (ub + 1) t20 sp9 t18.2 H locs (fu_le c4 hn3) (inc_nn hzub c4) (hksp3) (e18) B ls (lv_sub hl [0, 1, 2, 3, 4] rfl)
                · refine lv_aload_n hx hb dX2_digestDate_94 rfl (lv_at hl 2 rfl) ?_
                  refine g_get (q := 0) (k := 8) X hK B rfl in_X2 (pl_c hN 0 (by decide)) cf_0 (by decide) lk_X2_33 rfl rfl dX2_digestDate_95 ?_
                  refine k_i (k := 0) (n := 0) hA B (u_VN (rest := [.long t16]) X (c_X0_signs l g N ad x sp9 t18.2 la kn re hN 4 (by decide) H.size) mw_X0_signs md_X0_signs rfl lk_X2_257 ⟨Nat.le_of_ble_eq_true rfl, Nat.le_of_ble_eq_true rfl⟩ hA hK hT B (pl_dy hN (by decide)) (cf_dy (by decide)) rfl rfl hl.1 rfl (Nat.le_of_ble_eq_true rfl) dX2_digestDate_98 ⟨Nat.le_of_ble_eq_true rfl, Nat.le_of_ble_eq_true rfl⟩) (Nat.le_of_ble_eq_true rfl) (Nat.le_of_ble_eq_true rfl) (fun r ad' f' H locs hw B => ?_)
                  obtain ⟨rfl, rfl, rfl⟩ := hw
                  generalize (v_X0_signs t18.2 4) = t21
                  refine lv_i2l (v := t21.toInt64) hx hb dX2_digestDate_101 rfl ?_
                  refine lv_goto (tgt := 106) hx hb dX2_digestDate_102 (by decide) ?_
                  refine k_l (k := 0) (n := 0) hA B (u_S (rest := []) X (c_X2_digestNext l g N ad x sp9 t18.2 la kn re hN t16 t21.toInt64 H.size) mw_X2_digestNext md_X2_digestNext rfl lk_X2_213 ⟨Nat.le_of_ble_eq_true rfl, Nat.le_of_ble_eq_true rfl⟩ hA hK hT B hl.1 rfl (Nat.le_of_ble_eq_true rfl) dX2_digestDate_106 ⟨Nat.le_of_ble_eq_true rfl, Nat.le_of_ble_eq_true rfl⟩) (Nat.le_of_ble_eq_true rfl) (Nat.le_of_ble_eq_true rfl) (fun r ad' f' H locs hw B => ?_)
                  obtain ⟨rfl, rfl, rfl⟩ := hw
                  generalize (v_X2_digestNext t16 t21.toInt64) = t22
                  refine lv_lstore (lv' := [(4, .long t22), (6, .int ub), (0, .ref (ad 0)), (1, .long b1), (3, .ref (ad (18 + j2)))]) hx hb dX2_digestDate_109 hl (by decide) rfl (fun ls hl => ?_)
                  refine lv_iinc (v := ub + 1) (lv' := [(6, .int (ub + 1)), (4, .long t22), (0, .ref (ad 0)), (1, .long b1), (3, .ref (ad (18 + j2)))]) hx hb dX2_digestDate_111 hl (k := 1) rfl rfl (by decide) rfl (fun ls hl => ?_)
                  refine lv_goto (tgt := 35) hx hb dX2_digestDate_114 (by decide) ?_
                  exact ih3 (ub + 1) t22 sp9 t18.2 H locs (fu_le c4 hn3) (inc_nn hzub c4) (hksp3) (e18) B ls (lv_sub hl [0, 1, 2, 3, 4] rfl)
        exact loop3 (((4 : Int32).toInt - (0 : Int32).toInt).toNat + 1) 0 da sp9 dy9 H locs (Nat.lt_succ_self _) (by decide) (hksp1) (hkdy1) B ls hl
      · refine lv_lload hx hb dX2_digestDate_12 (lv_at hl 1 rfl) ?_
        refine lv_aload_n hx hb dX2_digestDate_14 rfl (lv_at hl 4 rfl) ?_
        refine lv_iload hx hb dX2_digestDate_15 (lv_at hl 0 rfl) ?_
        refine k_i (k := 0) (n := 0) hA B (u_VN (rest := [.long da]) X (c_X0_number l g N ad x sp9 dy9 la kn re hN j2 hj2 ua H.size) mw_X0_number md_X0_number rfl lk_X2_171 ⟨Nat.le_of_ble_eq_true rfl, Nat.le_of_ble_eq_true rfl⟩ hA hK hT B (pl_dy hN hj2) (cf_dy hj2) rfl rfl hl.1 rfl (Nat.le_of_ble_eq_true rfl) dX2_digestDate_17 ⟨Nat.le_of_ble_eq_true rfl, Nat.le_of_ble_eq_true rfl⟩) (Nat.le_of_ble_eq_true rfl) (Nat.le_of_ble_eq_true rfl) (fun r ad' f' H locs hw B => ?_)
        obtain ⟨rfl, rfl, rfl⟩ := hw
        generalize (v_X0_number dy9 j2 ua) = t23
        refine lv_i2l (v := t23.toInt64) hx hb dX2_digestDate_20 rfl ?_
        refine k_l (k := 0) (n := 0) hA B (u_S (rest := []) X (c_X2_digestNext l g N ad x sp9 dy9 la kn re hN da t23.toInt64 H.size) mw_X2_digestNext md_X2_digestNext rfl lk_X2_213 ⟨Nat.le_of_ble_eq_true rfl, Nat.le_of_ble_eq_true rfl⟩ hA hK hT B hl.1 rfl (Nat.le_of_ble_eq_true rfl) dX2_digestDate_21 ⟨Nat.le_of_ble_eq_true rfl, Nat.le_of_ble_eq_true rfl⟩) (Nat.le_of_ble_eq_true rfl) (Nat.le_of_ble_eq_true rfl) (fun r ad' f' H locs hw B => ?_)
        obtain ⟨rfl, rfl, rfl⟩ := hw
        generalize (v_X2_digestNext da t23.toInt64) = t24
        refine lv_lstore (lv' := [(4, .long t24), (6, .int ua), (0, .ref (ad 0)), (1, .long b1), (3, .ref (ad (18 + j2)))]) hx hb dX2_digestDate_24 hl (by decide) rfl (fun ls hl => ?_)
        refine lv_iinc (v := ua + 1) (lv' := [(6, .int (ua + 1)), (4, .long t24), (0, .ref (ad 0)), (1, .long b1), (3, .ref (ad (18 + j2)))]) hx hb dX2_digestDate_26 hl (k := 1) rfl rfl (by decide) rfl (fun ls hl => ?_)
        refine lv_goto (tgt := 6) hx hb dX2_digestDate_29 (by decide) ?_
        exact ih1 (ua + 1) t24 sp9 dy9 H locs (fu_le c2 hn1) (inc_nn hzua c2) (hksp1) (hkdy1) B ls (lv_sub hl [0, 1, 2, 3, 4] rfl)
  exact loop1 (((4 : Int32).toInt - (0 : Int32).toInt).toNat + 1) 0 b1 sp dy H locs (Nat.lt_succ_self _) (by decide) (fun _ _ => rfl) (fun _ _ => rfl) B ls hl
set_option maxHeartbeats 4000000 in
set_option maxRecDepth 100000 in
theorem c_X2_digestPairsOfDates (l : Launch) (g : GG) (N : Nat) (ad : Nat → Nat) (x : Nat → va_E) (sp dy : Nat → TR) (la kn re : Int32) (hN : 23 ≤ N) (b1 : Int64) : KL l yX2_digestPairsOfDates cX2_digestPairsOfDates 7 (rm 5 0 0) g [.ref (ad 0), .long b1] N ad (cf g ad x sp dy la kn re) N (fun r ad' f' => ad = ad' ∧ ∃ sp' dy' : Nat → TR, (∀ j, j < 12 → sp' j = sp j) ∧ (∀ j, j < 4 → dy' j = dy j) ∧ cf g ad x sp' dy' la kn re = f') := by
  intro sz
  refine mt_start (by decide) (Nat.le_of_ble_eq_true rfl) ?_
  intro p e s m args below meth c hsz X hr hnam hA hK hT H locs B ls hl
  obtain ⟨hx, hb, hml, hown, hts, hlocks⟩ := id X
  have hl : lv_has ls 7 [(0, .ref (ad 0)), (1, .long b1)] := hl
  refine lv_lload_n hx hb dX2_digestPairsOfDates_0 rfl (lv_at hl 1 rfl) ?_
  refine lv_lstore_n (lv' := [(3, .long b1), (0, .ref (ad 0)), (1, .long b1)]) hx hb dX2_digestPairsOfDates_1 rfl hl (by decide) rfl (fun ls hl => ?_)
  refine lv_iconst (v := 0) hx hb dX2_digestPairsOfDates_2 (by decide) ?_
  refine lv_istore (lv' := [(5, .int 0), (3, .long b1), (0, .ref (ad 0)), (1, .long b1)]) hx hb dX2_digestPairsOfDates_3 hl (by decide) rfl (fun ls hl => ?_)
  have loop1 : ∀ (n1 : Nat) (ua : Int32) (da : Int64) (sp9 : Nat → TR) (dy9 : Nat → TR) (H : Heap) (locs : List Loc), ((4 : Int32).toInt - ua.toInt).toNat < n1 → ¬ ua < 0 → (∀ j, j < 12 → sp9 j = sp j) → (∀ j, j < 4 → dy9 j = dy j) → WB g (aw N ad sz) s.heap N ad (cf g ad x sp9 dy9 la kn re) H locs → ∀ ls : Array Slot, lv_has ls 7 [(5, .int ua), (3, .long da), (0, .ref (ad 0)), (1, .long b1)] → W p l e (rm 5 0 0) s m args below meth c H locs 0 0 (MQ below (va_Ql (fun r (u : WS) => (fun r ad' f' => ad = ad' ∧ ∃ sp' dy' : Nat → TR, (∀ j, j < 12 → sp' j = sp j) ∧ (∀ j, j < 4 → dy' j = dy j) ∧ cf g ad x sp' dy' la kn re = f') r u.1 u.2) (fun u t => PO g N u.1 u.2 (aw N ad sz) t) (aw N ad sz)) args s (rm 5 0 0).cells (rm 5 0 0).slots (aw N ad sz)) (F0 m 5 ls []) := by
    intro n1
    induction n1 with
    | zero => intro ua da sp9 dy9 H locs hn; exact absurd hn (Nat.not_lt_zero _)
    | succ n1 ih1 =>
      intro ua da sp9 dy9 H locs hn1 hzua hksp1 hkdy1 B ls hl
      refine lv_iload hx hb dX2_digestPairsOfDates_5 (lv_at hl 0 rfl) ?_
      refine lv_iconst (v := 4) hx hb dX2_digestPairsOfDates_7 (by decide) ?_
      refine lv_icmp_ge (tgt := 86) hx hb dX2_digestPairsOfDates_8 (by decide) (fun c2 => ?_) (fun c2 => ?_)
      · refine lv_lload_n hx hb dX2_digestPairsOfDates_86 rfl (lv_at hl 1 rfl) ?_
        exact rt_l X hr (ad, (cf g ad x sp9 dy9 la kn re)) B (PO_of B) ⟨rfl, _, _, hksp1, hkdy1, rfl⟩ (Nat.le_of_ble_eq_true rfl) (Nat.le_of_ble_eq_true rfl) dX2_digestPairsOfDates_87
      · refine lv_iconst (v := 0) hx hb dX2_digestPairsOfDates_11 (by decide) ?_
        refine lv_istore (lv' := [(6, .int 0), (5, .int ua), (3, .long da), (0, .ref (ad 0)), (1, .long b1)]) hx hb dX2_digestPairsOfDates_12 hl (by decide) rfl (fun ls hl => ?_)
        have loop3 : ∀ (n3 : Nat) (ub : Int32) (db : Int64) (sp9 : Nat → TR) (dy9 : Nat → TR) (H : Heap) (locs : List Loc), ((4 : Int32).toInt - ub.toInt).toNat < n3 → ¬ ub < 0 → (∀ j, j < 12 → sp9 j = sp j) → (∀ j, j < 4 → dy9 j = dy j) → WB g (aw N ad sz) s.heap N ad (cf g ad x sp9 dy9 la kn re) H locs → ∀ ls : Array Slot, lv_has ls 7 [(6, .int ub), (5, .int ua), (3, .long db), (0, .ref (ad 0)), (1, .long b1)] → W p l e (rm 5 0 0) s m args below meth c H locs 0 0 (MQ below (va_Ql (fun r (u : WS) => (fun r ad' f' => ad = ad' ∧ ∃ sp' dy' : Nat → TR, (∀ j, j < 12 → sp' j = sp j) ∧ (∀ j, j < 4 → dy' j = dy j) ∧ cf g ad x sp' dy' la kn re = f') r u.1 u.2) (fun u t => PO g N u.1 u.2 (aw N ad sz) t) (aw N ad sz)) args s (rm 5 0 0).cells (rm 5 0 0).slots (aw N ad sz)) (F0 m 14 ls []) := by
          intro n3
          induction n3 with
          | zero => intro ub db sp9 dy9 H locs hn; exact absurd hn (Nat.not_lt_zero _)
          | succ n3 ih3 =>
            intro ub db sp9 dy9 H locs hn3 hzub hksp3 hkdy3 B ls hl
            refine lv_iload hx hb dX2_digestPairsOfDates_14 (lv_at hl 0 rfl) ?_
            refine lv_iconst (v := 4) hx hb dX2_digestPairsOfDates_16 (by decide) ?_
            refine lv_icmp_ge (tgt := 80) hx hb dX2_digestPairsOfDates_17 (by decide) (fun c4 => ?_) (fun c4 => ?_)
            · refine lv_iinc (v := ua + 1) (lv' := [(5, .int (ua + 1)), (6, .int ub), (3, .long db), (0, .ref (ad 0)), (1, .long b1)]) hx hb dX2_digestPairsOfDates_80 hl (k := 1) rfl rfl (by decide) rfl (fun ls hl => ?_)
              refine lv_goto (tgt := 5) hx hb dX2_digestPairsOfDates_83 (by decide) ?_
              exact ih1 (ua + 1) db sp9 dy9 H locs (fu_le c2 hn1) (inc_nn hzua c2) (hksp3) (hkdy3) B ls (lv_sub hl [0, 2, 3, 4] rfl)
            · refine lv_lload_n hx hb dX2_digestPairsOfDates_20 rfl (lv_at hl 2 rfl) ?_
              refine lv_aload_n hx hb dX2_digestPairsOfDates_21 rfl (lv_at hl 3 rfl) ?_
              refine g_get (q := 0) (k := 2) X hK B rfl in_X2 (pl_c hN 0 (by decide)) cf_0 (by decide) lk_X2_20 rfl rfl dX2_digestPairsOfDates_22 ?_
              refine lv_iload hx hb dX2_digestPairsOfDates_25 (lv_at hl 1 rfl) ?_
              refine g_aald (q := 3) (t0 := 4) X hK B (pl_c hN 3 (by decide)) cf_3 rfl rfl (ix_in (n := 4) hzua c2 rfl) dX2_digestPairsOfDates_27 ?_
              have h5 : ua.toNatClampNeg < 5 := by have := (ix_lt (n := 4) hzua c2 rfl); omega
              refine lv_aload_n hx hb dX2_digestPairsOfDates_28 rfl (lv_at hl 3 rfl) ?_
              refine g_get (q := 0) (k := 2) X hK B rfl in_X2 (pl_c hN 0 (by decide)) cf_0 (by decide) lk_X2_20 rfl rfl dX2_digestPairsOfDates_29 ?_
              refine lv_iload hx hb dX2_digestPairsOfDates_32 (lv_at hl 0 rfl) ?_
              refine g_aald (q := 3) (t0 := 4) X hK B (pl_c hN 3 (by decide)) cf_3 rfl rfl (ix_in (n := 4) hzub c4 rfl) dX2_digestPairsOfDates_34 ?_
              have h6 : ub.toNatClampNeg < 5 := by have := (ix_lt (n := 4) hzub c4 rfl); omega
              refine k_i (k := 0) (n := 0) hA B (u_VN (rest := [.long db]) X (c_X0_orderTo l g N ad x sp9 dy9 la kn re hN ua.toNatClampNeg h5 ub.toNatClampNeg h6 H.size) mw_X0_orderTo md_X0_orderTo rfl lk_X2_181 ⟨Nat.le_of_ble_eq_true rfl, Nat.le_of_ble_eq_true rfl⟩ hA hK hT B (pl_dy hN h5) (cf_dy h5) rfl rfl hl.1 rfl (Nat.le_of_ble_eq_true rfl) dX2_digestPairsOfDates_35 ⟨Nat.le_of_ble_eq_true rfl, Nat.le_of_ble_eq_true rfl⟩) (Nat.le_of_ble_eq_true rfl) (Nat.le_of_ble_eq_true rfl) (fun r ad' f' H locs hw B => ?_)
              obtain ⟨rfl, rfl, rfl⟩ := hw
              generalize (v_X0_orderTo dy9 ua.toNatClampNeg ub.toNatClampNeg) = t7
              refine lv_i2l (v := t7.toInt64) hx hb dX2_digestPairsOfDates_38 rfl ?_
              refine k_l (k := 0) (n := 0) hA B (u_S (rest := []) X (c_X2_digestNext l g N ad x sp9 dy9 la kn re hN db t7.toInt64 H.size) mw_X2_digestNext md_X2_digestNext rfl lk_X2_213 ⟨Nat.le_of_ble_eq_true rfl, Nat.le_of_ble_eq_true rfl⟩ hA hK hT B hl.1 rfl (Nat.le_of_ble_eq_true rfl) dX2_digestPairsOfDates_39 ⟨Nat.le_of_ble_eq_true rfl, Nat.le_of_ble_eq_true rfl⟩) (Nat.le_of_ble_eq_true rfl) (Nat.le_of_ble_eq_true rfl) (fun r ad' f' H locs hw B => ?_)
              obtain ⟨rfl, rfl, rfl⟩ := hw
              generalize (v_X2_digestNext db t7.toInt64) = t8
              refine lv_lstore_n (lv' := [(3, .long t8), (6, .int ub), (5, .int ua), (0, .ref (ad 0)), (1, .long b1)]) hx hb dX2_digestPairsOfDates_42 rfl hl (by decide) rfl (fun ls hl => ?_)
              refine lv_lload_n hx hb dX2_digestPairsOfDates_43 rfl (lv_at hl 0 rfl) ?_
              refine lv_aload_n hx hb dX2_digestPairsOfDates_44 rfl (lv_at hl 3 rfl) ?_
              refine lv_aload_n hx hb dX2_digestPairsOfDates_45 rfl (lv_at hl 3 rfl) ?_
              refine g_get (q := 0) (k := 6) X hK B rfl in_X2 (pl_c hN 0 (by decide)) cf_0 (by decide) lk_X2_25 rfl rfl dX2_digestPairsOfDates_46 ?_
              refine lv_aload_n hx hb dX2_digestPairsOfDates_49 rfl (lv_at hl 3 rfl) ?_
              refine g_get (q := 0) (k := 2) X hK B rfl in_X2 (pl_c hN 0 (by decide)) cf_0 (by decide) lk_X2_20 rfl rfl dX2_digestPairsOfDates_50 ?_
              refine lv_iload hx hb dX2_digestPairsOfDates_53 (lv_at hl 2 rfl) ?_
              refine g_aald (q := 3) (t0 := 4) X hK B (pl_c hN 3 (by decide)) cf_3 rfl rfl (ix_in (n := 4) hzua c2 rfl) dX2_digestPairsOfDates_55 ?_
              have h9 : ua.toNatClampNeg < 5 := by have := (ix_lt (n := 4) hzua c2 rfl); omega
              refine lv_aload_n hx hb dX2_digestPairsOfDates_56 rfl (lv_at hl 3 rfl) ?_
              refine g_get (q := 0) (k := 2) X hK B rfl in_X2 (pl_c hN 0 (by decide)) cf_0 (by decide) lk_X2_20 rfl rfl dX2_digestPairsOfDates_57 ?_
              refine lv_iload hx hb dX2_digestPairsOfDates_60 (lv_at hl 1 rfl) ?_
              refine g_aald (q := 3) (t0 := 4) X hK B (pl_c hN 3 (by decide)) cf_3 rfl rfl (ix_in (n := 4) hzub c4 rfl) dX2_digestPairsOfDates_62 ?_
              have h10 : ub.toNatClampNeg < 5 := by have := (ix_lt (n := 4) hzub c4 rfl); omega
              refine k_i (k := 0) (n := 0) hA B (u_VN (rest := [.ref (ad 0), .long t8]) X (c_X1_putBetween l g N ad x sp9 dy9 la kn re hN 12 (by decide) ua.toNatClampNeg h9 ub.toNatClampNeg h10 H.size) mw_X1_putBetween md_X1_putBetween rfl lk_X2_173 ⟨Nat.le_of_ble_eq_true rfl, Nat.le_of_ble_eq_true rfl⟩ hA hK hT B (pl_sp hN (by decide)) (cf_sp (by decide)) rfl rfl hl.1 rfl (Nat.le_of_ble_eq_true rfl) dX2_digestPairsOfDates_63 ⟨Nat.le_of_ble_eq_true rfl, Nat.le_of_ble_eq_true rfl⟩) (Nat.le_of_ble_eq_true rfl) (Nat.le_of_ble_eq_true rfl) (fun r ad' f' H locs hw B => ?_)
              obtain ⟨rfl, rfl, rfl⟩ := hw
              have k11 : ∀ j, j < 12 → (v_X1_putBetween sp9 dy9 12 ua.toNatClampNeg ub.toNatClampNeg).2 j = sp j := fun j hj => (kp_X1_putBetween_sp (by omega)).trans (hksp3 j hj)
              generalize (v_X1_putBetween sp9 dy9 12 ua.toNatClampNeg ub.toNatClampNeg) = t11 at k11 B ⊢
              refine k_i (k := 0) (n := 0) hA B (u_V (rest := [.long t8]) X (c_X2_resultSigns l g N ad x t11.2 dy9 la kn re hN t11.1 H.size) mw_X2_resultSigns md_X2_resultSigns rfl lk_X2_253 ⟨Nat.le_of_ble_eq_true rfl, Nat.le_of_ble_eq_true rfl⟩ hA hK hT B (pl_c hN 0 (by decide)) cf_0 rfl rfl hl.1 rfl (Nat.le_of_ble_eq_true rfl) dX2_digestPairsOfDates_66 ⟨Nat.le_of_ble_eq_true rfl, Nat.le_of_ble_eq_true rfl⟩) (Nat.le_of_ble_eq_true rfl) (Nat.le_of_ble_eq_true rfl) (fun r ad' f' H locs hw B => ?_)
              obtain ⟨rfl, rfl, rfl⟩ := hw
              generalize (v_X2_resultSigns t11.2 t11.1) = t12
              refine lv_i2l (v := t12.toInt64) hx hb dX2_digestPairsOfDates_69 rfl ?_
              refine k_l (k := 0) (n := 0) hA B (u_S (rest := []) X (c_X2_digestNext l g N ad x t11.2 dy9 la kn re hN t8 t12.toInt64 H.size) mw_X2_digestNext md_X2_digestNext rfl lk_X2_213 ⟨Nat.le_of_ble_eq_true rfl, Nat.le_of_ble_eq_true rfl⟩ hA hK hT B hl.1 rfl (Nat.le_of_ble_eq_true rfl) dX2_digestPairsOfDates_70 ⟨Nat.le_of_ble_eq_true rfl, Nat.le_of_ble_eq_true rfl⟩) (Nat.le_of_ble_eq_true rfl) (Nat.le_of_ble_eq_true rfl) (fun r ad' f' H locs hw B => ?_)
              obtain ⟨rfl, rfl, rfl⟩ := hw
              generalize (v_X2_digestNext t8 t12.toInt64) = t13
              refine lv_lstore_n (lv' := [(3, .long t13), (6, .int ub), (5, .int ua), (0, .ref (ad 0)), (1, .long b1)]) hx hb dX2_digestPairsOfDates_73 rfl hl (by decide) rfl (fun ls hl => ?_)
              refine lv_iinc (v := ub + 1) (lv' := [(6, .int (ub + 1)), (3, .long t13), (5, .int ua), (0, .ref (ad 0)), (1, .long b1)]) hx hb dX2_digestPairsOfDates_74 hl (k := 1) rfl rfl (by decide) rfl (fun ls hl => ?_)
              refine lv_goto (tgt := 14) hx hb dX2_digestPairsOfDates_77 (by decide) ?_
              exact ih3 (ub + 1) t13 t11.2 dy9 H locs (fu_le c4 hn3) (inc_nn hzub c4) (k11) (hkdy3) B ls (lv_sub hl [0, 2, 1, 3, 4] rfl)
        exact loop3 (((4 : Int32).toInt - (0 : Int32).toInt).toNat + 1) 0 da sp9 dy9 H locs (Nat.lt_succ_self _) (by decide) (hksp1) (hkdy1) B ls hl
  exact loop1 (((4 : Int32).toInt - (0 : Int32).toInt).toNat + 1) 0 b1 sp dy H locs (Nat.lt_succ_self _) (by decide) (fun _ _ => rfl) (fun _ _ => rfl) B ls hl
set_option maxHeartbeats 4000000 in
set_option maxRecDepth 100000 in
theorem c_X2_digest (l : Launch) (g : GG) (N : Nat) (ad : Nat → Nat) (x : Nat → va_E) (sp dy : Nat → TR) (la kn re : Int32) (hN : 23 ≤ N) (hla : ¬ la < 0) (hlb : ¬ 8 < la) : KL l yX2_digest cX2_digest 4 (rm 6 0 0) g [.ref (ad 0)] N ad (cf g ad x sp dy la kn re) N (fun r ad' f' => ad = ad' ∧ ∃ sp' dy' : Nat → TR, (∀ j, j < 12 → sp' j = sp j) ∧ (∀ j, j < 4 → dy' j = dy j) ∧ cf g ad x sp' dy' la kn re = f') := by
  intro sz
  refine mt_start (by decide) (Nat.le_of_ble_eq_true rfl) ?_
  intro p e s m args below meth c hsz X hr hnam hA hK hT H locs B ls hl
  obtain ⟨hx, hb, hml, hown, hts, hlocks⟩ := id X
  have hl : lv_has ls 4 [(0, .ref (ad 0))] := hl
  refine lv_ldc2 hx hb hown (hts _ (List.mem_cons_of_mem _ lk_X2_200)) dX2_digest_0 ?_
  refine lv_lstore_n (lv' := [(1, .long 6217), (0, .ref (ad 0))]) hx hb dX2_digest_3 rfl hl (by decide) rfl (fun ls hl => ?_)
  refine lv_iconst (v := 0) hx hb dX2_digest_4 (by decide) ?_
  refine lv_istore_n (lv' := [(3, .int 0), (1, .long 6217), (0, .ref (ad 0))]) hx hb dX2_digest_5 rfl hl (by decide) rfl (fun ls hl => ?_)
  have loop1 : ∀ (n1 : Nat) (ua : Int32) (da : Int64) (sp9 : Nat → TR) (dy9 : Nat → TR) (H : Heap) (locs : List Loc), ((4 : Int32).toInt - ua.toInt).toNat < n1 → ¬ ua < 0 → (∀ j, j < 12 → sp9 j = sp j) → (∀ j, j < 4 → dy9 j = dy j) → WB g (aw N ad sz) s.heap N ad (cf g ad x sp9 dy9 la kn re) H locs → ∀ ls : Array Slot, lv_has ls 4 [(3, .int ua), (1, .long da), (0, .ref (ad 0))] → W p l e (rm 6 0 0) s m args below meth c H locs 0 0 (MQ below (va_Ql (fun r (u : WS) => (fun r ad' f' => ad = ad' ∧ ∃ sp' dy' : Nat → TR, (∀ j, j < 12 → sp' j = sp j) ∧ (∀ j, j < 4 → dy' j = dy j) ∧ cf g ad x sp' dy' la kn re = f') r u.1 u.2) (fun u t => PO g N u.1 u.2 (aw N ad sz) t) (aw N ad sz)) args s (rm 6 0 0).cells (rm 6 0 0).slots (aw N ad sz)) (F0 m 6 ls []) := by
    intro n1
    induction n1 with
    | zero => intro ua da sp9 dy9 H locs hn; exact absurd hn (Nat.not_lt_zero _)
    | succ n1 ih1 =>
      intro ua da sp9 dy9 H locs hn1 hzua hksp1 hkdy1 B ls hl
      refine lv_iload_n hx hb dX2_digest_6 rfl (lv_at hl 0 rfl) ?_
      refine lv_iconst (v := 4) hx hb dX2_digest_7 (by decide) ?_
      refine lv_icmp_ge (tgt := 29) hx hb dX2_digest_8 (by decide) (fun c2 => ?_) (fun c2 => ?_)
      · refine lv_aload_n hx hb dX2_digest_29 rfl (lv_at hl 2 rfl) ?_
        refine lv_lload_n hx hb dX2_digest_30 rfl (lv_at hl 1 rfl) ?_
        refine k_l (k := 0) (n := 0) hA B (u_V (rest := []) X (c_X2_digestPairsOfCards l g N ad x sp9 dy9 la kn re hN da H.size) mw_X2_digestPairsOfCards md_X2_digestPairsOfCards rfl lk_X2_206 ⟨Nat.le_of_ble_eq_true rfl, Nat.le_of_ble_eq_true rfl⟩ hA hK hT B (pl_c hN 0 (by decide)) cf_0 rfl rfl hl.1 rfl (Nat.le_of_ble_eq_true rfl) dX2_digest_31 ⟨Nat.le_of_ble_eq_true rfl, Nat.le_of_ble_eq_true rfl⟩) (Nat.le_of_ble_eq_true rfl) (Nat.le_of_ble_eq_true rfl) (fun r3 ad' f' H locs hw B => ?_)
        obtain ⟨rfl, sp3, dy3, k3, e3, rfl⟩ := hw
        have k3 : ∀ j, j < 12 → sp3 j = sp j := fun j hj => (k3 j hj).trans (hksp1 j hj)
        have e3 : ∀ j, j < 4 → dy3 j = dy j := fun j hj => (e3 j hj).trans (hkdy1 j hj)
        refine lv_lstore_n (lv' := [(1, .long r3), (3, .int ua), (0, .ref (ad 0))]) hx hb dX2_digest_34 rfl hl (by decide) rfl (fun ls hl => ?_)
        refine lv_iconst (v := 0) hx hb dX2_digest_35 (by decide) ?_
        refine lv_istore_n (lv' := [(3, .int 0), (1, .long r3), (0, .ref (ad 0))]) hx hb dX2_digest_36 rfl hl (by decide) rfl (fun ls hl => ?_)
        have loop4 : ∀ (n4 : Nat) (uc : Int32) (dc : Int64) (sp9 : Nat → TR) (dy9 : Nat → TR) (H : Heap) (locs : List Loc), ((8 : Int32).toInt - uc.toInt).toNat < n4 → ¬ uc < 0 → (∀ j, j < 12 → sp9 j = sp j) → (∀ j, j < 4 → dy9 j = dy j) → WB g (aw N ad sz) s.heap N ad (cf g ad x sp9 dy9 la kn re) H locs → ∀ ls : Array Slot, lv_has ls 4 [(3, .int uc), (1, .long dc), (0, .ref (ad 0))] → W p l e (rm 6 0 0) s m args below meth c H locs 0 0 (MQ below (va_Ql (fun r (u : WS) => (fun r ad' f' => ad = ad' ∧ ∃ sp' dy' : Nat → TR, (∀ j, j < 12 → sp' j = sp j) ∧ (∀ j, j < 4 → dy' j = dy j) ∧ cf g ad x sp' dy' la kn re = f') r u.1 u.2) (fun u t => PO g N u.1 u.2 (aw N ad sz) t) (aw N ad sz)) args s (rm 6 0 0).cells (rm 6 0 0).slots (aw N ad sz)) (F0 m 37 ls []) := by
          intro n4
          induction n4 with
          | zero => intro uc dc sp9 dy9 H locs hn; exact absurd hn (Nat.not_lt_zero _)
          | succ n4 ih4 =>
            intro uc dc sp9 dy9 H locs hn4 hzuc hksp4 hkdy4 B ls hl
            refine lv_iload_n hx hb dX2_digest_37 rfl (lv_at hl 0 rfl) ?_
            refine lv_bipush (v := 8) hx hb dX2_digest_38 (by decide) ?_
            refine lv_icmp_ge (tgt := 76) hx hb dX2_digest_40 (by decide) (fun c5 => ?_) (fun c5 => ?_)
            · refine lv_iconst (v := 0) hx hb dX2_digest_76 (by decide) ?_
              refine lv_istore_n (lv' := [(3, .int 0), (1, .long dc), (0, .ref (ad 0))]) hx hb dX2_digest_77 rfl hl (by decide) rfl (fun ls hl => ?_)
              have loop6 : ∀ (n6 : Nat) (ud : Int32) (dd : Int64) (sp9 : Nat → TR) (dy9 : Nat → TR) (H : Heap) (locs : List Loc), ((4 : Int32).toInt - ud.toInt).toNat < n6 → ¬ ud < 0 → (∀ j, j < 12 → sp9 j = sp j) → (∀ j, j < 4 → dy9 j = dy j) → WB g (aw N ad sz) s.heap N ad (cf g ad x sp9 dy9 la kn re) H locs → ∀ ls : Array Slot, lv_has ls 4 [(3, .int ud), (1, .long dd), (0, .ref (ad 0))] → W p l e (rm 6 0 0) s m args below meth c H locs 0 0 (MQ below (va_Ql (fun r (u : WS) => (fun r ad' f' => ad = ad' ∧ ∃ sp' dy' : Nat → TR, (∀ j, j < 12 → sp' j = sp j) ∧ (∀ j, j < 4 → dy' j = dy j) ∧ cf g ad x sp' dy' la kn re = f') r u.1 u.2) (fun u t => PO g N u.1 u.2 (aw N ad sz) t) (aw N ad sz)) args s (rm 6 0 0).cells (rm 6 0 0).slots (aw N ad sz)) (F0 m 78 ls []) := by
                intro n6
                induction n6 with
                | zero => intro ud dd sp9 dy9 H locs hn; exact absurd hn (Nat.not_lt_zero _)
                | succ n6 ih6 =>
                  intro ud dd sp9 dy9 H locs hn6 hzud hksp6 hkdy6 B ls hl
                  refine lv_iload_n hx hb dX2_digest_78 rfl (lv_at hl 0 rfl) ?_
                  refine lv_iconst (v := 4) hx hb dX2_digest_79 (by decide) ?_
                  refine lv_icmp_ge (tgt := 101) hx hb dX2_digest_80 (by decide) (fun c7 => ?_) (fun c7 => ?_)
                  · refine lv_aload_n hx hb dX2_digest_101 rfl (lv_at hl 2 rfl) ?_
                    refine lv_lload_n hx hb dX2_digest_102 rfl (lv_at hl 1 rfl) ?_
                    refine k_l (k := 0) (n := 0) hA B (u_V (rest := []) X (c_X2_digestPairsOfDates l g N ad x sp9 dy9 la kn re hN dd H.size) mw_X2_digestPairsOfDates md_X2_digestPairsOfDates rfl lk_X2_221 ⟨Nat.le_of_ble_eq_true rfl, Nat.le_of_ble_eq_true rfl⟩ hA hK hT B (pl_c hN 0 (by decide)) cf_0 rfl rfl hl.1 rfl (Nat.le_of_ble_eq_true rfl) dX2_digest_103 ⟨Nat.le_of_ble_eq_true rfl, Nat.le_of_ble_eq_true rfl⟩) (Nat.le_of_ble_eq_true rfl) (Nat.le_of_ble_eq_true rfl) (fun r8 ad' f' H locs hw B => ?_)
                    obtain ⟨rfl, sp8, dy8, k8, e8, rfl⟩ := hw
                    have k8 : ∀ j, j < 12 → sp8 j = sp j := fun j hj => (k8 j hj).trans (hksp6 j hj)
                    have e8 : ∀ j, j < 4 → dy8 j = dy j := fun j hj => (e8 j hj).trans (hkdy6 j hj)
                    refine lv_lstore_n (lv' := [(1, .long r8), (3, .int ud), (0, .ref (ad 0))]) hx hb dX2_digest_106 rfl hl (by decide) rfl (fun ls hl => ?_)
                    refine lv_iconst (v := 0) hx hb dX2_digest_107 (by decide) ?_
                    refine lv_istore_n (lv' := [(3, .int 0), (1, .long r8), (0, .ref (ad 0))]) hx hb dX2_digest_108 rfl hl (by decide) rfl (fun ls hl => ?_)
                    have loop9 : ∀ (n9 : Nat) (ue : Int32) (de : Int64) (sp9 : Nat → TR) (dy9 : Nat → TR) (H : Heap) (locs : List Loc), ((5 : Int32).toInt - ue.toInt).toNat < n9 → ¬ ue < 0 → (∀ j, j < 12 → sp9 j = sp j) → (∀ j, j < 4 → dy9 j = dy j) → WB g (aw N ad sz) s.heap N ad (cf g ad x sp9 dy9 la kn re) H locs → ∀ ls : Array Slot, lv_has ls 4 [(3, .int ue), (1, .long de), (0, .ref (ad 0))] → W p l e (rm 6 0 0) s m args below meth c H locs 0 0 (MQ below (va_Ql (fun r (u : WS) => (fun r ad' f' => ad = ad' ∧ ∃ sp' dy' : Nat → TR, (∀ j, j < 12 → sp' j = sp j) ∧ (∀ j, j < 4 → dy' j = dy j) ∧ cf g ad x sp' dy' la kn re = f') r u.1 u.2) (fun u t => PO g N u.1 u.2 (aw N ad sz) t) (aw N ad sz)) args s (rm 6 0 0).cells (rm 6 0 0).slots (aw N ad sz)) (F0 m 109 ls []) := by
                      intro n9
                      induction n9 with
                      | zero => intro ue de sp9 dy9 H locs hn; exact absurd hn (Nat.not_lt_zero _)
                      | succ n9 ih9 =>
                        intro ue de sp9 dy9 H locs hn9 hzue hksp9 hkdy9 B ls hl
                        refine lv_iload_n hx hb dX2_digest_109 rfl (lv_at hl 0 rfl) ?_
                        refine lv_iconst (v := 5) hx hb dX2_digest_110 (by decide) ?_
                        refine lv_icmp_ge (tgt := 131) hx hb dX2_digest_111 (by decide) (fun c10 => ?_) (fun c10 => ?_)
                        · refine lv_lload_n hx hb dX2_digest_131 rfl (lv_at hl 1 rfl) ?_
                          refine lv_aload_n hx hb dX2_digest_132 rfl (lv_at hl 2 rfl) ?_
                          refine k_i (k := 0) (n := 0) hA B (u_V (rest := [.long de]) X (c_X2_isSound l g N ad x sp9 dy9 la kn re hN H.size) mw_X2_isSound md_X2_isSound rfl lk_X2_224 ⟨Nat.le_of_ble_eq_true rfl, Nat.le_of_ble_eq_true rfl⟩ hA hK hT B (pl_c hN 0 (by decide)) cf_0 rfl rfl hl.1 rfl (Nat.le_of_ble_eq_true rfl) dX2_digest_133 ⟨Nat.le_of_ble_eq_true rfl, Nat.le_of_ble_eq_true rfl⟩) (Nat.le_of_ble_eq_true rfl) (Nat.le_of_ble_eq_true rfl) (fun r11 ad' f' H locs hw B => ?_)
                          obtain ⟨rfl, sp11, dy11, k11, e11, rfl⟩ := hw
                          have k11 : ∀ j, j < 12 → sp11 j = sp j := fun j hj => (k11 j hj).trans (hksp9 j hj)
                          have e11 : ∀ j, j < 4 → dy11 j = dy j := fun j hj => (e11 j hj).trans (hkdy9 j hj)
                          refine lv_if_eq (tgt := 143) hx hb dX2_digest_136 (by decide) (fun c12 => ?_) (fun c12 => ?_)
                          · refine lv_lconst (v := 0) hx hb dX2_digest_143 (by decide) ?_
                            refine k_l (k := 0) (n := 0) hA B (u_S (rest := []) X (c_X2_digestNext l g N ad x sp11 dy11 la kn re hN de 0 H.size) mw_X2_digestNext md_X2_digestNext rfl lk_X2_213 ⟨Nat.le_of_ble_eq_true rfl, Nat.le_of_ble_eq_true rfl⟩ hA hK hT B hl.1 rfl (Nat.le_of_ble_eq_true rfl) dX2_digest_144 ⟨Nat.le_of_ble_eq_true rfl, Nat.le_of_ble_eq_true rfl⟩) (Nat.le_of_ble_eq_true rfl) (Nat.le_of_ble_eq_true rfl) (fun r ad' f' H locs hw B => ?_)
                            obtain ⟨rfl, rfl, rfl⟩ := hw
                            generalize (v_X2_digestNext de 0) = t13
                            exact rt_l X hr (ad, (cf g ad x sp11 dy11 la kn re)) B (PO_of B) ⟨rfl, _, _, k11, e11, rfl⟩ (Nat.le_of_ble_eq_true rfl) (Nat.le_of_ble_eq_true rfl) dX2_digest_147
                          · refine lv_lconst (v := 1) hx hb dX2_digest_139 (by decide) ?_
                            refine lv_goto (tgt := 144) hx hb dX2_digest_140 (by decide) ?_
                            refine k_l (k := 0) (n := 0) hA B (u_S (rest := []) X (c_X2_digestNext l g N ad x sp11 dy11 la kn re hN de 1 H.size) mw_X2_digestNext md_X2_digestNext rfl lk_X2_213 ⟨Nat.le_of_ble_eq_true rfl, Nat.le_of_ble_eq_true rfl⟩ hA hK hT B hl.1 rfl (Nat.le_of_ble_eq_true rfl) dX2_digest_144 ⟨Nat.le_of_ble_eq_true rfl, Nat.le_of_ble_eq_true rfl⟩) (Nat.le_of_ble_eq_true rfl) (Nat.le_of_ble_eq_true rfl) (fun r ad' f' H locs hw B => ?_)
                            obtain ⟨rfl, rfl, rfl⟩ := hw
                            generalize (v_X2_digestNext de 1) = t14
                            exact rt_l X hr (ad, (cf g ad x sp11 dy11 la kn re)) B (PO_of B) ⟨rfl, _, _, k11, e11, rfl⟩ (Nat.le_of_ble_eq_true rfl) (Nat.le_of_ble_eq_true rfl) dX2_digest_147
                        · refine lv_lload_n hx hb dX2_digest_114 rfl (lv_at hl 1 rfl) ?_
                          refine lv_aload_n hx hb dX2_digest_115 rfl (lv_at hl 2 rfl) ?_
                          refine lv_iload_n hx hb dX2_digest_116 rfl (lv_at hl 0 rfl) ?_
                          refine k_i (k := 0) (n := 0) hA B (u_V (rest := [.long de]) X (c_X2_ofHouse l g N ad x sp9 dy9 la kn re hN ue H.size) mw_X2_ofHouse md_X2_ofHouse rfl lk_X2_188 ⟨Nat.le_of_ble_eq_true rfl, Nat.le_of_ble_eq_true rfl⟩ hA hK hT B (pl_c hN 0 (by decide)) cf_0 rfl rfl hl.1 rfl (Nat.le_of_ble_eq_true rfl) dX2_digest_117 ⟨Nat.le_of_ble_eq_true rfl, Nat.le_of_ble_eq_true rfl⟩) (Nat.le_of_ble_eq_true rfl) (Nat.le_of_ble_eq_true rfl) (fun r ad' f' H locs hw B => ?_)
                          obtain ⟨rfl, rfl, rfl⟩ := hw
                          generalize (v_X2_ofHouse sp9 la kn re ue) = t15
                          refine lv_i2l (v := t15.toInt64) hx hb dX2_digest_120 rfl ?_
                          refine k_l (k := 0) (n := 0) hA B (u_S (rest := []) X (c_X2_digestNext l g N ad x sp9 dy9 la kn re hN de t15.toInt64 H.size) mw_X2_digestNext md_X2_digestNext rfl lk_X2_213 ⟨Nat.le_of_ble_eq_true rfl, Nat.le_of_ble_eq_true rfl⟩ hA hK hT B hl.1 rfl (Nat.le_of_ble_eq_true rfl) dX2_digest_121 ⟨Nat.le_of_ble_eq_true rfl, Nat.le_of_ble_eq_true rfl⟩) (Nat.le_of_ble_eq_true rfl) (Nat.le_of_ble_eq_true rfl) (fun r ad' f' H locs hw B => ?_)
                          obtain ⟨rfl, rfl, rfl⟩ := hw
                          generalize (v_X2_digestNext de t15.toInt64) = t16
                          refine lv_lstore_n (lv' := [(1, .long t16), (3, .int ue), (0, .ref (ad 0))]) hx hb dX2_digest_124 rfl hl (by decide) rfl (fun ls hl => ?_)
                          refine lv_iinc (v := ue + 1) (lv' := [(3, .int (ue + 1)), (1, .long t16), (0, .ref (ad 0))]) hx hb dX2_digest_125 hl (k := 1) rfl rfl (by decide) rfl (fun ls hl => ?_)
                          refine lv_goto (tgt := 109) hx hb dX2_digest_128 (by decide) ?_
                          exact ih9 (ue + 1) t16 sp9 dy9 H locs (fu_le c10 hn9) (inc_nn hzue c10) (hksp9) (hkdy9) B ls (lv_sub hl [0, 1, 2] rfl)
                    exact loop9 (((5 : Int32).toInt - (0 : Int32).toInt).toNat + 1) 0 r8 sp8 dy8 H locs (Nat.lt_succ_self _) (by decide) (k8) (e8) B ls hl
                  · refine lv_aload_n hx hb dX2_digest_83 rfl (lv_at hl 2 rfl) ?_
                    refine lv_lload_n hx hb dX2_digest_84 rfl (lv_at hl 1 rfl) ?_
                    refine lv_aload_n hx hb dX2_digest_85 rfl (lv_at hl 2 rfl) ?_
                    refine g_get (q := 0) (k := 2) X hK B rfl in_X2 (pl_c hN 0 (by decide)) cf_0 (by decide) lk_X2_20 rfl rfl dX2_digest_86 ?_
                    refine lv_iload_n hx hb dX2_digest_89 rfl (lv_at hl 0 rfl) ?_
                    refine g_aald (q := 3) (t0 := 4) X hK B (pl_c hN 3 (by decide)) cf_3 rfl rfl (ix_in (n := 4) hzud c7 rfl) dX2_digest_90 ?_
                    have h17 : ud.toNatClampNeg < 5 := by have := (ix_lt (n := 4) hzud c7 rfl); omega
                    refine k_l (k := 0) (n := 0) hA B (u_V (rest := []) X (c_X2_digestDate l g N ad x sp9 dy9 la kn re hN dd ud.toNatClampNeg h17 H.size) mw_X2_digestDate md_X2_digestDate rfl lk_X2_217 ⟨Nat.le_of_ble_eq_true rfl, Nat.le_of_ble_eq_true rfl⟩ hA hK hT B (pl_c hN 0 (by decide)) cf_0 rfl rfl hl.1 rfl (Nat.le_of_ble_eq_true rfl) dX2_digest_91 ⟨Nat.le_of_ble_eq_true rfl, Nat.le_of_ble_eq_true rfl⟩) (Nat.le_of_ble_eq_true rfl) (Nat.le_of_ble_eq_true rfl) (fun r18 ad' f' H locs hw B => ?_)
                    obtain ⟨rfl, sp18, dy18, k18, e18, rfl⟩ := hw
                    have k18 : ∀ j, j < 12 → sp18 j = sp j := fun j hj => (k18 j hj).trans (hksp6 j hj)
                    have e18 : ∀ j, j < 4 → dy18 j = dy j := fun j hj => (e18 j hj).trans (hkdy6 j hj)
                    refine lv_lstore_n (lv' := [(1, .long r18), (3, .int ud), (0, .ref (ad 0))]) hx hb dX2_digest_94 rfl hl (by decide) rfl (fun ls hl => ?_)
                    refine lv_iinc (v := ud + 1) (lv' := [(3, .int (ud + 1)), (1, .long r18), (0, .ref (ad 0))]) hx hb dX2_digest_95 hl (k := 1) rfl rfl (by decide) rfl (fun ls hl => ?_)
                    refine lv_goto (tgt := 78) hx hb dX2_digest_98 (by decide) ?_
                    exact ih6 (ud + 1) r18 sp18 dy18 H locs (fu_le c7 hn6) (inc_nn hzud c7) (k18) (e18) B ls (lv_sub hl [0, 1, 2] rfl)
              exact loop6 (((4 : Int32).toInt - (0 : Int32).toInt).toNat + 1) 0 dc sp9 dy9 H locs (Nat.lt_succ_self _) (by decide) (hksp4) (hkdy4) B ls hl
            · refine lv_lload_n hx hb dX2_digest_43 rfl (lv_at hl 1 rfl) ?_
              refine lv_iload_n hx hb dX2_digest_44 rfl (lv_at hl 0 rfl) ?_
              refine lv_aload_n hx hb dX2_digest_45 rfl (lv_at hl 2 rfl) ?_
              refine g_get (q := 0) (k := 3) X hK B rfl in_X2 (pl_c hN 0 (by decide)) cf_0 (by decide) lk_X2_91 rfl rfl dX2_digest_46 ?_
              refine lv_icmp_ge (tgt := 65) hx hb dX2_digest_49 (by decide) (fun c19 => ?_) (fun c19 => ?_)
              · refine lv_lconst (v := 0) hx hb dX2_digest_65 (by decide) ?_
                refine k_l (k := 0) (n := 0) hA B (u_S (rest := []) X (c_X2_digestNext l g N ad x sp9 dy9 la kn re hN dc 0 H.size) mw_X2_digestNext md_X2_digestNext rfl lk_X2_213 ⟨Nat.le_of_ble_eq_true rfl, Nat.le_of_ble_eq_true rfl⟩ hA hK hT B hl.1 rfl (Nat.le_of_ble_eq_true rfl) dX2_digest_66 ⟨Nat.le_of_ble_eq_true rfl, Nat.le_of_ble_eq_true rfl⟩) (Nat.le_of_ble_eq_true rfl) (Nat.le_of_ble_eq_true rfl) (fun r ad' f' H locs hw B => ?_)
                obtain ⟨rfl, rfl, rfl⟩ := hw
                generalize (v_X2_digestNext dc 0) = t20
                refine lv_lstore_n (lv' := [(1, .long t20), (3, .int uc), (0, .ref (ad 0))]) hx hb dX2_digest_69 rfl hl (by decide) rfl (fun ls hl => ?_)
                refine lv_iinc (v := uc + 1) (lv' := [(3, .int (uc + 1)), (1, .long t20), (0, .ref (ad 0))]) hx hb dX2_digest_70 hl (k := 1) rfl rfl (by decide) rfl (fun ls hl => ?_)
                refine lv_goto (tgt := 37) hx hb dX2_digest_73 (by decide) ?_
                exact ih4 (uc + 1) t20 sp9 dy9 H locs (fu_le c5 hn4) (inc_nn hzuc c5) (hksp4) (hkdy4) B ls (lv_sub hl [0, 1, 2] rfl)
              · refine lv_aload_n hx hb dX2_digest_52 rfl (lv_at hl 2 rfl) ?_
                refine g_get (q := 0) (k := 1) X hK B rfl in_X2 (pl_c hN 0 (by decide)) cf_0 (by decide) lk_X2_15 rfl rfl dX2_digest_53 ?_
                refine lv_iload_n hx hb dX2_digest_56 rfl (lv_at hl 0 rfl) ?_
                refine g_aald (q := 2) (t0 := 3) X hK B (pl_c hN 2 (by decide)) cf_2 rfl rfl (ix_in (n := 8) hzuc c5 rfl) dX2_digest_57 ?_
                have h21 : 4 + uc.toNatClampNeg < 14 := by have := (ix_lt (n := 8) hzuc c5 rfl); omega
                rw [show va_rf (some (ad (8 + uc.toNatClampNeg))) = Value.ref (ad (4 + (4 + uc.toNatClampNeg))) from by rw [← Nat.add_assoc]; rfl]
                refine k_i (k := 0) (n := 0) hA B (u_VN (rest := [.long dc]) X (c_X1_signs l g N ad x sp9 dy9 la kn re hN (4 + uc.toNatClampNeg) h21 H.size) mw_X1_signs md_X1_signs rfl lk_X2_210 ⟨Nat.le_of_ble_eq_true rfl, Nat.le_of_ble_eq_true rfl⟩ hA hK hT B (pl_sp hN h21) (cf_sp h21) rfl rfl hl.1 rfl (Nat.le_of_ble_eq_true rfl) dX2_digest_58 ⟨Nat.le_of_ble_eq_true rfl, Nat.le_of_ble_eq_true rfl⟩) (Nat.le_of_ble_eq_true rfl) (Nat.le_of_ble_eq_true rfl) (fun r ad' f' H locs hw B => ?_)
                obtain ⟨rfl, rfl, rfl⟩ := hw
                generalize (v_X1_signs sp9 (4 + uc.toNatClampNeg)) = t22
                refine lv_i2l (v := t22.toInt64) hx hb dX2_digest_61 rfl ?_
                refine lv_goto (tgt := 66) hx hb dX2_digest_62 (by decide) ?_
                refine k_l (k := 0) (n := 0) hA B (u_S (rest := []) X (c_X2_digestNext l g N ad x sp9 dy9 la kn re hN dc t22.toInt64 H.size) mw_X2_digestNext md_X2_digestNext rfl lk_X2_213 ⟨Nat.le_of_ble_eq_true rfl, Nat.le_of_ble_eq_true rfl⟩ hA hK hT B hl.1 rfl (Nat.le_of_ble_eq_true rfl) dX2_digest_66 ⟨Nat.le_of_ble_eq_true rfl, Nat.le_of_ble_eq_true rfl⟩) (Nat.le_of_ble_eq_true rfl) (Nat.le_of_ble_eq_true rfl) (fun r ad' f' H locs hw B => ?_)
                obtain ⟨rfl, rfl, rfl⟩ := hw
                generalize (v_X2_digestNext dc t22.toInt64) = t23
                refine lv_lstore_n (lv' := [(1, .long t23), (3, .int uc), (0, .ref (ad 0))]) hx hb dX2_digest_69 rfl hl (by decide) rfl (fun ls hl => ?_)
                refine lv_iinc (v := uc + 1) (lv' := [(3, .int (uc + 1)), (1, .long t23), (0, .ref (ad 0))]) hx hb dX2_digest_70 hl (k := 1) rfl rfl (by decide) rfl (fun ls hl => ?_)
                refine lv_goto (tgt := 37) hx hb dX2_digest_73 (by decide) ?_
                exact ih4 (uc + 1) t23 sp9 dy9 H locs (fu_le c5 hn4) (inc_nn hzuc c5) (hksp4) (hkdy4) B ls (lv_sub hl [0, 1, 2] rfl)
        exact loop4 (((8 : Int32).toInt - (0 : Int32).toInt).toNat + 1) 0 r3 sp3 dy3 H locs (Nat.lt_succ_self _) (by decide) (k3) (e3) B ls hl
      · refine lv_aload_n hx hb dX2_digest_11 rfl (lv_at hl 2 rfl) ?_
        refine lv_lload_n hx hb dX2_digest_12 rfl (lv_at hl 1 rfl) ?_
        refine lv_aload_n hx hb dX2_digest_13 rfl (lv_at hl 2 rfl) ?_
        refine g_get (q := 0) (k := 0) X hK B rfl in_X2 (pl_c hN 0 (by decide)) cf_0 (by decide) lk_X2_11 rfl rfl dX2_digest_14 ?_
        refine lv_iload_n hx hb dX2_digest_17 rfl (lv_at hl 0 rfl) ?_
        refine g_aald (q := 1) (t0 := 3) X hK B (pl_c hN 1 (by decide)) cf_1 rfl rfl (ix_in (n := 4) hzua c2 rfl) dX2_digest_18 ?_
        have h24 : ua.toNatClampNeg < 14 := by have := (ix_lt (n := 4) hzua c2 rfl); omega
        refine k_l (k := 0) (n := 0) hA B (u_V (rest := []) X (c_X2_digestCard l g N ad x sp9 dy9 la kn re hN da ua.toNatClampNeg h24 H.size) mw_X2_digestCard md_X2_digestCard rfl lk_X2_202 ⟨Nat.le_of_ble_eq_true rfl, Nat.le_of_ble_eq_true rfl⟩ hA hK hT B (pl_c hN 0 (by decide)) cf_0 rfl rfl hl.1 rfl (Nat.le_of_ble_eq_true rfl) dX2_digest_19 ⟨Nat.le_of_ble_eq_true rfl, Nat.le_of_ble_eq_true rfl⟩) (Nat.le_of_ble_eq_true rfl) (Nat.le_of_ble_eq_true rfl) (fun r25 ad' f' H locs hw B => ?_)
        obtain ⟨rfl, sp25, dy25, k25, e25, rfl⟩ := hw
        have k25 : ∀ j, j < 12 → sp25 j = sp j := fun j hj => (k25 j hj).trans (hksp1 j hj)
        have e25 : ∀ j, j < 4 → dy25 j = dy j := fun j hj => (e25 j hj).trans (hkdy1 j hj)
        refine lv_lstore_n (lv' := [(1, .long r25), (3, .int ua), (0, .ref (ad 0))]) hx hb dX2_digest_22 rfl hl (by decide) rfl (fun ls hl => ?_)
        refine lv_iinc (v := ua + 1) (lv' := [(3, .int (ua + 1)), (1, .long r25), (0, .ref (ad 0))]) hx hb dX2_digest_23 hl (k := 1) rfl rfl (by decide) rfl (fun ls hl => ?_)
        refine lv_goto (tgt := 6) hx hb dX2_digest_26 (by decide) ?_
        exact ih1 (ua + 1) r25 sp25 dy25 H locs (fu_le c2 hn1) (inc_nn hzua c2) (k25) (e25) B ls (lv_sub hl [0, 1, 2] rfl)
  exact loop1 (((4 : Int32).toInt - (0 : Int32).toInt).toNat + 1) 0 6217 sp dy H locs (Nat.lt_succ_self _) (by decide) (fun _ _ => rfl) (fun _ _ => rfl) B ls hl
