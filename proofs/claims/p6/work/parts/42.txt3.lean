set_option maxHeartbeats 4000000 in
theorem c_S_new5 (l : Launch) (g : GG) (N : Nat) (ad : Nat → Nat) (f : Nat → va_E) (qs bs : Nat) (hqs : qs < N) (hbs : ad qs = bs) (hfs : f qs = .inr (1, [.null, .int 0, .int 0, .int 0])) : KV l yJ5_init_d00df cJ5_init_d00df 2 (rm 1 1 16) g [.ref bs, .int 16] N ad f (N + 1) (fun ad' f' => ∃ a : Nat, va_up ad N a = ad' ∧ va_up (va_up f qs (c_sb a 0 0)) N (c_ba g 16 (fun _ => 0)) = f') := by
  intro sz
  refine mt_start (by decide) (Nat.le_of_ble_eq_true rfl) ?_
  intro p e0 s m9 args below meth c hsz X hr hnam hA hK hT H locs B ls hl
  obtain ⟨hx, hb, hml, hown, hts, hlocks⟩ := id X
  have hl : lv_has ls 2 [(0, .ref bs), (1, .int 16)] := hl
  refine lv_aload_n hx hb dJ5_init_d00df_0 rfl (lv_at hl 0 rfl) ?_
  refine b_obj (R := (rm 1 1 16)) (rest := []) X hl.1 lk_J5_3 dJ5_init_d00df_1 (Nat.le_of_ble_eq_true rfl) (Nat.le_of_ble_eq_true rfl) ?_
  refine va_gets hx hb hT.2.1.1 B.2.2 hown (hts _ (List.mem_cons_of_mem _ lk_J5_18)) (fun _ h => h) dJ5_init_d00df_4 ?_
  refine lv_if_eq (tgt := 25) hx hb dJ5_init_d00df_7 (by decide) (fun z => absurd z (by decide)) (fun _ => ?_)
  refine lv_aload_n hx hb dJ5_init_d00df_10 rfl (lv_at hl 0 rfl) ?_
  refine lv_iload_n hx hb dJ5_init_d00df_11 rfl (lv_at hl 1 rfl) ?_
  refine b_newb (k := 16) (cz := ((0) + 1)) (sz := ((0) + 16)) X hA hK B (by decide) (by decide) (by decide) (by dsimp only [rm]; omega) (by dsimp only [rm]; omega) (Nat.le_refl _) (Nat.le_refl _) dJ5_init_d00df_12 (fun z1 H B => ?_)
  refine W.widen (show ((0) + 1) ≤ (1) by omega) (show ((0) + 16) ≤ (16) by omega) ?_
  refine b_put (q := qs) (k := 0) ((up_lt hqs).trans hbs) X hK B rfl in_J4 tyJ4_ok nmJ4 (Nat.lt_succ_of_lt hqs) ((up_lt hqs).trans hfs) (by decide) lk_J5_15 rfl rfl rfl rfl rfl (Nat.le_of_ble_eq_true rfl) dJ5_init_d00df_14 (fun H locs B => ?_)
  rw [up_comm (by omega)] at B
  have B : WB g (aw N ad sz) s.heap (N + 1) (va_up ad N z1) (va_up (va_up f qs (.inr (1, [.ref z1, .int 0, .int 0, .int 0]))) N (c_ba g 16 (fun _ => 0))) H locs := B
  refine lv_aload_n hx hb dJ5_init_d00df_17 rfl (lv_at hl 0 rfl) ?_
  refine lv_iconst (v := 0) hx hb dJ5_init_d00df_18 (by decide) ?_
  refine b_put (q := qs) (k := 1) ((up_lt hqs).trans hbs) X hK B rfl in_J4 tyJ4_ok nmJ4 (Nat.lt_succ_of_lt hqs) ((up_lt hqs).trans (va_up_self _ _ _)) (by decide) lk_J5_22 rfl rfl rfl rfl rfl (Nat.le_of_ble_eq_true rfl) dJ5_init_d00df_19 (fun H locs B => ?_)
  rw [sn_2 (by omega)] at B
  have B : WB g (aw N ad sz) s.heap (N + 1) (va_up ad N z1) (va_up (va_up f qs (.inr (1, [.ref z1, .int 0, .int 0, .int 0]))) N (c_ba g 16 (fun _ => 0))) H locs := B
  refine lv_goto (tgt := 38) hx hb dJ5_init_d00df_22 (by decide) ?_
  exact rt_v X hr (va_up ad N z1, va_up (va_up f qs (.inr (1, [.ref z1, .int 0, .int 0, .int 0]))) N (c_ba g 16 (fun _ => 0))) B (PO_of B) ⟨_, rfl, sb_eq0⟩ (by dsimp only [rm]; omega) (by dsimp only [rm]; omega) dJ5_init_d00df_38
set_option maxHeartbeats 4000000 in
theorem c_S_new (l : Launch) (g : GG) (N : Nat) (ad : Nat → Nat) (f : Nat → va_E) (qs bs : Nat) (hqs : qs < N) (hbs : ad qs = bs) (hfs : f qs = .inr (1, [.null, .int 0, .int 0, .int 0])) : KV l yJ4_init_da8c8 cJ4_init_da8c8 1 (rm 2 1 16) g [.ref bs] N ad f (N + 1) (fun ad' f' => ∃ a : Nat, va_up ad N a = ad' ∧ va_up (va_up f qs (c_sb a 0 0)) N (c_ba g 16 (fun _ => 0)) = f') := by
  intro sz
  refine mt_start (by decide) (Nat.le_of_ble_eq_true rfl) ?_
  intro p e0 s m9 args below meth c hsz X hr hnam hA hK hT H locs B ls hl
  obtain ⟨hx, hb, hml, hown, hts, hlocks⟩ := id X
  have hl : lv_has ls 1 [(0, .ref bs)] := hl
  refine lv_aload_n hx hb dJ4_init_da8c8_0 rfl (lv_at hl 0 rfl) ?_
  refine lv_bipush (v := 16) hx hb dJ4_init_da8c8_1 (by decide) ?_
  refine k_v (k := (1)) (n := (16)) hA B (b_I (rest := []) X (c_S_new5 l g N ad f qs bs hqs hbs hfs H.size) mw_J5_init_d00df rfl md_J5_init_d00df rfl lk_J4_1 ⟨Nat.le_of_ble_eq_true rfl, Nat.le_of_ble_eq_true rfl⟩ hA hK hT B hl.1 rfl (Nat.le_of_ble_eq_true rfl) dJ4_init_da8c8_3 (by dsimp only [rm]; omega)) (by dsimp only [rm]; omega) (by dsimp only [rm]; omega) (fun ad' f' H locs hw B => ?_)
  obtain ⟨a1, rfl, rfl⟩ := hw
  exact rt_v X hr (va_up ad N a1, va_up (va_up f qs (c_sb a1 0 0)) N (c_ba g 16 (fun _ => 0))) B (PO_of B) ⟨_, rfl, rfl⟩ (by dsimp only [rm]; omega) (by dsimp only [rm]; omega) dJ4_init_da8c8_6
