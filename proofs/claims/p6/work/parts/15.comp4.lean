def wX2_sum_20 (la : Int32) (re : Int32) (a1 : Int32) : Nat → Int32 → Int32 → (Nat → TR) → Int32 × (Nat → TR) × Int32
  | 0, kk, dn, sp9 => (0, sp9, re)
  | n + 1, kk, dn, sp9 => if la ≤ kk then ((v_X2_actOnCard sp9 re a1.toNatClampNeg dn).1, (v_X2_actOnCard sp9 re a1.toNatClampNeg dn).2.1, (v_X2_actOnCard sp9 re a1.toNatClampNeg dn).2.2) else (if dn = 0 then ((v_X2_actOnCard sp9 re a1.toNatClampNeg dn).1, (v_X2_actOnCard sp9 re a1.toNatClampNeg dn).2.1, (v_X2_actOnCard sp9 re a1.toNatClampNeg dn).2.2) else (wX2_sum_20 la re a1 n (kk + 1) (v_X1_putSum sp9 12 12 (4 + kk.toNatClampNeg)).1 (v_X1_putSum sp9 12 12 (4 + kk.toNatClampNeg)).2))
def v_X2_sum (sp : Nat → TR) (la : Int32) (re : Int32) (a1 : Int32) : Int32 × (Nat → TR) × Int32 := wX2_sum_20 la re a1 ((la.toInt - (0 : Int32).toInt).toNat + 1) 0 (v_X1_put sp 12 0 0 0).1 (v_X1_put sp 12 0 0 0).2
def x_X2_sum (a1 : Int32) : Option String := xo (x_X2_cardAt a1) none
set_option maxHeartbeats 4000000 in
set_option maxRecDepth 100000 in
theorem c_X2_sum (l : Launch) (hfl : l.stackTraces = false) (g : GG) (N : Nat) (ad : Nat → Nat) (x : Nat → va_E) (sp dy : Nat → TR) (la kn re : Int32) (hN : 23 ≤ N) (hla : ¬ la < 0) (hlb : ¬ 8 < la) (a1 : Int32) : XI l yX2_sum cX2_sum 5 (some .int) (rm 3 1 6) g [.ref (ad 0), .int a1] N ad (cf g ad x sp dy la kn re) N (fun E => x_X2_sum a1 = some E) (fun r ad' f' => ad = ad' ∧ x_X2_sum a1 = none ∧ (v_X2_sum sp la re a1).1 = r ∧ (cf g ad x (v_X2_sum sp la re a1).2.1 dy la kn (v_X2_sum sp la re a1).2.2) = f') := by
  intro sz
  refine mx_start (by decide) (Nat.le_of_ble_eq_true rfl) ?_
  intro p e s m args below meth c hsz X hr hex hA hK hT H locs B ls hl
  obtain ⟨hx, hb, hml, hown, hts, hlocks⟩ := id X
  have hl : lv_has ls 5 [(0, .ref (ad 0)), (1, .int a1)] := hl
  refine lv_aload_n hx hb dX2_sum_0 rfl (lv_at hl 0 rfl) ?_
  refine lv_iload_n hx hb dX2_sum_1 rfl (lv_at hl 1 rfl) ?_
  refine k_xr (k := 1) (n := 6) hex X hsz hA B (ux_V (rest := []) X (c_X2_cardAt l hfl g N ad x sp dy la kn re hN a1 H.size) mw_X2_cardAt md_X2_cardAt rfl lk_X2_37 ⟨Nat.le_of_ble_eq_true rfl, Nat.le_of_ble_eq_true rfl⟩ hA hK hT B (pl_c hN 0 (by decide)) cf_0 rfl rfl hl.1 rfl (Nat.le_of_ble_eq_true rfl) dX2_sum_2 ⟨Nat.le_of_ble_eq_true rfl, Nat.le_of_ble_eq_true rfl⟩) (Nat.le_of_ble_eq_true rfl) (Nat.le_of_ble_eq_true rfl) (Nat.le_of_ble_eq_true rfl) (Nat.le_of_ble_eq_true rfl) (fun E hE => by unfold x_X2_sum; rw [xo_some hE]) (fun r ad' f' H locs hw B => ?_)
  obtain ⟨rfl, x1, rfl, rfl⟩ := hw
  refine lv_astore_n (lv' := [(2, .ref (ad (4 + a1.toNatClampNeg))), (0, .ref (ad 0)), (1, .int a1)]) hx hb dX2_sum_5 rfl hl (by decide) rfl (fun ls hl => ?_)
  refine lv_aload_n hx hb dX2_sum_6 rfl (lv_at hl 1 rfl) ?_
  refine g_get (q := 0) (k := 6) X hK B rfl in_X2 (pl_c hN 0 (by decide)) cf_0 (by decide) lk_X2_25 rfl rfl dX2_sum_7 ?_
  refine lv_lconst (v := 0) hx hb dX2_sum_10 (by decide) ?_
  refine lv_lconst (v := 0) hx hb dX2_sum_11 (by decide) ?_
  refine lv_lconst (v := 0) hx hb dX2_sum_12 (by decide) ?_
  refine k_i (k := 1) (n := 6) hA B (u_VN (rest := []) X (c_X1_put l g N ad x sp dy la kn re hN 12 (by decide) 0 0 0 H.size) mw_X1_put md_X1_put rfl lk_X2_41 ⟨Nat.le_of_ble_eq_true rfl, Nat.le_of_ble_eq_true rfl⟩ hA hK hT B (pl_sp hN (by decide)) (cf_sp (by decide)) rfl rfl hl.1 rfl (Nat.le_of_ble_eq_true rfl) dX2_sum_13 ⟨Nat.le_of_ble_eq_true rfl, Nat.le_of_ble_eq_true rfl⟩) (Nat.le_of_ble_eq_true rfl) (Nat.le_of_ble_eq_true rfl) (fun r ad' f' H locs hw B => ?_)
  obtain ⟨rfl, rfl, rfl⟩ := hw
  refine lv_istore_n (lv' := [(3, .int (v_X1_put sp 12 0 0 0).1), (2, .ref (ad (4 + a1.toNatClampNeg))), (0, .ref (ad 0)), (1, .int a1)]) hx hb dX2_sum_16 rfl hl (by decide) rfl (fun ls hl => ?_)
  refine lv_iconst (v := 0) hx hb dX2_sum_17 (by decide) ?_
  refine lv_istore (lv' := [(4, .int 0), (3, .int (v_X1_put sp 12 0 0 0).1), (2, .ref (ad (4 + a1.toNatClampNeg))), (0, .ref (ad 0)), (1, .int a1)]) hx hb dX2_sum_18 hl (by decide) rfl (fun ls hl => ?_)
  have hxn : x_X2_sum a1 = none := by unfold x_X2_sum; rw [xo_none x1]
  have loop2 : ∀ (n2 : Nat) (kk : Int32) (dn : Int32) (sp9 : Nat → TR) (H : Heap) (locs : List Loc), (la.toInt - kk.toInt).toNat < n2 → v_X2_sum sp la re a1 = wX2_sum_20 la re a1 n2 kk dn sp9 → ¬ kk < 0 → WB g (aw N ad sz) s.heap N ad (cf g ad x sp9 dy la kn re) H locs → ∀ ls : Array Slot, lv_has ls 5 [(4, .int kk), (3, .int dn), (2, .ref (ad (4 + a1.toNatClampNeg))), (0, .ref (ad 0)), (1, .int a1)] → W p l e (rm 3 1 6) s m args below meth c H locs 1 6 (vx_MQ below (va_Qi (fun r (u : WS) => (fun r ad' f' => ad = ad' ∧ x_X2_sum a1 = none ∧ (v_X2_sum sp la re a1).1 = r ∧ (cf g ad x (v_X2_sum sp la re a1).2.1 dy la kn (v_X2_sum sp la re a1).2.2) = f') r u.1 u.2) (fun u t => PO g N u.1 u.2 (aw N ad sz) t) (aw N ad sz)) (XS g N ad (cf g ad x sp dy la kn re) sz (fun E => x_X2_sum a1 = some E)) args s (rm 3 1 6).cells (rm 3 1 6).slots (aw N ad sz)) (F0 m 20 ls []) := by
    intro n2
    induction n2 with
    | zero => intro kk dn sp9 H locs hn; exact absurd hn (Nat.not_lt_zero _)
    | succ n2 ih2 =>
      intro kk dn sp9 H locs hn2 he2 hk0 B ls hl
      refine lv_iload hx hb dX2_sum_20 (lv_at hl 0 rfl) ?_
      refine lv_aload_n hx hb dX2_sum_22 rfl (lv_at hl 3 rfl) ?_
      refine g_get (q := 0) (k := 3) X hK B rfl in_X2 (pl_c hN 0 (by decide)) cf_0 (by decide) lk_X2_91 rfl rfl dX2_sum_23 ?_
      refine lv_icmp_ge (tgt := 58) hx hb dX2_sum_26 (by decide) (fun c3 => ?_) (fun c3 => ?_)
      · refine lv_aload_n hx hb dX2_sum_58 rfl (lv_at hl 3 rfl) ?_
        refine lv_aload_n hx hb dX2_sum_59 rfl (lv_at hl 2 rfl) ?_
        refine lv_iload_n hx hb dX2_sum_60 rfl (lv_at hl 1 rfl) ?_
        refine k_i (k := 1) (n := 6) hA B (u_V (rest := []) X (c_X2_actOnCard l g N ad x sp9 dy la kn re hN a1.toNatClampNeg (Nat.lt_of_lt_of_le (xl_X2_cardAt x1) (by decide)) dn H.size) mw_X2_actOnCard md_X2_actOnCard rfl lk_X2_45 ⟨Nat.le_of_ble_eq_true rfl, Nat.le_of_ble_eq_true rfl⟩ hA hK hT B (pl_c hN 0 (by decide)) cf_0 rfl rfl hl.1 rfl (Nat.le_of_ble_eq_true rfl) dX2_sum_61 ⟨Nat.le_of_ble_eq_true rfl, Nat.le_of_ble_eq_true rfl⟩) (Nat.le_of_ble_eq_true rfl) (Nat.le_of_ble_eq_true rfl) (fun r ad' f' H locs hw B => ?_)
        obtain ⟨rfl, rfl, rfl⟩ := hw
        have ev := (show v_X2_sum sp la re a1 = ((v_X2_actOnCard sp9 re a1.toNatClampNeg dn).1, (v_X2_actOnCard sp9 re a1.toNatClampNeg dn).2.1, (v_X2_actOnCard sp9 re a1.toNatClampNeg dn).2.2) from he2.trans (by rw [wX2_sum_20, if_pos c3]))
        exact vx_ret (rt_i X hr (ad, (cf g ad x (v_X2_actOnCard sp9 re a1.toNatClampNeg dn).2.1 dy la kn (v_X2_actOnCard sp9 re a1.toNatClampNeg dn).2.2)) B (PO_of B) ⟨rfl, hxn, by rw [ev], by rw [ev]⟩ rfl (Nat.le_of_ble_eq_true rfl) (Nat.le_of_ble_eq_true rfl) dX2_sum_64)
      · refine lv_iload_n hx hb dX2_sum_29 rfl (lv_at hl 1 rfl) ?_
        refine lv_if_eq (tgt := 58) hx hb dX2_sum_30 (by decide) (fun c4 => ?_) (fun c4 => ?_)
        · refine lv_aload_n hx hb dX2_sum_58 rfl (lv_at hl 3 rfl) ?_
          refine lv_aload_n hx hb dX2_sum_59 rfl (lv_at hl 2 rfl) ?_
          refine lv_iload_n hx hb dX2_sum_60 rfl (lv_at hl 1 rfl) ?_
          refine k_i (k := 1) (n := 6) hA B (u_V (rest := []) X (c_X2_actOnCard l g N ad x sp9 dy la kn re hN a1.toNatClampNeg (Nat.lt_of_lt_of_le (xl_X2_cardAt x1) (by decide)) dn H.size) mw_X2_actOnCard md_X2_actOnCard rfl lk_X2_45 ⟨Nat.le_of_ble_eq_true rfl, Nat.le_of_ble_eq_true rfl⟩ hA hK hT B (pl_c hN 0 (by decide)) cf_0 rfl rfl hl.1 rfl (Nat.le_of_ble_eq_true rfl) dX2_sum_61 ⟨Nat.le_of_ble_eq_true rfl, Nat.le_of_ble_eq_true rfl⟩) (Nat.le_of_ble_eq_true rfl) (Nat.le_of_ble_eq_true rfl) (fun r ad' f' H locs hw B => ?_)
          obtain ⟨rfl, rfl, rfl⟩ := hw
          have ev := (show v_X2_sum sp la re a1 = ((v_X2_actOnCard sp9 re a1.toNatClampNeg dn).1, (v_X2_actOnCard sp9 re a1.toNatClampNeg dn).2.1, (v_X2_actOnCard sp9 re a1.toNatClampNeg dn).2.2) from he2.trans (by rw [wX2_sum_20, if_neg c3, if_pos c4]))
          exact vx_ret (rt_i X hr (ad, (cf g ad x (v_X2_actOnCard sp9 re a1.toNatClampNeg dn).2.1 dy la kn (v_X2_actOnCard sp9 re a1.toNatClampNeg dn).2.2)) B (PO_of B) ⟨rfl, hxn, by rw [ev], by rw [ev]⟩ rfl (Nat.le_of_ble_eq_true rfl) (Nat.le_of_ble_eq_true rfl) dX2_sum_64)
        · refine lv_aload_n hx hb dX2_sum_33 rfl (lv_at hl 3 rfl) ?_
          refine g_get (q := 0) (k := 6) X hK B rfl in_X2 (pl_c hN 0 (by decide)) cf_0 (by decide) lk_X2_25 rfl rfl dX2_sum_34 ?_
          refine lv_aload_n hx hb dX2_sum_37 rfl (lv_at hl 3 rfl) ?_
          refine g_get (q := 0) (k := 6) X hK B rfl in_X2 (pl_c hN 0 (by decide)) cf_0 (by decide) lk_X2_25 rfl rfl dX2_sum_38 ?_
          refine lv_aload_n hx hb dX2_sum_41 rfl (lv_at hl 3 rfl) ?_
          refine g_get (q := 0) (k := 1) X hK B rfl in_X2 (pl_c hN 0 (by decide)) cf_0 (by decide) lk_X2_15 rfl rfl dX2_sum_42 ?_
          refine lv_iload hx hb dX2_sum_45 (lv_at hl 0 rfl) ?_
          refine g_aald (q := 2) (t0 := 3) X hK B (pl_c hN 2 (by decide)) cf_2 rfl rfl (ix_in (n := 8) hk0 (le_tr c3 hlb) rfl) dX2_sum_47 ?_
          have h5 : 4 + kk.toNatClampNeg < 14 := by have := (ix_lt (n := 8) hk0 (le_tr c3 hlb) rfl); omega
          rw [show va_rf (some (ad (8 + kk.toNatClampNeg))) = Value.ref (ad (4 + (4 + kk.toNatClampNeg))) from by rw [← Nat.add_assoc]; rfl]
          refine k_i (k := 1) (n := 6) hA B (u_VN (rest := []) X (c_X1_putSum l g N ad x sp9 dy la kn re hN 12 (by decide) 12 (by decide) (4 + kk.toNatClampNeg) h5 H.size) mw_X1_putSum md_X1_putSum rfl lk_X2_73 ⟨Nat.le_of_ble_eq_true rfl, Nat.le_of_ble_eq_true rfl⟩ hA hK hT B (pl_sp hN (by decide)) (cf_sp (by decide)) rfl rfl hl.1 rfl (Nat.le_of_ble_eq_true rfl) dX2_sum_48 ⟨Nat.le_of_ble_eq_true rfl, Nat.le_of_ble_eq_true rfl⟩) (Nat.le_of_ble_eq_true rfl) (Nat.le_of_ble_eq_true rfl) (fun r ad' f' H locs hw B => ?_)
          obtain ⟨rfl, rfl, rfl⟩ := hw
          refine lv_istore_n (lv' := [(3, .int (v_X1_putSum sp9 12 12 (4 + kk.toNatClampNeg)).1), (4, .int kk), (2, .ref (ad (4 + a1.toNatClampNeg))), (0, .ref (ad 0)), (1, .int a1)]) hx hb dX2_sum_51 rfl hl (by decide) rfl (fun ls hl => ?_)
          refine lv_iinc (v := kk + 1) (lv' := [(4, .int (kk + 1)), (3, .int (v_X1_putSum sp9 12 12 (4 + kk.toNatClampNeg)).1), (2, .ref (ad (4 + a1.toNatClampNeg))), (0, .ref (ad 0)), (1, .int a1)]) hx hb dX2_sum_52 hl (k := 1) rfl rfl (by decide) rfl (fun ls hl => ?_)
          refine lv_goto (tgt := 20) hx hb dX2_sum_55 (by decide) ?_
          exact ih2 (kk + 1) (v_X1_putSum sp9 12 12 (4 + kk.toNatClampNeg)).1 (v_X1_putSum sp9 12 12 (4 + kk.toNatClampNeg)).2 H locs (fu_le c3 hn2) (show v_X2_sum sp la re a1 = wX2_sum_20 la re a1 n2 (kk + 1) (v_X1_putSum sp9 12 12 (4 + kk.toNatClampNeg)).1 (v_X1_putSum sp9 12 12 (4 + kk.toNatClampNeg)).2 from he2.trans (by rw [wX2_sum_20, if_neg c3, if_neg c4])) (inc_nn hk0 c3) B ls (lv_sub hl [0, 1, 2, 3, 4] rfl)
  exact loop2 ((la.toInt - (0 : Int32).toInt).toNat + 1) 0 (v_X1_put sp 12 0 0 0).1 (v_X1_put sp 12 0 0 0).2 H locs (Nat.lt_succ_self _) (show v_X2_sum sp la re a1 = wX2_sum_20 la re a1 ((la.toInt - (0 : Int32).toInt).toNat + 1) 0 (v_X1_put sp 12 0 0 0).1 (v_X1_put sp 12 0 0 0).2 from rfl) (by decide) B ls hl
def v_X2_part (sp : Nat → TR) (a1 : Int32) (a2 : Int32) : Int32 := (v_X1_number sp a1.toNatClampNeg a2)
def x_X2_part (a1 : Int32) (a2 : Int32) : Option String := xo (x_X2_cardAt a1) (xo (x_X2_checkWhat a2 3) none)
set_option maxHeartbeats 4000000 in
set_option maxRecDepth 100000 in
theorem c_X2_part (l : Launch) (hfl : l.stackTraces = false) (g : GG) (N : Nat) (ad : Nat → Nat) (x : Nat → va_E) (sp dy : Nat → TR) (la kn re : Int32) (hN : 23 ≤ N) (a1 : Int32) (a2 : Int32) : XI l yX2_part cX2_part 4 (some .int) (rm 2 2 12) g [.ref (ad 0), .int a1, .int a2] N ad (cf g ad x sp dy la kn re) N (fun E => x_X2_part a1 a2 = some E) (fun r ad' f' => ad = ad' ∧ x_X2_part a1 a2 = none ∧ (v_X2_part sp a1 a2) = r ∧ (cf g ad x sp dy la kn re) = f') := by
  intro sz
  refine mx_start (by decide) (Nat.le_of_ble_eq_true rfl) ?_
  intro p e s m args below meth c hsz X hr hex hA hK hT H locs B ls hl
  obtain ⟨hx, hb, hml, hown, hts, hlocks⟩ := id X
  have hl : lv_has ls 4 [(0, .ref (ad 0)), (1, .int a1), (2, .int a2)] := hl
  refine lv_aload_n hx hb dX2_part_0 rfl (lv_at hl 0 rfl) ?_
  refine lv_iload_n hx hb dX2_part_1 rfl (lv_at hl 1 rfl) ?_
  refine k_xr (k := 1) (n := 6) hex X hsz hA B (ux_V (rest := []) X (c_X2_cardAt l hfl g N ad x sp dy la kn re hN a1 H.size) mw_X2_cardAt md_X2_cardAt rfl lk_X2_37 ⟨Nat.le_of_ble_eq_true rfl, Nat.le_of_ble_eq_true rfl⟩ hA hK hT B (pl_c hN 0 (by decide)) cf_0 rfl rfl hl.1 rfl (Nat.le_of_ble_eq_true rfl) dX2_part_2 ⟨Nat.le_of_ble_eq_true rfl, Nat.le_of_ble_eq_true rfl⟩) (Nat.le_of_ble_eq_true rfl) (Nat.le_of_ble_eq_true rfl) (Nat.le_of_ble_eq_true rfl) (Nat.le_of_ble_eq_true rfl) (fun E hE => by unfold x_X2_part; rw [xo_some hE]) (fun r ad' f' H locs hw B => ?_)
  obtain ⟨rfl, x1, rfl, rfl⟩ := hw
  refine lv_astore_n (lv' := [(3, .ref (ad (4 + a1.toNatClampNeg))), (0, .ref (ad 0)), (1, .int a1), (2, .int a2)]) hx hb dX2_part_5 rfl hl (by decide) rfl (fun ls hl => ?_)
  refine lv_iload_n hx hb dX2_part_6 rfl (lv_at hl 3 rfl) ?_
  refine lv_iconst (v := 3) hx hb dX2_part_7 (by decide) ?_
  refine k_xv (k := 2) (n := 12) hex X hsz hA B (ux_S (rest := []) X (c_X2_checkWhat l hfl g N ad x sp dy la kn re hN a2 3 H.size) mw_X2_checkWhat md_X2_checkWhat rfl lk_X2_51 ⟨Nat.le_of_ble_eq_true rfl, Nat.le_of_ble_eq_true rfl⟩ hA hK hT B hl.1 rfl (Nat.le_of_ble_eq_true rfl) dX2_part_8 ⟨Nat.le_of_ble_eq_true rfl, Nat.le_of_ble_eq_true rfl⟩) (Nat.le_of_ble_eq_true rfl) (Nat.le_of_ble_eq_true rfl) (Nat.le_of_ble_eq_true rfl) (Nat.le_of_ble_eq_true rfl) (fun E hE => by unfold x_X2_part; rw [xo_none x1, xo_some hE]) (fun ad' f' H locs hw B => ?_)
  obtain ⟨rfl, x2, rfl⟩ := hw
  refine lv_aload_n hx hb dX2_part_11 rfl (lv_at hl 0 rfl) ?_
  refine lv_iload_n hx hb dX2_part_12 rfl (lv_at hl 3 rfl) ?_
  refine k_i (k := 2) (n := 12) hA B (u_VN (rest := []) X (c_X1_number l g N ad x sp dy la kn re hN a1.toNatClampNeg (Nat.lt_of_lt_of_le (xl_X2_cardAt x1) (by decide)) a2 H.size) mw_X1_number md_X1_number rfl lk_X2_104 ⟨Nat.le_of_ble_eq_true rfl, Nat.le_of_ble_eq_true rfl⟩ hA hK hT B (pl_sp hN (Nat.lt_of_lt_of_le (xl_X2_cardAt x1) (by decide))) (cf_sp (Nat.lt_of_lt_of_le (xl_X2_cardAt x1) (by decide))) rfl rfl hl.1 rfl (Nat.le_of_ble_eq_true rfl) dX2_part_13 ⟨Nat.le_of_ble_eq_true rfl, Nat.le_of_ble_eq_true rfl⟩) (Nat.le_of_ble_eq_true rfl) (Nat.le_of_ble_eq_true rfl) (fun r ad' f' H locs hw B => ?_)
  obtain ⟨rfl, rfl, rfl⟩ := hw
  have ev := (show v_X2_part sp a1 a2 = (v_X1_number sp a1.toNatClampNeg a2) from rfl)
  exact vx_ret (rt_i X hr (ad, (cf g ad x sp dy la kn re)) B (PO_of B) ⟨rfl, by unfold x_X2_part; rw [xo_none x1, xo_none x2], by rw [ev], rfl⟩ rfl (Nat.le_of_ble_eq_true rfl) (Nat.le_of_ble_eq_true rfl) dX2_part_16)
def v_X2_isZero (sp : Nat → TR) (a1 : Int32) : Int32 := (v_X1_isNothing sp a1.toNatClampNeg)
def x_X2_isZero (a1 : Int32) : Option String := xo (x_X2_cardAt a1) none
theorem b01_X2_isZero {sp : Nat → TR} {a1 : Int32} : (v_X2_isZero sp a1) = 0 ∨ (v_X2_isZero sp a1) = 1 := by
  unfold v_X2_isZero
  exact b01_X1_isNothing
set_option maxHeartbeats 4000000 in
set_option maxRecDepth 100000 in
theorem c_X2_isZero (l : Launch) (hfl : l.stackTraces = false) (g : GG) (N : Nat) (ad : Nat → Nat) (x : Nat → va_E) (sp dy : Nat → TR) (la kn re : Int32) (hN : 23 ≤ N) (a1 : Int32) : XI l yX2_isZero cX2_isZero 2 (some .boolean) (rm 2 1 6) g [.ref (ad 0), .int a1] N ad (cf g ad x sp dy la kn re) N (fun E => x_X2_isZero a1 = some E) (fun r ad' f' => ad = ad' ∧ x_X2_isZero a1 = none ∧ (v_X2_isZero sp a1) = r ∧ (cf g ad x sp dy la kn re) = f') := by
  intro sz
  refine mx_start (by decide) (Nat.le_of_ble_eq_true rfl) ?_
  intro p e s m args below meth c hsz X hr hex hA hK hT H locs B ls hl
  obtain ⟨hx, hb, hml, hown, hts, hlocks⟩ := id X
  have hl : lv_has ls 2 [(0, .ref (ad 0)), (1, .int a1)] := hl
  refine lv_aload_n hx hb dX2_isZero_0 rfl (lv_at hl 0 rfl) ?_
  refine lv_iload_n hx hb dX2_isZero_1 rfl (lv_at hl 1 rfl) ?_
  refine k_xr (k := 1) (n := 6) hex X hsz hA B (ux_V (rest := []) X (c_X2_cardAt l hfl g N ad x sp dy la kn re hN a1 H.size) mw_X2_cardAt md_X2_cardAt rfl lk_X2_37 ⟨Nat.le_of_ble_eq_true rfl, Nat.le_of_ble_eq_true rfl⟩ hA hK hT B (pl_c hN 0 (by decide)) cf_0 rfl rfl hl.1 rfl (Nat.le_of_ble_eq_true rfl) dX2_isZero_2 ⟨Nat.le_of_ble_eq_true rfl, Nat.le_of_ble_eq_true rfl⟩) (Nat.le_of_ble_eq_true rfl) (Nat.le_of_ble_eq_true rfl) (Nat.le_of_ble_eq_true rfl) (Nat.le_of_ble_eq_true rfl) (fun E hE => by unfold x_X2_isZero; rw [xo_some hE]) (fun r ad' f' H locs hw B => ?_)
  obtain ⟨rfl, x1, rfl, rfl⟩ := hw
  refine k_i (k := 1) (n := 6) hA B (u_VN (rest := []) X (c_X1_isNothing l g N ad x sp dy la kn re hN a1.toNatClampNeg (Nat.lt_of_lt_of_le (xl_X2_cardAt x1) (by decide)) H.size) mw_X1_isNothing md_X1_isNothing rfl lk_X2_116 ⟨Nat.le_of_ble_eq_true rfl, Nat.le_of_ble_eq_true rfl⟩ hA hK hT B (pl_sp hN (Nat.lt_of_lt_of_le (xl_X2_cardAt x1) (by decide))) (cf_sp (Nat.lt_of_lt_of_le (xl_X2_cardAt x1) (by decide))) rfl rfl hl.1 rfl (Nat.le_of_ble_eq_true rfl) dX2_isZero_5 ⟨Nat.le_of_ble_eq_true rfl, Nat.le_of_ble_eq_true rfl⟩) (Nat.le_of_ble_eq_true rfl) (Nat.le_of_ble_eq_true rfl) (fun r ad' f' H locs hw B => ?_)
  obtain ⟨rfl, rfl, rfl⟩ := hw
  have ev := (show v_X2_isZero sp a1 = (v_X1_isNothing sp a1.toNatClampNeg) from rfl)
  exact vx_ret (rt_i X hr (ad, (cf g ad x sp dy la kn re)) B (PO_of B) ⟨rfl, by unfold x_X2_isZero; rw [xo_none x1], by rw [ev], rfl⟩ (nb_of b01_X1_isNothing) (Nat.le_of_ble_eq_true rfl) (Nat.le_of_ble_eq_true rfl) dX2_isZero_8)
def v_X2_isNegative (sp : Nat → TR) (a1 : Int32) : Int32 := (v_X1_isBelowZero sp a1.toNatClampNeg)
def x_X2_isNegative (a1 : Int32) : Option String := xo (x_X2_cardAt a1) none
theorem b01_X2_isNegative {sp : Nat → TR} {a1 : Int32} : (v_X2_isNegative sp a1) = 0 ∨ (v_X2_isNegative sp a1) = 1 := by
  unfold v_X2_isNegative
  exact b01_X1_isBelowZero
set_option maxHeartbeats 4000000 in
set_option maxRecDepth 100000 in
theorem c_X2_isNegative (l : Launch) (hfl : l.stackTraces = false) (g : GG) (N : Nat) (ad : Nat → Nat) (x : Nat → va_E) (sp dy : Nat → TR) (la kn re : Int32) (hN : 23 ≤ N) (a1 : Int32) : XI l yX2_isNegative cX2_isNegative 2 (some .boolean) (rm 2 1 6) g [.ref (ad 0), .int a1] N ad (cf g ad x sp dy la kn re) N (fun E => x_X2_isNegative a1 = some E) (fun r ad' f' => ad = ad' ∧ x_X2_isNegative a1 = none ∧ (v_X2_isNegative sp a1) = r ∧ (cf g ad x sp dy la kn re) = f') := by
  intro sz
  refine mx_start (by decide) (Nat.le_of_ble_eq_true rfl) ?_
  intro p e s m args below meth c hsz X hr hex hA hK hT H locs B ls hl
  obtain ⟨hx, hb, hml, hown, hts, hlocks⟩ := id X
  have hl : lv_has ls 2 [(0, .ref (ad 0)), (1, .int a1)] := hl
  refine lv_aload_n hx hb dX2_isNegative_0 rfl (lv_at hl 0 rfl) ?_
  refine lv_iload_n hx hb dX2_isNegative_1 rfl (lv_at hl 1 rfl) ?_
  refine k_xr (k := 1) (n := 6) hex X hsz hA B (ux_V (rest := []) X (c_X2_cardAt l hfl g N ad x sp dy la kn re hN a1 H.size) mw_X2_cardAt md_X2_cardAt rfl lk_X2_37 ⟨Nat.le_of_ble_eq_true rfl, Nat.le_of_ble_eq_true rfl⟩ hA hK hT B (pl_c hN 0 (by decide)) cf_0 rfl rfl hl.1 rfl (Nat.le_of_ble_eq_true rfl) dX2_isNegative_2 ⟨Nat.le_of_ble_eq_true rfl, Nat.le_of_ble_eq_true rfl⟩) (Nat.le_of_ble_eq_true rfl) (Nat.le_of_ble_eq_true rfl) (Nat.le_of_ble_eq_true rfl) (Nat.le_of_ble_eq_true rfl) (fun E hE => by unfold x_X2_isNegative; rw [xo_some hE]) (fun r ad' f' H locs hw B => ?_)
  obtain ⟨rfl, x1, rfl, rfl⟩ := hw
  refine k_i (k := 1) (n := 6) hA B (u_VN (rest := []) X (c_X1_isBelowZero l g N ad x sp dy la kn re hN a1.toNatClampNeg (Nat.lt_of_lt_of_le (xl_X2_cardAt x1) (by decide)) H.size) mw_X1_isBelowZero md_X1_isBelowZero rfl lk_X2_120 ⟨Nat.le_of_ble_eq_true rfl, Nat.le_of_ble_eq_true rfl⟩ hA hK hT B (pl_sp hN (Nat.lt_of_lt_of_le (xl_X2_cardAt x1) (by decide))) (cf_sp (Nat.lt_of_lt_of_le (xl_X2_cardAt x1) (by decide))) rfl rfl hl.1 rfl (Nat.le_of_ble_eq_true rfl) dX2_isNegative_5 ⟨Nat.le_of_ble_eq_true rfl, Nat.le_of_ble_eq_true rfl⟩) (Nat.le_of_ble_eq_true rfl) (Nat.le_of_ble_eq_true rfl) (fun r ad' f' H locs hw B => ?_)
  obtain ⟨rfl, rfl, rfl⟩ := hw
  have ev := (show v_X2_isNegative sp a1 = (v_X1_isBelowZero sp a1.toNatClampNeg) from rfl)
  exact vx_ret (rt_i X hr (ad, (cf g ad x sp dy la kn re)) B (PO_of B) ⟨rfl, by unfold x_X2_isNegative; rw [xo_none x1], by rw [ev], rfl⟩ (nb_of b01_X1_isBelowZero) (Nat.le_of_ble_eq_true rfl) (Nat.le_of_ble_eq_true rfl) dX2_isNegative_8)
def v_X2_areSame (sp : Nat → TR) (a1 : Int32) (a2 : Int32) : Int32 := (v_X1_isSameAs sp a1.toNatClampNeg a2.toNatClampNeg)
def x_X2_areSame (a1 : Int32) (a2 : Int32) : Option String := xo (x_X2_cardAt a1) (xo (x_X2_cardAt a2) none)
theorem b01_X2_areSame {sp : Nat → TR} {a1 : Int32} {a2 : Int32} : (v_X2_areSame sp a1 a2) = 0 ∨ (v_X2_areSame sp a1 a2) = 1 := by
  unfold v_X2_areSame
  exact b01_X1_isSameAs
set_option maxHeartbeats 4000000 in
set_option maxRecDepth 100000 in
theorem c_X2_areSame (l : Launch) (hfl : l.stackTraces = false) (g : GG) (N : Nat) (ad : Nat → Nat) (x : Nat → va_E) (sp dy : Nat → TR) (la kn re : Int32) (hN : 23 ≤ N) (a1 : Int32) (a2 : Int32) : XI l yX2_areSame cX2_areSame 3 (some .boolean) (rm 2 2 12) g [.ref (ad 0), .int a1, .int a2] N ad (cf g ad x sp dy la kn re) N (fun E => x_X2_areSame a1 a2 = some E) (fun r ad' f' => ad = ad' ∧ x_X2_areSame a1 a2 = none ∧ (v_X2_areSame sp a1 a2) = r ∧ (cf g ad x sp dy la kn re) = f') := by
  intro sz
  refine mx_start (by decide) (Nat.le_of_ble_eq_true rfl) ?_
  intro p e s m args below meth c hsz X hr hex hA hK hT H locs B ls hl
  obtain ⟨hx, hb, hml, hown, hts, hlocks⟩ := id X
  have hl : lv_has ls 3 [(0, .ref (ad 0)), (1, .int a1), (2, .int a2)] := hl
  refine lv_aload_n hx hb dX2_areSame_0 rfl (lv_at hl 0 rfl) ?_
  refine lv_iload_n hx hb dX2_areSame_1 rfl (lv_at hl 1 rfl) ?_
  refine k_xr (k := 1) (n := 6) hex X hsz hA B (ux_V (rest := []) X (c_X2_cardAt l hfl g N ad x sp dy la kn re hN a1 H.size) mw_X2_cardAt md_X2_cardAt rfl lk_X2_37 ⟨Nat.le_of_ble_eq_true rfl, Nat.le_of_ble_eq_true rfl⟩ hA hK hT B (pl_c hN 0 (by decide)) cf_0 rfl rfl hl.1 rfl (Nat.le_of_ble_eq_true rfl) dX2_areSame_2 ⟨Nat.le_of_ble_eq_true rfl, Nat.le_of_ble_eq_true rfl⟩) (Nat.le_of_ble_eq_true rfl) (Nat.le_of_ble_eq_true rfl) (Nat.le_of_ble_eq_true rfl) (Nat.le_of_ble_eq_true rfl) (fun E hE => by unfold x_X2_areSame; rw [xo_some hE]) (fun r ad' f' H locs hw B => ?_)
  obtain ⟨rfl, x1, rfl, rfl⟩ := hw
  refine lv_aload_n hx hb dX2_areSame_5 rfl (lv_at hl 0 rfl) ?_
  refine lv_iload_n hx hb dX2_areSame_6 rfl (lv_at hl 2 rfl) ?_
  refine k_xr (k := 2) (n := 12) hex X hsz hA B (ux_V (rest := [.ref (ad (4 + a1.toNatClampNeg))]) X (c_X2_cardAt l hfl g N ad x sp dy la kn re hN a2 H.size) mw_X2_cardAt md_X2_cardAt rfl lk_X2_37 ⟨Nat.le_of_ble_eq_true rfl, Nat.le_of_ble_eq_true rfl⟩ hA hK hT B (pl_c hN 0 (by decide)) cf_0 rfl rfl hl.1 rfl (Nat.le_of_ble_eq_true rfl) dX2_areSame_7 ⟨Nat.le_of_ble_eq_true rfl, Nat.le_of_ble_eq_true rfl⟩) (Nat.le_of_ble_eq_true rfl) (Nat.le_of_ble_eq_true rfl) (Nat.le_of_ble_eq_true rfl) (Nat.le_of_ble_eq_true rfl) (fun E hE => by unfold x_X2_areSame; rw [xo_none x1, xo_some hE]) (fun r ad' f' H locs hw B => ?_)
  obtain ⟨rfl, x2, rfl, rfl⟩ := hw
  refine k_i (k := 2) (n := 12) hA B (u_VN (rest := []) X (c_X1_isSameAs l g N ad x sp dy la kn re hN a1.toNatClampNeg (Nat.lt_of_lt_of_le (xl_X2_cardAt x1) (by decide)) a2.toNatClampNeg (Nat.lt_of_lt_of_le (xl_X2_cardAt x2) (by decide)) H.size) mw_X1_isSameAs md_X1_isSameAs rfl lk_X2_123 ⟨Nat.le_of_ble_eq_true rfl, Nat.le_of_ble_eq_true rfl⟩ hA hK hT B (pl_sp hN (Nat.lt_of_lt_of_le (xl_X2_cardAt x1) (by decide))) (cf_sp (Nat.lt_of_lt_of_le (xl_X2_cardAt x1) (by decide))) rfl rfl hl.1 rfl (Nat.le_of_ble_eq_true rfl) dX2_areSame_10 ⟨Nat.le_of_ble_eq_true rfl, Nat.le_of_ble_eq_true rfl⟩) (Nat.le_of_ble_eq_true rfl) (Nat.le_of_ble_eq_true rfl) (fun r ad' f' H locs hw B => ?_)
  obtain ⟨rfl, rfl, rfl⟩ := hw
  have ev := (show v_X2_areSame sp a1 a2 = (v_X1_isSameAs sp a1.toNatClampNeg a2.toNatClampNeg) from rfl)
  exact vx_ret (rt_i X hr (ad, (cf g ad x sp dy la kn re)) B (PO_of B) ⟨rfl, by unfold x_X2_areSame; rw [xo_none x1, xo_none x2], by rw [ev], rfl⟩ (nb_of b01_X1_isSameAs) (Nat.le_of_ble_eq_true rfl) (Nat.le_of_ble_eq_true rfl) dX2_areSame_13)
def v_X2_areAlike (sp : Nat → TR) (a1 : Int32) (a2 : Int32) : Int32 := (v_X1_isAlikeTo sp a1.toNatClampNeg a2.toNatClampNeg)
def x_X2_areAlike (a1 : Int32) (a2 : Int32) : Option String := xo (x_X2_cardAt a1) (xo (x_X2_cardAt a2) none)
theorem b01_X2_areAlike {sp : Nat → TR} {a1 : Int32} {a2 : Int32} : (v_X2_areAlike sp a1 a2) = 0 ∨ (v_X2_areAlike sp a1 a2) = 1 := by
  unfold v_X2_areAlike
  exact b01_X1_isAlikeTo
set_option maxHeartbeats 4000000 in
set_option maxRecDepth 100000 in
theorem c_X2_areAlike (l : Launch) (hfl : l.stackTraces = false) (g : GG) (N : Nat) (ad : Nat → Nat) (x : Nat → va_E) (sp dy : Nat → TR) (la kn re : Int32) (hN : 23 ≤ N) (a1 : Int32) (a2 : Int32) : XI l yX2_areAlike cX2_areAlike 3 (some .boolean) (rm 2 2 12) g [.ref (ad 0), .int a1, .int a2] N ad (cf g ad x sp dy la kn re) N (fun E => x_X2_areAlike a1 a2 = some E) (fun r ad' f' => ad = ad' ∧ x_X2_areAlike a1 a2 = none ∧ (v_X2_areAlike sp a1 a2) = r ∧ (cf g ad x sp dy la kn re) = f') := by
  intro sz
  refine mx_start (by decide) (Nat.le_of_ble_eq_true rfl) ?_
  intro p e s m args below meth c hsz X hr hex hA hK hT H locs B ls hl
  obtain ⟨hx, hb, hml, hown, hts, hlocks⟩ := id X
  have hl : lv_has ls 3 [(0, .ref (ad 0)), (1, .int a1), (2, .int a2)] := hl
  refine lv_aload_n hx hb dX2_areAlike_0 rfl (lv_at hl 0 rfl) ?_
  refine lv_iload_n hx hb dX2_areAlike_1 rfl (lv_at hl 1 rfl) ?_
  refine k_xr (k := 1) (n := 6) hex X hsz hA B (ux_V (rest := []) X (c_X2_cardAt l hfl g N ad x sp dy la kn re hN a1 H.size) mw_X2_cardAt md_X2_cardAt rfl lk_X2_37 ⟨Nat.le_of_ble_eq_true rfl, Nat.le_of_ble_eq_true rfl⟩ hA hK hT B (pl_c hN 0 (by decide)) cf_0 rfl rfl hl.1 rfl (Nat.le_of_ble_eq_true rfl) dX2_areAlike_2 ⟨Nat.le_of_ble_eq_true rfl, Nat.le_of_ble_eq_true rfl⟩) (Nat.le_of_ble_eq_true rfl) (Nat.le_of_ble_eq_true rfl) (Nat.le_of_ble_eq_true rfl) (Nat.le_of_ble_eq_true rfl) (fun E hE => by unfold x_X2_areAlike; rw [xo_some hE]) (fun r ad' f' H locs hw B => ?_)
  obtain ⟨rfl, x1, rfl, rfl⟩ := hw
  refine lv_aload_n hx hb dX2_areAlike_5 rfl (lv_at hl 0 rfl) ?_
  refine lv_iload_n hx hb dX2_areAlike_6 rfl (lv_at hl 2 rfl) ?_
  refine k_xr (k := 2) (n := 12) hex X hsz hA B (ux_V (rest := [.ref (ad (4 + a1.toNatClampNeg))]) X (c_X2_cardAt l hfl g N ad x sp dy la kn re hN a2 H.size) mw_X2_cardAt md_X2_cardAt rfl lk_X2_37 ⟨Nat.le_of_ble_eq_true rfl, Nat.le_of_ble_eq_true rfl⟩ hA hK hT B (pl_c hN 0 (by decide)) cf_0 rfl rfl hl.1 rfl (Nat.le_of_ble_eq_true rfl) dX2_areAlike_7 ⟨Nat.le_of_ble_eq_true rfl, Nat.le_of_ble_eq_true rfl⟩) (Nat.le_of_ble_eq_true rfl) (Nat.le_of_ble_eq_true rfl) (Nat.le_of_ble_eq_true rfl) (Nat.le_of_ble_eq_true rfl) (fun E hE => by unfold x_X2_areAlike; rw [xo_none x1, xo_some hE]) (fun r ad' f' H locs hw B => ?_)
  obtain ⟨rfl, x2, rfl, rfl⟩ := hw
  refine k_i (k := 2) (n := 12) hA B (u_VN (rest := []) X (c_X1_isAlikeTo l g N ad x sp dy la kn re hN a1.toNatClampNeg (Nat.lt_of_lt_of_le (xl_X2_cardAt x1) (by decide)) a2.toNatClampNeg (Nat.lt_of_lt_of_le (xl_X2_cardAt x2) (by decide)) H.size) mw_X1_isAlikeTo md_X1_isAlikeTo rfl lk_X2_126 ⟨Nat.le_of_ble_eq_true rfl, Nat.le_of_ble_eq_true rfl⟩ hA hK hT B (pl_sp hN (Nat.lt_of_lt_of_le (xl_X2_cardAt x1) (by decide))) (cf_sp (Nat.lt_of_lt_of_le (xl_X2_cardAt x1) (by decide))) rfl rfl hl.1 rfl (Nat.le_of_ble_eq_true rfl) dX2_areAlike_10 ⟨Nat.le_of_ble_eq_true rfl, Nat.le_of_ble_eq_true rfl⟩) (Nat.le_of_ble_eq_true rfl) (Nat.le_of_ble_eq_true rfl) (fun r ad' f' H locs hw B => ?_)
  obtain ⟨rfl, rfl, rfl⟩ := hw
  have ev := (show v_X2_areAlike sp a1 a2 = (v_X1_isAlikeTo sp a1.toNatClampNeg a2.toNatClampNeg) from rfl)
  exact vx_ret (rt_i X hr (ad, (cf g ad x sp dy la kn re)) B (PO_of B) ⟨rfl, by unfold x_X2_areAlike; rw [xo_none x1, xo_none x2], by rw [ev], rfl⟩ (nb_of b01_X1_isAlikeTo) (Nat.le_of_ble_eq_true rfl) (Nat.le_of_ble_eq_true rfl) dX2_areAlike_13)
def v_X2_date (dy : Nat → TR) (re : Int32) (a1 : Int32) (a2 : Int32) (a3 : Int32) (a4 : Int32) : Int32 × (Nat → TR) × Int32 := if (v_X2_isInCalendar a2 a3 a4) = 0 then (0, dy, re) else ((v_X2_actOnDate (v_X0_put dy 4 a2 a3 a4) re a1.toNatClampNeg 1).1, (v_X2_actOnDate (v_X0_put dy 4 a2 a3 a4) re a1.toNatClampNeg 1).2.1, (v_X2_actOnDate (v_X0_put dy 4 a2 a3 a4) re a1.toNatClampNeg 1).2.2)
def x_X2_date (a1 : Int32) (a2 : Int32) (a3 : Int32) (a4 : Int32) : Option String := xo (x_X2_dateAt a1) (if (v_X2_isInCalendar a2 a3 a4) = 0 then (some iaeN) else none)
set_option maxHeartbeats 4000000 in
set_option maxRecDepth 100000 in
theorem c_X2_date (l : Launch) (hfl : l.stackTraces = false) (g : GG) (N : Nat) (ad : Nat → Nat) (x : Nat → va_E) (sp dy : Nat → TR) (la kn re : Int32) (hN : 23 ≤ N) (a1 : Int32) (a2 : Int32) (a3 : Int32) (a4 : Int32) : XI l yX2_date cX2_date 6 (some .int) (rm 5 2 12) g [.ref (ad 0), .int a1, .int a2, .int a3, .int a4] N ad (cf g ad x sp dy la kn re) N (fun E => x_X2_date a1 a2 a3 a4 = some E) (fun r ad' f' => ad = ad' ∧ x_X2_date a1 a2 a3 a4 = none ∧ (v_X2_date dy re a1 a2 a3 a4).1 = r ∧ (cf g ad x sp (v_X2_date dy re a1 a2 a3 a4).2.1 la kn (v_X2_date dy re a1 a2 a3 a4).2.2) = f') := by
  intro sz
  refine mx_start (by decide) (Nat.le_of_ble_eq_true rfl) ?_
  intro p e s m args below meth c hsz X hr hex hA hK hT H locs B ls hl
  obtain ⟨hx, hb, hml, hown, hts, hlocks⟩ := id X
  have hl : lv_has ls 6 [(0, .ref (ad 0)), (1, .int a1), (2, .int a2), (3, .int a3), (4, .int a4)] := hl
  refine lv_aload_n hx hb dX2_date_0 rfl (lv_at hl 0 rfl) ?_
  refine lv_iload_n hx hb dX2_date_1 rfl (lv_at hl 1 rfl) ?_
  refine k_xr (k := 1) (n := 6) hex X hsz hA B (ux_V (rest := []) X (c_X2_dateAt l hfl g N ad x sp dy la kn re hN a1 H.size) mw_X2_dateAt md_X2_dateAt rfl lk_X2_140 ⟨Nat.le_of_ble_eq_true rfl, Nat.le_of_ble_eq_true rfl⟩ hA hK hT B (pl_c hN 0 (by decide)) cf_0 rfl rfl hl.1 rfl (Nat.le_of_ble_eq_true rfl) dX2_date_2 ⟨Nat.le_of_ble_eq_true rfl, Nat.le_of_ble_eq_true rfl⟩) (Nat.le_of_ble_eq_true rfl) (Nat.le_of_ble_eq_true rfl) (Nat.le_of_ble_eq_true rfl) (Nat.le_of_ble_eq_true rfl) (fun E hE => by unfold x_X2_date; rw [xo_some hE]) (fun r ad' f' H locs hw B => ?_)
  obtain ⟨rfl, x1, rfl, rfl⟩ := hw
  refine lv_astore (lv' := [(5, .ref (ad (18 + a1.toNatClampNeg))), (0, .ref (ad 0)), (1, .int a1), (2, .int a2), (3, .int a3), (4, .int a4)]) hx hb dX2_date_5 hl (by decide) rfl (fun ls hl => ?_)
  refine lv_iload_n hx hb dX2_date_7 rfl (lv_at hl 3 rfl) ?_
  refine lv_iload_n hx hb dX2_date_8 rfl (lv_at hl 4 rfl) ?_
  refine lv_iload hx hb dX2_date_9 (lv_at hl 5 rfl) ?_
  refine k_i (k := 1) (n := 6) hA B (u_S (rest := []) X (c_X2_isInCalendar l g N ad x sp dy la kn re hN a2 a3 a4 H.size) mw_X2_isInCalendar md_X2_isInCalendar rfl lk_X2_144 ⟨Nat.le_of_ble_eq_true rfl, Nat.le_of_ble_eq_true rfl⟩ hA hK hT B hl.1 rfl (Nat.le_of_ble_eq_true rfl) dX2_date_11 ⟨Nat.le_of_ble_eq_true rfl, Nat.le_of_ble_eq_true rfl⟩) (Nat.le_of_ble_eq_true rfl) (Nat.le_of_ble_eq_true rfl) (fun r ad' f' H locs hw B => ?_)
  obtain ⟨rfl, rfl, rfl⟩ := hw
  refine lv_if_ne (tgt := 27) hx hb dX2_date_14 (by decide) (fun c2 => ?_) (fun c2 => ?_)
  · refine lv_aload_n hx hb dX2_date_27 rfl (lv_at hl 1 rfl) ?_
    refine g_get (q := 0) (k := 8) X hK B rfl in_X2 (pl_c hN 0 (by decide)) cf_0 (by decide) lk_X2_33 rfl rfl dX2_date_28 ?_
    refine lv_iload_n hx hb dX2_date_31 rfl (lv_at hl 3 rfl) ?_
    refine lv_iload_n hx hb dX2_date_32 rfl (lv_at hl 4 rfl) ?_
    refine lv_iload hx hb dX2_date_33 (lv_at hl 5 rfl) ?_
    refine k_v (k := 1) (n := 6) hA B (u_VN (rest := []) X (c_X0_put l g N ad x sp dy la kn re hN 4 (by decide) a2 a3 a4 H.size) mw_X0_put md_X0_put rfl lk_X2_150 ⟨Nat.le_of_ble_eq_true rfl, Nat.le_of_ble_eq_true rfl⟩ hA hK hT B (pl_dy hN (by decide)) (cf_dy (by decide)) rfl rfl hl.1 rfl (Nat.le_of_ble_eq_true rfl) dX2_date_35 ⟨Nat.le_of_ble_eq_true rfl, Nat.le_of_ble_eq_true rfl⟩) (Nat.le_of_ble_eq_true rfl) (Nat.le_of_ble_eq_true rfl) (fun ad' f' H locs hw B => ?_)
    obtain ⟨rfl, rfl⟩ := hw
    refine lv_aload_n hx hb dX2_date_38 rfl (lv_at hl 1 rfl) ?_
    refine lv_aload hx hb dX2_date_39 (lv_at hl 0 rfl) ?_
    refine lv_iconst (v := 1) hx hb dX2_date_41 (by decide) ?_
    refine k_i (k := 1) (n := 6) hA B (u_V (rest := []) X (c_X2_actOnDate l g N ad x sp (v_X0_put dy 4 a2 a3 a4) la kn re hN a1.toNatClampNeg (Nat.lt_of_lt_of_le (xl_X2_dateAt x1) (by decide)) 1 H.size) mw_X2_actOnDate md_X2_actOnDate rfl lk_X2_153 ⟨Nat.le_of_ble_eq_true rfl, Nat.le_of_ble_eq_true rfl⟩ hA hK hT B (pl_c hN 0 (by decide)) cf_0 rfl rfl hl.1 rfl (Nat.le_of_ble_eq_true rfl) dX2_date_42 ⟨Nat.le_of_ble_eq_true rfl, Nat.le_of_ble_eq_true rfl⟩) (Nat.le_of_ble_eq_true rfl) (Nat.le_of_ble_eq_true rfl) (fun r ad' f' H locs hw B => ?_)
    obtain ⟨rfl, rfl, rfl⟩ := hw
    have ev := (show v_X2_date dy re a1 a2 a3 a4 = ((v_X2_actOnDate (v_X0_put dy 4 a2 a3 a4) re a1.toNatClampNeg 1).1, (v_X2_actOnDate (v_X0_put dy 4 a2 a3 a4) re a1.toNatClampNeg 1).2.1, (v_X2_actOnDate (v_X0_put dy 4 a2 a3 a4) re a1.toNatClampNeg 1).2.2) from by unfold v_X2_date; rw [if_neg c2])
    exact vx_ret (rt_i X hr (ad, (cf g ad x sp (v_X2_actOnDate (v_X0_put dy 4 a2 a3 a4) re a1.toNatClampNeg 1).2.1 la kn (v_X2_actOnDate (v_X0_put dy 4 a2 a3 a4) re a1.toNatClampNeg 1).2.2)) B (PO_of B) ⟨rfl, by unfold x_X2_date; rw [xo_none x1, if_neg c2], by rw [ev], by rw [ev]⟩ rfl (Nat.le_of_ble_eq_true rfl) (Nat.le_of_ble_eq_true rfl) dX2_date_45)
  · exact g_throw (cls := "java/lang/IllegalArgumentException") (names := ["java/lang/RuntimeException", "java/lang/Exception"]) (i := 8) X hfl (by decide) lk_X2_133 ii_java_lang_IllegalArgumentException (by decide) rfl at_X2_137 ag_X2_137 hex hsz hT B hl.1 dX2_date_17 dX2_date_20 dX2_date_21 dX2_date_23 dX2_date_26 (by decide) (Nat.le_of_ble_eq_true rfl) (Nat.le_of_ble_eq_true rfl) (Nat.le_of_ble_eq_true rfl) (by unfold x_X2_date; rw [xo_none x1, if_pos c2]; rfl) (Nat.le_of_ble_eq_true rfl) (Nat.le_of_ble_eq_true rfl)
def v_X2_copyDate (dy : Nat → TR) (re : Int32) (a1 : Int32) (a2 : Int32) : Int32 × (Nat → TR) × Int32 := ((v_X2_actOnDate (v_X0_putDay dy 4 a2.toNatClampNeg) re a1.toNatClampNeg 1).1, (v_X2_actOnDate (v_X0_putDay dy 4 a2.toNatClampNeg) re a1.toNatClampNeg 1).2.1, (v_X2_actOnDate (v_X0_putDay dy 4 a2.toNatClampNeg) re a1.toNatClampNeg 1).2.2)
def x_X2_copyDate (a1 : Int32) (a2 : Int32) : Option String := xo (x_X2_dateAt a1) (xo (x_X2_dateAt a2) none)
set_option maxHeartbeats 4000000 in
set_option maxRecDepth 100000 in
theorem c_X2_copyDate (l : Launch) (hfl : l.stackTraces = false) (g : GG) (N : Nat) (ad : Nat → Nat) (x : Nat → va_E) (sp dy : Nat → TR) (la kn re : Int32) (hN : 23 ≤ N) (a1 : Int32) (a2 : Int32) : XI l yX2_copyDate cX2_copyDate 4 (some .int) (rm 5 2 12) g [.ref (ad 0), .int a1, .int a2] N ad (cf g ad x sp dy la kn re) N (fun E => x_X2_copyDate a1 a2 = some E) (fun r ad' f' => ad = ad' ∧ x_X2_copyDate a1 a2 = none ∧ (v_X2_copyDate dy re a1 a2).1 = r ∧ (cf g ad x sp (v_X2_copyDate dy re a1 a2).2.1 la kn (v_X2_copyDate dy re a1 a2).2.2) = f') := by
  intro sz
  refine mx_start (by decide) (Nat.le_of_ble_eq_true rfl) ?_
  intro p e s m args below meth c hsz X hr hex hA hK hT H locs B ls hl
  obtain ⟨hx, hb, hml, hown, hts, hlocks⟩ := id X
  have hl : lv_has ls 4 [(0, .ref (ad 0)), (1, .int a1), (2, .int a2)] := hl
  refine lv_aload_n hx hb dX2_copyDate_0 rfl (lv_at hl 0 rfl) ?_
  refine lv_iload_n hx hb dX2_copyDate_1 rfl (lv_at hl 1 rfl) ?_
  refine k_xr (k := 1) (n := 6) hex X hsz hA B (ux_V (rest := []) X (c_X2_dateAt l hfl g N ad x sp dy la kn re hN a1 H.size) mw_X2_dateAt md_X2_dateAt rfl lk_X2_140 ⟨Nat.le_of_ble_eq_true rfl, Nat.le_of_ble_eq_true rfl⟩ hA hK hT B (pl_c hN 0 (by decide)) cf_0 rfl rfl hl.1 rfl (Nat.le_of_ble_eq_true rfl) dX2_copyDate_2 ⟨Nat.le_of_ble_eq_true rfl, Nat.le_of_ble_eq_true rfl⟩) (Nat.le_of_ble_eq_true rfl) (Nat.le_of_ble_eq_true rfl) (Nat.le_of_ble_eq_true rfl) (Nat.le_of_ble_eq_true rfl) (fun E hE => by unfold x_X2_copyDate; rw [xo_some hE]) (fun r ad' f' H locs hw B => ?_)
  obtain ⟨rfl, x1, rfl, rfl⟩ := hw
  refine lv_astore_n (lv' := [(3, .ref (ad (18 + a1.toNatClampNeg))), (0, .ref (ad 0)), (1, .int a1), (2, .int a2)]) hx hb dX2_copyDate_5 rfl hl (by decide) rfl (fun ls hl => ?_)
  refine lv_aload_n hx hb dX2_copyDate_6 rfl (lv_at hl 1 rfl) ?_
  refine g_get (q := 0) (k := 8) X hK B rfl in_X2 (pl_c hN 0 (by decide)) cf_0 (by decide) lk_X2_33 rfl rfl dX2_copyDate_7 ?_
  refine lv_aload_n hx hb dX2_copyDate_10 rfl (lv_at hl 1 rfl) ?_
  refine lv_iload_n hx hb dX2_copyDate_11 rfl (lv_at hl 3 rfl) ?_
  refine k_xr (k := 2) (n := 12) hex X hsz hA B (ux_V (rest := [.ref (ad (18 + 4))]) X (c_X2_dateAt l hfl g N ad x sp dy la kn re hN a2 H.size) mw_X2_dateAt md_X2_dateAt rfl lk_X2_140 ⟨Nat.le_of_ble_eq_true rfl, Nat.le_of_ble_eq_true rfl⟩ hA hK hT B (pl_c hN 0 (by decide)) cf_0 rfl rfl hl.1 rfl (Nat.le_of_ble_eq_true rfl) dX2_copyDate_12 ⟨Nat.le_of_ble_eq_true rfl, Nat.le_of_ble_eq_true rfl⟩) (Nat.le_of_ble_eq_true rfl) (Nat.le_of_ble_eq_true rfl) (Nat.le_of_ble_eq_true rfl) (Nat.le_of_ble_eq_true rfl) (fun E hE => by unfold x_X2_copyDate; rw [xo_none x1, xo_some hE]) (fun r ad' f' H locs hw B => ?_)
  obtain ⟨rfl, x2, rfl, rfl⟩ := hw
  refine k_v (k := 2) (n := 12) hA B (u_VN (rest := []) X (c_X0_putDay l g N ad x sp dy la kn re hN 4 (by decide) a2.toNatClampNeg (Nat.lt_of_lt_of_le (xl_X2_dateAt x2) (by decide)) H.size) mw_X0_putDay md_X0_putDay rfl lk_X2_157 ⟨Nat.le_of_ble_eq_true rfl, Nat.le_of_ble_eq_true rfl⟩ hA hK hT B (pl_dy hN (by decide)) (cf_dy (by decide)) rfl rfl hl.1 rfl (Nat.le_of_ble_eq_true rfl) dX2_copyDate_15 ⟨Nat.le_of_ble_eq_true rfl, Nat.le_of_ble_eq_true rfl⟩) (Nat.le_of_ble_eq_true rfl) (Nat.le_of_ble_eq_true rfl) (fun ad' f' H locs hw B => ?_)
  obtain ⟨rfl, rfl⟩ := hw
  refine lv_aload_n hx hb dX2_copyDate_18 rfl (lv_at hl 1 rfl) ?_
  refine lv_aload_n hx hb dX2_copyDate_19 rfl (lv_at hl 0 rfl) ?_
  refine lv_iconst (v := 1) hx hb dX2_copyDate_20 (by decide) ?_
  refine k_i (k := 2) (n := 12) hA B (u_V (rest := []) X (c_X2_actOnDate l g N ad x sp (v_X0_putDay dy 4 a2.toNatClampNeg) la kn re hN a1.toNatClampNeg (Nat.lt_of_lt_of_le (xl_X2_dateAt x1) (by decide)) 1 H.size) mw_X2_actOnDate md_X2_actOnDate rfl lk_X2_153 ⟨Nat.le_of_ble_eq_true rfl, Nat.le_of_ble_eq_true rfl⟩ hA hK hT B (pl_c hN 0 (by decide)) cf_0 rfl rfl hl.1 rfl (Nat.le_of_ble_eq_true rfl) dX2_copyDate_21 ⟨Nat.le_of_ble_eq_true rfl, Nat.le_of_ble_eq_true rfl⟩) (Nat.le_of_ble_eq_true rfl) (Nat.le_of_ble_eq_true rfl) (fun r ad' f' H locs hw B => ?_)
  obtain ⟨rfl, rfl, rfl⟩ := hw
  have ev := (show v_X2_copyDate dy re a1 a2 = ((v_X2_actOnDate (v_X0_putDay dy 4 a2.toNatClampNeg) re a1.toNatClampNeg 1).1, (v_X2_actOnDate (v_X0_putDay dy 4 a2.toNatClampNeg) re a1.toNatClampNeg 1).2.1, (v_X2_actOnDate (v_X0_putDay dy 4 a2.toNatClampNeg) re a1.toNatClampNeg 1).2.2) from rfl)
  exact vx_ret (rt_i X hr (ad, (cf g ad x sp (v_X2_actOnDate (v_X0_putDay dy 4 a2.toNatClampNeg) re a1.toNatClampNeg 1).2.1 la kn (v_X2_actOnDate (v_X0_putDay dy 4 a2.toNatClampNeg) re a1.toNatClampNeg 1).2.2)) B (PO_of B) ⟨rfl, by unfold x_X2_copyDate; rw [xo_none x1, xo_none x2], by rw [ev], by rw [ev]⟩ rfl (Nat.le_of_ble_eq_true rfl) (Nat.le_of_ble_eq_true rfl) dX2_copyDate_24)
def v_X2_move (sp : Nat → TR) (dy : Nat → TR) (re : Int32) (a1 : Int32) (a2 : Int32) : Int32 × (Nat → TR) × Int32 := ((v_X2_actOnDate (v_X2_reach sp dy a1.toNatClampNeg a2.toNatClampNeg 0).2 re a1.toNatClampNeg (v_X2_reach sp dy a1.toNatClampNeg a2.toNatClampNeg 0).1).1, (v_X2_actOnDate (v_X2_reach sp dy a1.toNatClampNeg a2.toNatClampNeg 0).2 re a1.toNatClampNeg (v_X2_reach sp dy a1.toNatClampNeg a2.toNatClampNeg 0).1).2.1, (v_X2_actOnDate (v_X2_reach sp dy a1.toNatClampNeg a2.toNatClampNeg 0).2 re a1.toNatClampNeg (v_X2_reach sp dy a1.toNatClampNeg a2.toNatClampNeg 0).1).2.2)
def x_X2_move (a1 : Int32) (a2 : Int32) : Option String := xo (x_X2_dateAt a1) (xo (x_X2_cardAt a2) none)
set_option maxHeartbeats 4000000 in
set_option maxRecDepth 100000 in
theorem c_X2_move (l : Launch) (hfl : l.stackTraces = false) (g : GG) (N : Nat) (ad : Nat → Nat) (x : Nat → va_E) (sp dy : Nat → TR) (la kn re : Int32) (hN : 23 ≤ N) (a1 : Int32) (a2 : Int32) : XI l yX2_move cX2_move 4 (some .int) (rm 5 2 12) g [.ref (ad 0), .int a1, .int a2] N ad (cf g ad x sp dy la kn re) N (fun E => x_X2_move a1 a2 = some E) (fun r ad' f' => ad = ad' ∧ x_X2_move a1 a2 = none ∧ (v_X2_move sp dy re a1 a2).1 = r ∧ (cf g ad x sp (v_X2_move sp dy re a1 a2).2.1 la kn (v_X2_move sp dy re a1 a2).2.2) = f') := by
  intro sz
  refine mx_start (by decide) (Nat.le_of_ble_eq_true rfl) ?_
  intro p e s m args below meth c hsz X hr hex hA hK hT H locs B ls hl
  obtain ⟨hx, hb, hml, hown, hts, hlocks⟩ := id X
  have hl : lv_has ls 4 [(0, .ref (ad 0)), (1, .int a1), (2, .int a2)] := hl
  refine lv_aload_n hx hb dX2_move_0 rfl (lv_at hl 0 rfl) ?_
  refine lv_iload_n hx hb dX2_move_1 rfl (lv_at hl 1 rfl) ?_
  refine k_xr (k := 1) (n := 6) hex X hsz hA B (ux_V (rest := []) X (c_X2_dateAt l hfl g N ad x sp dy la kn re hN a1 H.size) mw_X2_dateAt md_X2_dateAt rfl lk_X2_140 ⟨Nat.le_of_ble_eq_true rfl, Nat.le_of_ble_eq_true rfl⟩ hA hK hT B (pl_c hN 0 (by decide)) cf_0 rfl rfl hl.1 rfl (Nat.le_of_ble_eq_true rfl) dX2_move_2 ⟨Nat.le_of_ble_eq_true rfl, Nat.le_of_ble_eq_true rfl⟩) (Nat.le_of_ble_eq_true rfl) (Nat.le_of_ble_eq_true rfl) (Nat.le_of_ble_eq_true rfl) (Nat.le_of_ble_eq_true rfl) (fun E hE => by unfold x_X2_move; rw [xo_some hE]) (fun r ad' f' H locs hw B => ?_)
  obtain ⟨rfl, x1, rfl, rfl⟩ := hw
  refine lv_astore_n (lv' := [(3, .ref (ad (18 + a1.toNatClampNeg))), (0, .ref (ad 0)), (1, .int a1), (2, .int a2)]) hx hb dX2_move_5 rfl hl (by decide) rfl (fun ls hl => ?_)
  refine lv_aload_n hx hb dX2_move_6 rfl (lv_at hl 1 rfl) ?_
  refine lv_aload_n hx hb dX2_move_7 rfl (lv_at hl 0 rfl) ?_
  refine lv_aload_n hx hb dX2_move_8 rfl (lv_at hl 1 rfl) ?_
  refine lv_aload_n hx hb dX2_move_9 rfl (lv_at hl 0 rfl) ?_
  refine lv_aload_n hx hb dX2_move_10 rfl (lv_at hl 1 rfl) ?_
  refine lv_iload_n hx hb dX2_move_11 rfl (lv_at hl 3 rfl) ?_
  refine k_xr (k := 2) (n := 12) hex X hsz hA B (ux_V (rest := [.ref (ad (18 + a1.toNatClampNeg)), .ref (ad 0), .ref (ad (18 + a1.toNatClampNeg)), .ref (ad 0)]) X (c_X2_cardAt l hfl g N ad x sp dy la kn re hN a2 H.size) mw_X2_cardAt md_X2_cardAt rfl lk_X2_37 ⟨Nat.le_of_ble_eq_true rfl, Nat.le_of_ble_eq_true rfl⟩ hA hK hT B (pl_c hN 0 (by decide)) cf_0 rfl rfl hl.1 rfl (Nat.le_of_ble_eq_true rfl) dX2_move_12 ⟨Nat.le_of_ble_eq_true rfl, Nat.le_of_ble_eq_true rfl⟩) (Nat.le_of_ble_eq_true rfl) (Nat.le_of_ble_eq_true rfl) (Nat.le_of_ble_eq_true rfl) (Nat.le_of_ble_eq_true rfl) (fun E hE => by unfold x_X2_move; rw [xo_none x1, xo_some hE]) (fun r ad' f' H locs hw B => ?_)
  obtain ⟨rfl, x2, rfl, rfl⟩ := hw
  refine lv_iconst (v := 0) hx hb dX2_move_15 (by decide) ?_
  refine k_i (k := 2) (n := 12) hA B (u_V (rest := [.ref (ad (18 + a1.toNatClampNeg)), .ref (ad 0)]) X (c_X2_reach l g N ad x sp dy la kn re hN a1.toNatClampNeg (Nat.lt_of_lt_of_le (xl_X2_dateAt x1) (by decide)) a2.toNatClampNeg (Nat.lt_of_lt_of_le (xl_X2_cardAt x2) (by decide)) 0 H.size) mw_X2_reach md_X2_reach rfl lk_X2_161 ⟨Nat.le_of_ble_eq_true rfl, Nat.le_of_ble_eq_true rfl⟩ hA hK hT B (pl_c hN 0 (by decide)) cf_0 rfl rfl hl.1 rfl (Nat.le_of_ble_eq_true rfl) dX2_move_16 ⟨Nat.le_of_ble_eq_true rfl, Nat.le_of_ble_eq_true rfl⟩) (Nat.le_of_ble_eq_true rfl) (Nat.le_of_ble_eq_true rfl) (fun r ad' f' H locs hw B => ?_)
  obtain ⟨rfl, rfl, rfl⟩ := hw
  refine k_i (k := 2) (n := 12) hA B (u_V (rest := []) X (c_X2_actOnDate l g N ad x sp (v_X2_reach sp dy a1.toNatClampNeg a2.toNatClampNeg 0).2 la kn re hN a1.toNatClampNeg (Nat.lt_of_lt_of_le (xl_X2_dateAt x1) (by decide)) (v_X2_reach sp dy a1.toNatClampNeg a2.toNatClampNeg 0).1 H.size) mw_X2_actOnDate md_X2_actOnDate rfl lk_X2_153 ⟨Nat.le_of_ble_eq_true rfl, Nat.le_of_ble_eq_true rfl⟩ hA hK hT B (pl_c hN 0 (by decide)) cf_0 rfl rfl hl.1 rfl (Nat.le_of_ble_eq_true rfl) dX2_move_19 ⟨Nat.le_of_ble_eq_true rfl, Nat.le_of_ble_eq_true rfl⟩) (Nat.le_of_ble_eq_true rfl) (Nat.le_of_ble_eq_true rfl) (fun r ad' f' H locs hw B => ?_)
  obtain ⟨rfl, rfl, rfl⟩ := hw
  have ev := (show v_X2_move sp dy re a1 a2 = ((v_X2_actOnDate (v_X2_reach sp dy a1.toNatClampNeg a2.toNatClampNeg 0).2 re a1.toNatClampNeg (v_X2_reach sp dy a1.toNatClampNeg a2.toNatClampNeg 0).1).1, (v_X2_actOnDate (v_X2_reach sp dy a1.toNatClampNeg a2.toNatClampNeg 0).2 re a1.toNatClampNeg (v_X2_reach sp dy a1.toNatClampNeg a2.toNatClampNeg 0).1).2.1, (v_X2_actOnDate (v_X2_reach sp dy a1.toNatClampNeg a2.toNatClampNeg 0).2 re a1.toNatClampNeg (v_X2_reach sp dy a1.toNatClampNeg a2.toNatClampNeg 0).1).2.2) from rfl)
  exact vx_ret (rt_i X hr (ad, (cf g ad x sp (v_X2_actOnDate (v_X2_reach sp dy a1.toNatClampNeg a2.toNatClampNeg 0).2 re a1.toNatClampNeg (v_X2_reach sp dy a1.toNatClampNeg a2.toNatClampNeg 0).1).2.1 la kn (v_X2_actOnDate (v_X2_reach sp dy a1.toNatClampNeg a2.toNatClampNeg 0).2 re a1.toNatClampNeg (v_X2_reach sp dy a1.toNatClampNeg a2.toNatClampNeg 0).1).2.2)) B (PO_of B) ⟨rfl, by unfold x_X2_move; rw [xo_none x1, xo_none x2], by rw [ev], by rw [ev]⟩ rfl (Nat.le_of_ble_eq_true rfl) (Nat.le_of_ble_eq_true rfl) dX2_move_22)
def v_X2_back (sp : Nat → TR) (dy : Nat → TR) (re : Int32) (a1 : Int32) (a2 : Int32) : Int32 × (Nat → TR) × Int32 := ((v_X2_actOnDate (v_X2_reach sp dy a1.toNatClampNeg a2.toNatClampNeg 1).2 re a1.toNatClampNeg (v_X2_reach sp dy a1.toNatClampNeg a2.toNatClampNeg 1).1).1, (v_X2_actOnDate (v_X2_reach sp dy a1.toNatClampNeg a2.toNatClampNeg 1).2 re a1.toNatClampNeg (v_X2_reach sp dy a1.toNatClampNeg a2.toNatClampNeg 1).1).2.1, (v_X2_actOnDate (v_X2_reach sp dy a1.toNatClampNeg a2.toNatClampNeg 1).2 re a1.toNatClampNeg (v_X2_reach sp dy a1.toNatClampNeg a2.toNatClampNeg 1).1).2.2)
def x_X2_back (a1 : Int32) (a2 : Int32) : Option String := xo (x_X2_dateAt a1) (xo (x_X2_cardAt a2) none)
set_option maxHeartbeats 4000000 in
set_option maxRecDepth 100000 in
theorem c_X2_back (l : Launch) (hfl : l.stackTraces = false) (g : GG) (N : Nat) (ad : Nat → Nat) (x : Nat → va_E) (sp dy : Nat → TR) (la kn re : Int32) (hN : 23 ≤ N) (a1 : Int32) (a2 : Int32) : XI l yX2_back cX2_back 4 (some .int) (rm 5 2 12) g [.ref (ad 0), .int a1, .int a2] N ad (cf g ad x sp dy la kn re) N (fun E => x_X2_back a1 a2 = some E) (fun r ad' f' => ad = ad' ∧ x_X2_back a1 a2 = none ∧ (v_X2_back sp dy re a1 a2).1 = r ∧ (cf g ad x sp (v_X2_back sp dy re a1 a2).2.1 la kn (v_X2_back sp dy re a1 a2).2.2) = f') := by
  intro sz
  refine mx_start (by decide) (Nat.le_of_ble_eq_true rfl) ?_
  intro p e s m args below meth c hsz X hr hex hA hK hT H locs B ls hl
  obtain ⟨hx, hb, hml, hown, hts, hlocks⟩ := id X
  have hl : lv_has ls 4 [(0, .ref (ad 0)), (1, .int a1), (2, .int a2)] := hl
  refine lv_aload_n hx hb dX2_back_0 rfl (lv_at hl 0 rfl) ?_
  refine lv_iload_n hx hb dX2_back_1 rfl (lv_at hl 1 rfl) ?_
  refine k_xr (k := 1) (n := 6) hex X hsz hA B (ux_V (rest := []) X (c_X2_dateAt l hfl g N ad x sp dy la kn re hN a1 H.size) mw_X2_dateAt md_X2_dateAt rfl lk_X2_140 ⟨Nat.le_of_ble_eq_true rfl, Nat.le_of_ble_eq_true rfl⟩ hA hK hT B (pl_c hN 0 (by decide)) cf_0 rfl rfl hl.1 rfl (Nat.le_of_ble_eq_true rfl) dX2_back_2 ⟨Nat.le_of_ble_eq_true rfl, Nat.le_of_ble_eq_true rfl⟩) (Nat.le_of_ble_eq_true rfl) (Nat.le_of_ble_eq_true rfl) (Nat.le_of_ble_eq_true rfl) (Nat.le_of_ble_eq_true rfl) (fun E hE => by unfold x_X2_back; rw [xo_some hE]) (fun r ad' f' H locs hw B => ?_)
  obtain ⟨rfl, x1, rfl, rfl⟩ := hw
  refine lv_astore_n (lv' := [(3, .ref (ad (18 + a1.toNatClampNeg))), (0, .ref (ad 0)), (1, .int a1), (2, .int a2)]) hx hb dX2_back_5 rfl hl (by decide) rfl (fun ls hl => ?_)
  refine lv_aload_n hx hb dX2_back_6 rfl (lv_at hl 1 rfl) ?_
  refine lv_aload_n hx hb dX2_back_7 rfl (lv_at hl 0 rfl) ?_
  refine lv_aload_n hx hb dX2_back_8 rfl (lv_at hl 1 rfl) ?_
  refine lv_aload_n hx hb dX2_back_9 rfl (lv_at hl 0 rfl) ?_
  refine lv_aload_n hx hb dX2_back_10 rfl (lv_at hl 1 rfl) ?_
  refine lv_iload_n hx hb dX2_back_11 rfl (lv_at hl 3 rfl) ?_
  refine k_xr (k := 2) (n := 12) hex X hsz hA B (ux_V (rest := [.ref (ad (18 + a1.toNatClampNeg)), .ref (ad 0), .ref (ad (18 + a1.toNatClampNeg)), .ref (ad 0)]) X (c_X2_cardAt l hfl g N ad x sp dy la kn re hN a2 H.size) mw_X2_cardAt md_X2_cardAt rfl lk_X2_37 ⟨Nat.le_of_ble_eq_true rfl, Nat.le_of_ble_eq_true rfl⟩ hA hK hT B (pl_c hN 0 (by decide)) cf_0 rfl rfl hl.1 rfl (Nat.le_of_ble_eq_true rfl) dX2_back_12 ⟨Nat.le_of_ble_eq_true rfl, Nat.le_of_ble_eq_true rfl⟩) (Nat.le_of_ble_eq_true rfl) (Nat.le_of_ble_eq_true rfl) (Nat.le_of_ble_eq_true rfl) (Nat.le_of_ble_eq_true rfl) (fun E hE => by unfold x_X2_back; rw [xo_none x1, xo_some hE]) (fun r ad' f' H locs hw B => ?_)
  obtain ⟨rfl, x2, rfl, rfl⟩ := hw
  refine lv_iconst (v := 1) hx hb dX2_back_15 (by decide) ?_
  refine k_i (k := 2) (n := 12) hA B (u_V (rest := [.ref (ad (18 + a1.toNatClampNeg)), .ref (ad 0)]) X (c_X2_reach l g N ad x sp dy la kn re hN a1.toNatClampNeg (Nat.lt_of_lt_of_le (xl_X2_dateAt x1) (by decide)) a2.toNatClampNeg (Nat.lt_of_lt_of_le (xl_X2_cardAt x2) (by decide)) 1 H.size) mw_X2_reach md_X2_reach rfl lk_X2_161 ⟨Nat.le_of_ble_eq_true rfl, Nat.le_of_ble_eq_true rfl⟩ hA hK hT B (pl_c hN 0 (by decide)) cf_0 rfl rfl hl.1 rfl (Nat.le_of_ble_eq_true rfl) dX2_back_16 ⟨Nat.le_of_ble_eq_true rfl, Nat.le_of_ble_eq_true rfl⟩) (Nat.le_of_ble_eq_true rfl) (Nat.le_of_ble_eq_true rfl) (fun r ad' f' H locs hw B => ?_)
  obtain ⟨rfl, rfl, rfl⟩ := hw
  refine k_i (k := 2) (n := 12) hA B (u_V (rest := []) X (c_X2_actOnDate l g N ad x sp (v_X2_reach sp dy a1.toNatClampNeg a2.toNatClampNeg 1).2 la kn re hN a1.toNatClampNeg (Nat.lt_of_lt_of_le (xl_X2_dateAt x1) (by decide)) (v_X2_reach sp dy a1.toNatClampNeg a2.toNatClampNeg 1).1 H.size) mw_X2_actOnDate md_X2_actOnDate rfl lk_X2_153 ⟨Nat.le_of_ble_eq_true rfl, Nat.le_of_ble_eq_true rfl⟩ hA hK hT B (pl_c hN 0 (by decide)) cf_0 rfl rfl hl.1 rfl (Nat.le_of_ble_eq_true rfl) dX2_back_19 ⟨Nat.le_of_ble_eq_true rfl, Nat.le_of_ble_eq_true rfl⟩) (Nat.le_of_ble_eq_true rfl) (Nat.le_of_ble_eq_true rfl) (fun r ad' f' H locs hw B => ?_)
  obtain ⟨rfl, rfl, rfl⟩ := hw
  have ev := (show v_X2_back sp dy re a1 a2 = ((v_X2_actOnDate (v_X2_reach sp dy a1.toNatClampNeg a2.toNatClampNeg 1).2 re a1.toNatClampNeg (v_X2_reach sp dy a1.toNatClampNeg a2.toNatClampNeg 1).1).1, (v_X2_actOnDate (v_X2_reach sp dy a1.toNatClampNeg a2.toNatClampNeg 1).2 re a1.toNatClampNeg (v_X2_reach sp dy a1.toNatClampNeg a2.toNatClampNeg 1).1).2.1, (v_X2_actOnDate (v_X2_reach sp dy a1.toNatClampNeg a2.toNatClampNeg 1).2 re a1.toNatClampNeg (v_X2_reach sp dy a1.toNatClampNeg a2.toNatClampNeg 1).1).2.2) from rfl)
  exact vx_ret (rt_i X hr (ad, (cf g ad x sp (v_X2_actOnDate (v_X2_reach sp dy a1.toNatClampNeg a2.toNatClampNeg 1).2 re a1.toNatClampNeg (v_X2_reach sp dy a1.toNatClampNeg a2.toNatClampNeg 1).1).2.1 la kn (v_X2_actOnDate (v_X2_reach sp dy a1.toNatClampNeg a2.toNatClampNeg 1).2 re a1.toNatClampNeg (v_X2_reach sp dy a1.toNatClampNeg a2.toNatClampNeg 1).1).2.2)) B (PO_of B) ⟨rfl, by unfold x_X2_back; rw [xo_none x1, xo_none x2], by rw [ev], by rw [ev]⟩ rfl (Nat.le_of_ble_eq_true rfl) (Nat.le_of_ble_eq_true rfl) dX2_back_22)
def wX2_walk_38 (sp : Nat → TR) (a1 : Int32) (a2 : Int32) (a3 : Int32) : Nat → Int32 → (Nat → TR) → Int32 × (Nat → TR)
  | 0, wk, dy9 => (0, dy9)
  | n + 1, wk, dy9 => if a3 ≤ wk then (wk, dy9) else (if (v_X2_reach sp dy9 a1.toNatClampNeg a2.toNatClampNeg 0).1 = 0 then (wk, (v_X2_reach sp dy9 a1.toNatClampNeg a2.toNatClampNeg 0).2) else (wX2_walk_38 sp a1 a2 a3 n (wk + 1) (v_X0_putDay (v_X2_reach sp dy9 a1.toNatClampNeg a2.toNatClampNeg 0).2 a1.toNatClampNeg 4)))
def v_X2_walk (sp : Nat → TR) (dy : Nat → TR) (a1 : Int32) (a2 : Int32) (a3 : Int32) : Int32 × (Nat → TR) := if a3 < 1 then (0, dy) else (if a3 ≤ 12 then (wX2_walk_38 sp a1 a2 a3 ((a3.toInt - (0 : Int32).toInt).toNat + 1) 0 dy) else (0, dy))
def x_X2_walk (a1 : Int32) (a2 : Int32) (a3 : Int32) : Option String := xo (x_X2_dateAt a1) (xo (x_X2_cardAt a2) (if a3 < 1 then (some iaeN) else (if a3 ≤ 12 then none else (some iaeN))))
set_option maxHeartbeats 4000000 in
set_option maxRecDepth 100000 in
theorem c_X2_walk (l : Launch) (hfl : l.stackTraces = false) (g : GG) (N : Nat) (ad : Nat → Nat) (x : Nat → va_E) (sp dy : Nat → TR) (la kn re : Int32) (hN : 23 ≤ N) (a1 : Int32) (a2 : Int32) (a3 : Int32) : XI l yX2_walk cX2_walk 7 (some .int) (rm 5 3 18) g [.ref (ad 0), .int a1, .int a2, .int a3] N ad (cf g ad x sp dy la kn re) N (fun E => x_X2_walk a1 a2 a3 = some E) (fun r ad' f' => ad = ad' ∧ x_X2_walk a1 a2 a3 = none ∧ (v_X2_walk sp dy a1 a2 a3).1 = r ∧ (cf g ad x sp (v_X2_walk sp dy a1 a2 a3).2 la kn re) = f') := by
  intro sz
  refine mx_start (by decide) (Nat.le_of_ble_eq_true rfl) ?_
  intro p e s m args below meth c hsz X hr hex hA hK hT H locs B ls hl
  obtain ⟨hx, hb, hml, hown, hts, hlocks⟩ := id X
  have hl : lv_has ls 7 [(0, .ref (ad 0)), (1, .int a1), (2, .int a2), (3, .int a3)] := hl
  refine lv_aload_n hx hb dX2_walk_0 rfl (lv_at hl 0 rfl) ?_
  refine lv_iload_n hx hb dX2_walk_1 rfl (lv_at hl 1 rfl) ?_
  refine k_xr (k := 1) (n := 6) hex X hsz hA B (ux_V (rest := []) X (c_X2_dateAt l hfl g N ad x sp dy la kn re hN a1 H.size) mw_X2_dateAt md_X2_dateAt rfl lk_X2_140 ⟨Nat.le_of_ble_eq_true rfl, Nat.le_of_ble_eq_true rfl⟩ hA hK hT B (pl_c hN 0 (by decide)) cf_0 rfl rfl hl.1 rfl (Nat.le_of_ble_eq_true rfl) dX2_walk_2 ⟨Nat.le_of_ble_eq_true rfl, Nat.le_of_ble_eq_true rfl⟩) (Nat.le_of_ble_eq_true rfl) (Nat.le_of_ble_eq_true rfl) (Nat.le_of_ble_eq_true rfl) (Nat.le_of_ble_eq_true rfl) (fun E hE => by unfold x_X2_walk; rw [xo_some hE]) (fun r ad' f' H locs hw B => ?_)
  obtain ⟨rfl, x1, rfl, rfl⟩ := hw
  refine lv_astore (lv' := [(4, .ref (ad (18 + a1.toNatClampNeg))), (0, .ref (ad 0)), (1, .int a1), (2, .int a2), (3, .int a3)]) hx hb dX2_walk_5 hl (by decide) rfl (fun ls hl => ?_)
  refine lv_aload_n hx hb dX2_walk_7 rfl (lv_at hl 1 rfl) ?_
  refine lv_iload_n hx hb dX2_walk_8 rfl (lv_at hl 3 rfl) ?_
  refine k_xr (k := 2) (n := 12) hex X hsz hA B (ux_V (rest := []) X (c_X2_cardAt l hfl g N ad x sp dy la kn re hN a2 H.size) mw_X2_cardAt md_X2_cardAt rfl lk_X2_37 ⟨Nat.le_of_ble_eq_true rfl, Nat.le_of_ble_eq_true rfl⟩ hA hK hT B (pl_c hN 0 (by decide)) cf_0 rfl rfl hl.1 rfl (Nat.le_of_ble_eq_true rfl) dX2_walk_9 ⟨Nat.le_of_ble_eq_true rfl, Nat.le_of_ble_eq_true rfl⟩) (Nat.le_of_ble_eq_true rfl) (Nat.le_of_ble_eq_true rfl) (Nat.le_of_ble_eq_true rfl) (Nat.le_of_ble_eq_true rfl) (fun E hE => by unfold x_X2_walk; rw [xo_none x1, xo_some hE]) (fun r ad' f' H locs hw B => ?_)
  obtain ⟨rfl, x2, rfl, rfl⟩ := hw
  refine lv_astore (lv' := [(5, .ref (ad (4 + a2.toNatClampNeg))), (4, .ref (ad (18 + a1.toNatClampNeg))), (0, .ref (ad 0)), (1, .int a1), (2, .int a2), (3, .int a3)]) hx hb dX2_walk_12 hl (by decide) rfl (fun ls hl => ?_)
  refine lv_iload_n hx hb dX2_walk_14 rfl (lv_at hl 5 rfl) ?_
  refine lv_iconst (v := 1) hx hb dX2_walk_15 (by decide) ?_
  refine lv_icmp_lt (tgt := 25) hx hb dX2_walk_16 (by decide) (fun c3 => ?_) (fun c3 => ?_)
  · exact g_throw (cls := "java/lang/IllegalArgumentException") (names := ["java/lang/RuntimeException", "java/lang/Exception"]) (i := 9) X hfl (by decide) lk_X2_133 ii_java_lang_IllegalArgumentException (by decide) rfl at_X2_137 ag_X2_137 hex hsz hT B hl.1 dX2_walk_25 dX2_walk_28 dX2_walk_29 dX2_walk_31 dX2_walk_34 (by decide) (Nat.le_of_ble_eq_true rfl) (Nat.le_of_ble_eq_true rfl) (Nat.le_of_ble_eq_true rfl) (by unfold x_X2_walk; rw [xo_none x1, xo_none x2, if_pos c3]; rfl) (Nat.le_of_ble_eq_true rfl) (Nat.le_of_ble_eq_true rfl)
  · refine lv_iload_n hx hb dX2_walk_19 rfl (lv_at hl 5 rfl) ?_
    refine lv_bipush (v := 12) hx hb dX2_walk_20 (by decide) ?_
    refine lv_icmp_le (tgt := 35) hx hb dX2_walk_22 (by decide) (fun c4 => ?_) (fun c4 => ?_)
    · refine lv_iconst (v := 0) hx hb dX2_walk_35 (by decide) ?_
      refine lv_istore (lv' := [(6, .int 0), (5, .ref (ad (4 + a2.toNatClampNeg))), (4, .ref (ad (18 + a1.toNatClampNeg))), (0, .ref (ad 0)), (1, .int a1), (2, .int a2), (3, .int a3)]) hx hb dX2_walk_36 hl (by decide) rfl (fun ls hl => ?_)
      have hxn : x_X2_walk a1 a2 a3 = none := by unfold x_X2_walk; rw [xo_none x1, xo_none x2, if_neg c3, if_pos c4]
      have loop5 : ∀ (n5 : Nat) (wk : Int32) (dy9 : Nat → TR) (H : Heap) (locs : List Loc), (a3.toInt - wk.toInt).toNat < n5 → v_X2_walk sp dy a1 a2 a3 = wX2_walk_38 sp a1 a2 a3 n5 wk dy9 → WB g (aw N ad sz) s.heap N ad (cf g ad x sp dy9 la kn re) H locs → ∀ ls : Array Slot, lv_has ls 7 [(6, .int wk), (5, .ref (ad (4 + a2.toNatClampNeg))), (4, .ref (ad (18 + a1.toNatClampNeg))), (0, .ref (ad 0)), (1, .int a1), (2, .int a2), (3, .int a3)] → W p l e (rm 5 3 18) s m args below meth c H locs 2 12 (vx_MQ below (va_Qi (fun r (u : WS) => (fun r ad' f' => ad = ad' ∧ x_X2_walk a1 a2 a3 = none ∧ (v_X2_walk sp dy a1 a2 a3).1 = r ∧ (cf g ad x sp (v_X2_walk sp dy a1 a2 a3).2 la kn re) = f') r u.1 u.2) (fun u t => PO g N u.1 u.2 (aw N ad sz) t) (aw N ad sz)) (XS g N ad (cf g ad x sp dy la kn re) sz (fun E => x_X2_walk a1 a2 a3 = some E)) args s (rm 5 3 18).cells (rm 5 3 18).slots (aw N ad sz)) (F0 m 38 ls []) := by
        intro n5
        induction n5 with
        | zero => intro wk dy9 H locs hn; exact absurd hn (Nat.not_lt_zero _)
        | succ n5 ih5 =>
          intro wk dy9 H locs hn5 he5 B ls hl
          refine lv_iload hx hb dX2_walk_38 (lv_at hl 0 rfl) ?_
          refine lv_iload_n hx hb dX2_walk_40 rfl (lv_at hl 6 rfl) ?_
          refine lv_icmp_ge (tgt := 71) hx hb dX2_walk_41 (by decide) (fun c6 => ?_) (fun c6 => ?_)
          · refine lv_iload hx hb dX2_walk_71 (lv_at hl 0 rfl) ?_
            have ev := (show v_X2_walk sp dy a1 a2 a3 = (wk, dy9) from he5.trans (by rw [wX2_walk_38, if_pos c6]))
            exact vx_ret (rt_i X hr (ad, (cf g ad x sp dy9 la kn re)) B (PO_of B) ⟨rfl, hxn, by rw [ev], by rw [ev]⟩ rfl (Nat.le_of_ble_eq_true rfl) (Nat.le_of_ble_eq_true rfl) dX2_walk_73)
          · refine lv_aload_n hx hb dX2_walk_44 rfl (lv_at hl 3 rfl) ?_
            refine lv_aload hx hb dX2_walk_45 (lv_at hl 2 rfl) ?_
            refine lv_aload hx hb dX2_walk_47 (lv_at hl 1 rfl) ?_
            refine lv_iconst (v := 0) hx hb dX2_walk_49 (by decide) ?_
            refine k_i (k := 2) (n := 12) hA B (u_V (rest := []) X (c_X2_reach l g N ad x sp dy9 la kn re hN a1.toNatClampNeg (Nat.lt_of_lt_of_le (xl_X2_dateAt x1) (by decide)) a2.toNatClampNeg (Nat.lt_of_lt_of_le (xl_X2_cardAt x2) (by decide)) 0 H.size) mw_X2_reach md_X2_reach rfl lk_X2_161 ⟨Nat.le_of_ble_eq_true rfl, Nat.le_of_ble_eq_true rfl⟩ hA hK hT B (pl_c hN 0 (by decide)) cf_0 rfl rfl hl.1 rfl (Nat.le_of_ble_eq_true rfl) dX2_walk_50 ⟨Nat.le_of_ble_eq_true rfl, Nat.le_of_ble_eq_true rfl⟩) (Nat.le_of_ble_eq_true rfl) (Nat.le_of_ble_eq_true rfl) (fun r ad' f' H locs hw B => ?_)
            obtain ⟨rfl, rfl, rfl⟩ := hw
            refine lv_if_eq (tgt := 71) hx hb dX2_walk_53 (by decide) (fun c7 => ?_) (fun c7 => ?_)
            · refine lv_iload hx hb dX2_walk_71 (lv_at hl 0 rfl) ?_
              have ev := (show v_X2_walk sp dy a1 a2 a3 = (wk, (v_X2_reach sp dy9 a1.toNatClampNeg a2.toNatClampNeg 0).2) from he5.trans (by rw [wX2_walk_38, if_neg c6, if_pos c7]))
              exact vx_ret (rt_i X hr (ad, (cf g ad x sp (v_X2_reach sp dy9 a1.toNatClampNeg a2.toNatClampNeg 0).2 la kn re)) B (PO_of B) ⟨rfl, hxn, by rw [ev], by rw [ev]⟩ rfl (Nat.le_of_ble_eq_true rfl) (Nat.le_of_ble_eq_true rfl) dX2_walk_73)
            · refine lv_aload hx hb dX2_walk_56 (lv_at hl 2 rfl) ?_
              refine lv_aload_n hx hb dX2_walk_58 rfl (lv_at hl 3 rfl) ?_
              refine g_get (q := 0) (k := 8) X hK B rfl in_X2 (pl_c hN 0 (by decide)) cf_0 (by decide) lk_X2_33 rfl rfl dX2_walk_59 ?_
              refine k_v (k := 2) (n := 12) hA B (u_VN (rest := []) X (c_X0_putDay l g N ad x sp (v_X2_reach sp dy9 a1.toNatClampNeg a2.toNatClampNeg 0).2 la kn re hN a1.toNatClampNeg (Nat.lt_of_lt_of_le (xl_X2_dateAt x1) (by decide)) 4 (by decide) H.size) mw_X0_putDay md_X0_putDay rfl lk_X2_157 ⟨Nat.le_of_ble_eq_true rfl, Nat.le_of_ble_eq_true rfl⟩ hA hK hT B (pl_dy hN (Nat.lt_of_lt_of_le (xl_X2_dateAt x1) (by decide))) (cf_dy (Nat.lt_of_lt_of_le (xl_X2_dateAt x1) (by decide))) rfl rfl hl.1 rfl (Nat.le_of_ble_eq_true rfl) dX2_walk_62 ⟨Nat.le_of_ble_eq_true rfl, Nat.le_of_ble_eq_true rfl⟩) (Nat.le_of_ble_eq_true rfl) (Nat.le_of_ble_eq_true rfl) (fun ad' f' H locs hw B => ?_)
              obtain ⟨rfl, rfl⟩ := hw
              refine lv_iinc (v := wk + 1) (lv' := [(6, .int (wk + 1)), (5, .ref (ad (4 + a2.toNatClampNeg))), (4, .ref (ad (18 + a1.toNatClampNeg))), (0, .ref (ad 0)), (1, .int a1), (2, .int a2), (3, .int a3)]) hx hb dX2_walk_65 hl (k := 0) rfl rfl (by decide) rfl (fun ls hl => ?_)
              refine lv_goto (tgt := 38) hx hb dX2_walk_68 (by decide) ?_
              exact ih5 (wk + 1) (v_X0_putDay (v_X2_reach sp dy9 a1.toNatClampNeg a2.toNatClampNeg 0).2 a1.toNatClampNeg 4) H locs (fu_le c6 hn5) (show v_X2_walk sp dy a1 a2 a3 = wX2_walk_38 sp a1 a2 a3 n5 (wk + 1) (v_X0_putDay (v_X2_reach sp dy9 a1.toNatClampNeg a2.toNatClampNeg 0).2 a1.toNatClampNeg 4) from he5.trans (by rw [wX2_walk_38, if_neg c6, if_neg c7])) B ls (lv_sub hl [0, 1, 2, 3, 4, 5, 6] rfl)
      exact loop5 ((a3.toInt - (0 : Int32).toInt).toNat + 1) 0 dy H locs (Nat.lt_succ_self _) (show v_X2_walk sp dy a1 a2 a3 = wX2_walk_38 sp a1 a2 a3 ((a3.toInt - (0 : Int32).toInt).toNat + 1) 0 dy from by unfold v_X2_walk; rw [if_neg c3, if_pos c4]) B ls hl
    · exact g_throw (cls := "java/lang/IllegalArgumentException") (names := ["java/lang/RuntimeException", "java/lang/Exception"]) (i := 9) X hfl (by decide) lk_X2_133 ii_java_lang_IllegalArgumentException (by decide) rfl at_X2_137 ag_X2_137 hex hsz hT B hl.1 dX2_walk_25 dX2_walk_28 dX2_walk_29 dX2_walk_31 dX2_walk_34 (by decide) (Nat.le_of_ble_eq_true rfl) (Nat.le_of_ble_eq_true rfl) (Nat.le_of_ble_eq_true rfl) (by unfold x_X2_walk; rw [xo_none x1, xo_none x2, if_neg c3, if_neg c4]; rfl) (Nat.le_of_ble_eq_true rfl) (Nat.le_of_ble_eq_true rfl)
def v_X2_actByBetween (sp : Nat → TR) (dy : Nat → TR) (re : Int32) (a1 : Int32) (a2 : Int32) (a3 : Int32) : Int32 × (Nat → TR) × Int32 := ((v_X2_actOnCard (v_X1_putBetween sp dy 12 a2.toNatClampNeg a3.toNatClampNeg).2 re a1.toNatClampNeg (v_X1_putBetween sp dy 12 a2.toNatClampNeg a3.toNatClampNeg).1).1, (v_X2_actOnCard (v_X1_putBetween sp dy 12 a2.toNatClampNeg a3.toNatClampNeg).2 re a1.toNatClampNeg (v_X1_putBetween sp dy 12 a2.toNatClampNeg a3.toNatClampNeg).1).2.1, (v_X2_actOnCard (v_X1_putBetween sp dy 12 a2.toNatClampNeg a3.toNatClampNeg).2 re a1.toNatClampNeg (v_X1_putBetween sp dy 12 a2.toNatClampNeg a3.toNatClampNeg).1).2.2)
def x_X2_actByBetween (a1 : Int32) (a2 : Int32) (a3 : Int32) : Option String := xo (x_X2_cardAt a1) (xo (x_X2_dateAt a2) (xo (x_X2_dateAt a3) none))
set_option maxHeartbeats 4000000 in
set_option maxRecDepth 100000 in
theorem c_X2_actByBetween (l : Launch) (hfl : l.stackTraces = false) (g : GG) (N : Nat) (ad : Nat → Nat) (x : Nat → va_E) (sp dy : Nat → TR) (la kn re : Int32) (hN : 23 ≤ N) (a1 : Int32) (a2 : Int32) (a3 : Int32) : XI l yX2_actByBetween cX2_actByBetween 6 (some .int) (rm 5 3 18) g [.ref (ad 0), .int a1, .int a2, .int a3] N ad (cf g ad x sp dy la kn re) N (fun E => x_X2_actByBetween a1 a2 a3 = some E) (fun r ad' f' => ad = ad' ∧ x_X2_actByBetween a1 a2 a3 = none ∧ (v_X2_actByBetween sp dy re a1 a2 a3).1 = r ∧ (cf g ad x (v_X2_actByBetween sp dy re a1 a2 a3).2.1 dy la kn (v_X2_actByBetween sp dy re a1 a2 a3).2.2) = f') := by
  intro sz
  refine mx_start (by decide) (Nat.le_of_ble_eq_true rfl) ?_
  intro p e s m args below meth c hsz X hr hex hA hK hT H locs B ls hl
  obtain ⟨hx, hb, hml, hown, hts, hlocks⟩ := id X
  have hl : lv_has ls 6 [(0, .ref (ad 0)), (1, .int a1), (2, .int a2), (3, .int a3)] := hl
  refine lv_aload_n hx hb dX2_actByBetween_0 rfl (lv_at hl 0 rfl) ?_
  refine lv_iload_n hx hb dX2_actByBetween_1 rfl (lv_at hl 1 rfl) ?_
  refine k_xr (k := 1) (n := 6) hex X hsz hA B (ux_V (rest := []) X (c_X2_cardAt l hfl g N ad x sp dy la kn re hN a1 H.size) mw_X2_cardAt md_X2_cardAt rfl lk_X2_37 ⟨Nat.le_of_ble_eq_true rfl, Nat.le_of_ble_eq_true rfl⟩ hA hK hT B (pl_c hN 0 (by decide)) cf_0 rfl rfl hl.1 rfl (Nat.le_of_ble_eq_true rfl) dX2_actByBetween_2 ⟨Nat.le_of_ble_eq_true rfl, Nat.le_of_ble_eq_true rfl⟩) (Nat.le_of_ble_eq_true rfl) (Nat.le_of_ble_eq_true rfl) (Nat.le_of_ble_eq_true rfl) (Nat.le_of_ble_eq_true rfl) (fun E hE => by unfold x_X2_actByBetween; rw [xo_some hE]) (fun r ad' f' H locs hw B => ?_)
  obtain ⟨rfl, x1, rfl, rfl⟩ := hw
  refine lv_astore (lv' := [(4, .ref (ad (4 + a1.toNatClampNeg))), (0, .ref (ad 0)), (1, .int a1), (2, .int a2), (3, .int a3)]) hx hb dX2_actByBetween_5 hl (by decide) rfl (fun ls hl => ?_)
  refine lv_aload_n hx hb dX2_actByBetween_7 rfl (lv_at hl 1 rfl) ?_
  refine lv_iload_n hx hb dX2_actByBetween_8 rfl (lv_at hl 3 rfl) ?_
  refine k_xr (k := 2) (n := 12) hex X hsz hA B (ux_V (rest := []) X (c_X2_dateAt l hfl g N ad x sp dy la kn re hN a2 H.size) mw_X2_dateAt md_X2_dateAt rfl lk_X2_140 ⟨Nat.le_of_ble_eq_true rfl, Nat.le_of_ble_eq_true rfl⟩ hA hK hT B (pl_c hN 0 (by decide)) cf_0 rfl rfl hl.1 rfl (Nat.le_of_ble_eq_true rfl) dX2_actByBetween_9 ⟨Nat.le_of_ble_eq_true rfl, Nat.le_of_ble_eq_true rfl⟩) (Nat.le_of_ble_eq_true rfl) (Nat.le_of_ble_eq_true rfl) (Nat.le_of_ble_eq_true rfl) (Nat.le_of_ble_eq_true rfl) (fun E hE => by unfold x_X2_actByBetween; rw [xo_none x1, xo_some hE]) (fun r ad' f' H locs hw B => ?_)
  obtain ⟨rfl, x2, rfl, rfl⟩ := hw
  refine lv_astore (lv' := [(5, .ref (ad (18 + a2.toNatClampNeg))), (4, .ref (ad (4 + a1.toNatClampNeg))), (0, .ref (ad 0)), (1, .int a1), (2, .int a2), (3, .int a3)]) hx hb dX2_actByBetween_12 hl (by decide) rfl (fun ls hl => ?_)
  refine lv_aload_n hx hb dX2_actByBetween_14 rfl (lv_at hl 2 rfl) ?_
  refine lv_aload hx hb dX2_actByBetween_15 (lv_at hl 1 rfl) ?_
  refine lv_aload_n hx hb dX2_actByBetween_17 rfl (lv_at hl 2 rfl) ?_
  refine g_get (q := 0) (k := 6) X hK B rfl in_X2 (pl_c hN 0 (by decide)) cf_0 (by decide) lk_X2_25 rfl rfl dX2_actByBetween_18 ?_
  refine lv_aload hx hb dX2_actByBetween_21 (lv_at hl 0 rfl) ?_
  refine lv_aload_n hx hb dX2_actByBetween_23 rfl (lv_at hl 2 rfl) ?_
  refine lv_iload_n hx hb dX2_actByBetween_24 rfl (lv_at hl 5 rfl) ?_
  refine k_xr (k := 3) (n := 18) hex X hsz hA B (ux_V (rest := [.ref (ad (18 + a2.toNatClampNeg)), .ref (ad (4 + 12)), .ref (ad (4 + a1.toNatClampNeg)), .ref (ad 0)]) X (c_X2_dateAt l hfl g N ad x sp dy la kn re hN a3 H.size) mw_X2_dateAt md_X2_dateAt rfl lk_X2_140 ⟨Nat.le_of_ble_eq_true rfl, Nat.le_of_ble_eq_true rfl⟩ hA hK hT B (pl_c hN 0 (by decide)) cf_0 rfl rfl hl.1 rfl (Nat.le_of_ble_eq_true rfl) dX2_actByBetween_25 ⟨Nat.le_of_ble_eq_true rfl, Nat.le_of_ble_eq_true rfl⟩) (Nat.le_of_ble_eq_true rfl) (Nat.le_of_ble_eq_true rfl) (Nat.le_of_ble_eq_true rfl) (Nat.le_of_ble_eq_true rfl) (fun E hE => by unfold x_X2_actByBetween; rw [xo_none x1, xo_none x2, xo_some hE]) (fun r ad' f' H locs hw B => ?_)
  obtain ⟨rfl, x3, rfl, rfl⟩ := hw
  refine k_i (k := 3) (n := 18) hA B (u_VN (rest := [.ref (ad (4 + a1.toNatClampNeg)), .ref (ad 0)]) X (c_X1_putBetween l g N ad x sp dy la kn re hN 12 (by decide) a2.toNatClampNeg (Nat.lt_of_lt_of_le (xl_X2_dateAt x2) (by decide)) a3.toNatClampNeg (Nat.lt_of_lt_of_le (xl_X2_dateAt x3) (by decide)) H.size) mw_X1_putBetween md_X1_putBetween rfl lk_X2_173 ⟨Nat.le_of_ble_eq_true rfl, Nat.le_of_ble_eq_true rfl⟩ hA hK hT B (pl_sp hN (by decide)) (cf_sp (by decide)) rfl rfl hl.1 rfl (Nat.le_of_ble_eq_true rfl) dX2_actByBetween_28 ⟨Nat.le_of_ble_eq_true rfl, Nat.le_of_ble_eq_true rfl⟩) (Nat.le_of_ble_eq_true rfl) (Nat.le_of_ble_eq_true rfl) (fun r ad' f' H locs hw B => ?_)
  obtain ⟨rfl, rfl, rfl⟩ := hw
  refine k_i (k := 3) (n := 18) hA B (u_V (rest := []) X (c_X2_actOnCard l g N ad x (v_X1_putBetween sp dy 12 a2.toNatClampNeg a3.toNatClampNeg).2 dy la kn re hN a1.toNatClampNeg (Nat.lt_of_lt_of_le (xl_X2_cardAt x1) (by decide)) (v_X1_putBetween sp dy 12 a2.toNatClampNeg a3.toNatClampNeg).1 H.size) mw_X2_actOnCard md_X2_actOnCard rfl lk_X2_45 ⟨Nat.le_of_ble_eq_true rfl, Nat.le_of_ble_eq_true rfl⟩ hA hK hT B (pl_c hN 0 (by decide)) cf_0 rfl rfl hl.1 rfl (Nat.le_of_ble_eq_true rfl) dX2_actByBetween_31 ⟨Nat.le_of_ble_eq_true rfl, Nat.le_of_ble_eq_true rfl⟩) (Nat.le_of_ble_eq_true rfl) (Nat.le_of_ble_eq_true rfl) (fun r ad' f' H locs hw B => ?_)
  obtain ⟨rfl, rfl, rfl⟩ := hw
  have ev := (show v_X2_actByBetween sp dy re a1 a2 a3 = ((v_X2_actOnCard (v_X1_putBetween sp dy 12 a2.toNatClampNeg a3.toNatClampNeg).2 re a1.toNatClampNeg (v_X1_putBetween sp dy 12 a2.toNatClampNeg a3.toNatClampNeg).1).1, (v_X2_actOnCard (v_X1_putBetween sp dy 12 a2.toNatClampNeg a3.toNatClampNeg).2 re a1.toNatClampNeg (v_X1_putBetween sp dy 12 a2.toNatClampNeg a3.toNatClampNeg).1).2.1, (v_X2_actOnCard (v_X1_putBetween sp dy 12 a2.toNatClampNeg a3.toNatClampNeg).2 re a1.toNatClampNeg (v_X1_putBetween sp dy 12 a2.toNatClampNeg a3.toNatClampNeg).1).2.2) from rfl)
  exact vx_ret (rt_i X hr (ad, (cf g ad x (v_X2_actOnCard (v_X1_putBetween sp dy 12 a2.toNatClampNeg a3.toNatClampNeg).2 re a1.toNatClampNeg (v_X1_putBetween sp dy 12 a2.toNatClampNeg a3.toNatClampNeg).1).2.1 dy la kn (v_X2_actOnCard (v_X1_putBetween sp dy 12 a2.toNatClampNeg a3.toNatClampNeg).2 re a1.toNatClampNeg (v_X1_putBetween sp dy 12 a2.toNatClampNeg a3.toNatClampNeg).1).2.2)) B (PO_of B) ⟨rfl, by unfold x_X2_actByBetween; rw [xo_none x1, xo_none x2, xo_none x3], by rw [ev], by rw [ev]⟩ rfl (Nat.le_of_ble_eq_true rfl) (Nat.le_of_ble_eq_true rfl) dX2_actByBetween_34)
def v_X2_between (sp : Nat → TR) (dy : Nat → TR) (re : Int32) (a1 : Int32) (a2 : Int32) (a3 : Int32) : Int32 × (Nat → TR) × Int32 := ((v_X2_actByBetween sp dy re a1 a2 a3).1, (v_X2_actByBetween sp dy re a1 a2 a3).2.1, (v_X2_actByBetween sp dy re a1 a2 a3).2.2)
def x_X2_between (a1 : Int32) (a2 : Int32) (a3 : Int32) : Option String := xo (x_X2_actByBetween a1 a2 a3) none
set_option maxHeartbeats 4000000 in
set_option maxRecDepth 100000 in
theorem c_X2_between (l : Launch) (hfl : l.stackTraces = false) (g : GG) (N : Nat) (ad : Nat → Nat) (x : Nat → va_E) (sp dy : Nat → TR) (la kn re : Int32) (hN : 23 ≤ N) (a1 : Int32) (a2 : Int32) (a3 : Int32) : XI l yX2_between cX2_between 4 (some .int) (rm 6 3 18) g [.ref (ad 0), .int a1, .int a2, .int a3] N ad (cf g ad x sp dy la kn re) N (fun E => x_X2_between a1 a2 a3 = some E) (fun r ad' f' => ad = ad' ∧ x_X2_between a1 a2 a3 = none ∧ (v_X2_between sp dy re a1 a2 a3).1 = r ∧ (cf g ad x (v_X2_between sp dy re a1 a2 a3).2.1 dy la kn (v_X2_between sp dy re a1 a2 a3).2.2) = f') := by
  intro sz
  refine mx_start (by decide) (Nat.le_of_ble_eq_true rfl) ?_
  intro p e s m args below meth c hsz X hr hex hA hK hT H locs B ls hl
  obtain ⟨hx, hb, hml, hown, hts, hlocks⟩ := id X
  have hl : lv_has ls 4 [(0, .ref (ad 0)), (1, .int a1), (2, .int a2), (3, .int a3)] := hl
  refine lv_aload_n hx hb dX2_between_0 rfl (lv_at hl 0 rfl) ?_
  refine lv_iload_n hx hb dX2_between_1 rfl (lv_at hl 1 rfl) ?_
  refine lv_iload_n hx hb dX2_between_2 rfl (lv_at hl 2 rfl) ?_
  refine lv_iload_n hx hb dX2_between_3 rfl (lv_at hl 3 rfl) ?_
  refine k_xi (k := 3) (n := 18) hex X hsz hA B (ux_V (rest := []) X (c_X2_actByBetween l hfl g N ad x sp dy la kn re hN a1 a2 a3 H.size) mw_X2_actByBetween md_X2_actByBetween rfl lk_X2_167 ⟨Nat.le_of_ble_eq_true rfl, Nat.le_of_ble_eq_true rfl⟩ hA hK hT B (pl_c hN 0 (by decide)) cf_0 rfl rfl hl.1 rfl (Nat.le_of_ble_eq_true rfl) dX2_between_4 ⟨Nat.le_of_ble_eq_true rfl, Nat.le_of_ble_eq_true rfl⟩) (Nat.le_of_ble_eq_true rfl) (Nat.le_of_ble_eq_true rfl) (Nat.le_of_ble_eq_true rfl) (Nat.le_of_ble_eq_true rfl) (fun E hE => by unfold x_X2_between; rw [xo_some hE]) (fun r ad' f' H locs hw B => ?_)
  obtain ⟨rfl, x1, rfl, rfl⟩ := hw
  have ev := (show v_X2_between sp dy re a1 a2 a3 = ((v_X2_actByBetween sp dy re a1 a2 a3).1, (v_X2_actByBetween sp dy re a1 a2 a3).2.1, (v_X2_actByBetween sp dy re a1 a2 a3).2.2) from rfl)
  exact vx_ret (rt_i X hr (ad, (cf g ad x (v_X2_actByBetween sp dy re a1 a2 a3).2.1 dy la kn (v_X2_actByBetween sp dy re a1 a2 a3).2.2)) B (PO_of B) ⟨rfl, by unfold x_X2_between; rw [xo_none x1], by rw [ev], by rw [ev]⟩ rfl (Nat.le_of_ble_eq_true rfl) (Nat.le_of_ble_eq_true rfl) dX2_between_7)
def v_X2_until (sp : Nat → TR) (dy : Nat → TR) (re : Int32) (a1 : Int32) (a2 : Int32) (a3 : Int32) : Int32 × (Nat → TR) × Int32 := ((v_X2_actByBetween sp dy re a1 a2 a3).1, (v_X2_actByBetween sp dy re a1 a2 a3).2.1, (v_X2_actByBetween sp dy re a1 a2 a3).2.2)
def x_X2_until (a1 : Int32) (a2 : Int32) (a3 : Int32) : Option String := xo (x_X2_actByBetween a1 a2 a3) none
set_option maxHeartbeats 4000000 in
set_option maxRecDepth 100000 in
theorem c_X2_until (l : Launch) (hfl : l.stackTraces = false) (g : GG) (N : Nat) (ad : Nat → Nat) (x : Nat → va_E) (sp dy : Nat → TR) (la kn re : Int32) (hN : 23 ≤ N) (a1 : Int32) (a2 : Int32) (a3 : Int32) : XI l yX2_until cX2_until 4 (some .int) (rm 6 3 18) g [.ref (ad 0), .int a1, .int a2, .int a3] N ad (cf g ad x sp dy la kn re) N (fun E => x_X2_until a1 a2 a3 = some E) (fun r ad' f' => ad = ad' ∧ x_X2_until a1 a2 a3 = none ∧ (v_X2_until sp dy re a1 a2 a3).1 = r ∧ (cf g ad x (v_X2_until sp dy re a1 a2 a3).2.1 dy la kn (v_X2_until sp dy re a1 a2 a3).2.2) = f') := by
  intro sz
  refine mx_start (by decide) (Nat.le_of_ble_eq_true rfl) ?_
  intro p e s m args below meth c hsz X hr hex hA hK hT H locs B ls hl
  obtain ⟨hx, hb, hml, hown, hts, hlocks⟩ := id X
  have hl : lv_has ls 4 [(0, .ref (ad 0)), (1, .int a1), (2, .int a2), (3, .int a3)] := hl
  refine lv_aload_n hx hb dX2_until_0 rfl (lv_at hl 0 rfl) ?_
  refine lv_iload_n hx hb dX2_until_1 rfl (lv_at hl 1 rfl) ?_
  refine lv_iload_n hx hb dX2_until_2 rfl (lv_at hl 2 rfl) ?_
  refine lv_iload_n hx hb dX2_until_3 rfl (lv_at hl 3 rfl) ?_
  refine k_xi (k := 3) (n := 18) hex X hsz hA B (ux_V (rest := []) X (c_X2_actByBetween l hfl g N ad x sp dy la kn re hN a1 a2 a3 H.size) mw_X2_actByBetween md_X2_actByBetween rfl lk_X2_167 ⟨Nat.le_of_ble_eq_true rfl, Nat.le_of_ble_eq_true rfl⟩ hA hK hT B (pl_c hN 0 (by decide)) cf_0 rfl rfl hl.1 rfl (Nat.le_of_ble_eq_true rfl) dX2_until_4 ⟨Nat.le_of_ble_eq_true rfl, Nat.le_of_ble_eq_true rfl⟩) (Nat.le_of_ble_eq_true rfl) (Nat.le_of_ble_eq_true rfl) (Nat.le_of_ble_eq_true rfl) (Nat.le_of_ble_eq_true rfl) (fun E hE => by unfold x_X2_until; rw [xo_some hE]) (fun r ad' f' H locs hw B => ?_)
  obtain ⟨rfl, x1, rfl, rfl⟩ := hw
  have ev := (show v_X2_until sp dy re a1 a2 a3 = ((v_X2_actByBetween sp dy re a1 a2 a3).1, (v_X2_actByBetween sp dy re a1 a2 a3).2.1, (v_X2_actByBetween sp dy re a1 a2 a3).2.2) from rfl)
  exact vx_ret (rt_i X hr (ad, (cf g ad x (v_X2_actByBetween sp dy re a1 a2 a3).2.1 dy la kn (v_X2_actByBetween sp dy re a1 a2 a3).2.2)) B (PO_of B) ⟨rfl, by unfold x_X2_until; rw [xo_none x1], by rw [ev], by rw [ev]⟩ rfl (Nat.le_of_ble_eq_true rfl) (Nat.le_of_ble_eq_true rfl) dX2_until_7)
def v_X2_ofDate (dy : Nat → TR) (a1 : Int32) (a2 : Int32) : Int32 := (v_X0_number dy a1.toNatClampNeg a2)
def x_X2_ofDate (a1 : Int32) (a2 : Int32) : Option String := xo (x_X2_dateAt a1) (xo (x_X2_checkWhat a2 4) none)
set_option maxHeartbeats 4000000 in
set_option maxRecDepth 100000 in
theorem c_X2_ofDate (l : Launch) (hfl : l.stackTraces = false) (g : GG) (N : Nat) (ad : Nat → Nat) (x : Nat → va_E) (sp dy : Nat → TR) (la kn re : Int32) (hN : 23 ≤ N) (a1 : Int32) (a2 : Int32) : XI l yX2_ofDate cX2_ofDate 4 (some .int) (rm 4 2 12) g [.ref (ad 0), .int a1, .int a2] N ad (cf g ad x sp dy la kn re) N (fun E => x_X2_ofDate a1 a2 = some E) (fun r ad' f' => ad = ad' ∧ x_X2_ofDate a1 a2 = none ∧ (v_X2_ofDate dy a1 a2) = r ∧ (cf g ad x sp dy la kn re) = f') := by
  intro sz
  refine mx_start (by decide) (Nat.le_of_ble_eq_true rfl) ?_
  intro p e s m args below meth c hsz X hr hex hA hK hT H locs B ls hl
  obtain ⟨hx, hb, hml, hown, hts, hlocks⟩ := id X
  have hl : lv_has ls 4 [(0, .ref (ad 0)), (1, .int a1), (2, .int a2)] := hl
  refine lv_aload_n hx hb dX2_ofDate_0 rfl (lv_at hl 0 rfl) ?_
  refine lv_iload_n hx hb dX2_ofDate_1 rfl (lv_at hl 1 rfl) ?_
  refine k_xr (k := 1) (n := 6) hex X hsz hA B (ux_V (rest := []) X (c_X2_dateAt l hfl g N ad x sp dy la kn re hN a1 H.size) mw_X2_dateAt md_X2_dateAt rfl lk_X2_140 ⟨Nat.le_of_ble_eq_true rfl, Nat.le_of_ble_eq_true rfl⟩ hA hK hT B (pl_c hN 0 (by decide)) cf_0 rfl rfl hl.1 rfl (Nat.le_of_ble_eq_true rfl) dX2_ofDate_2 ⟨Nat.le_of_ble_eq_true rfl, Nat.le_of_ble_eq_true rfl⟩) (Nat.le_of_ble_eq_true rfl) (Nat.le_of_ble_eq_true rfl) (Nat.le_of_ble_eq_true rfl) (Nat.le_of_ble_eq_true rfl) (fun E hE => by unfold x_X2_ofDate; rw [xo_some hE]) (fun r ad' f' H locs hw B => ?_)
  obtain ⟨rfl, x1, rfl, rfl⟩ := hw
  refine lv_astore_n (lv' := [(3, .ref (ad (18 + a1.toNatClampNeg))), (0, .ref (ad 0)), (1, .int a1), (2, .int a2)]) hx hb dX2_ofDate_5 rfl hl (by decide) rfl (fun ls hl => ?_)
  refine lv_iload_n hx hb dX2_ofDate_6 rfl (lv_at hl 3 rfl) ?_
  refine lv_iconst (v := 4) hx hb dX2_ofDate_7 (by decide) ?_
  refine k_xv (k := 2) (n := 12) hex X hsz hA B (ux_S (rest := []) X (c_X2_checkWhat l hfl g N ad x sp dy la kn re hN a2 4 H.size) mw_X2_checkWhat md_X2_checkWhat rfl lk_X2_51 ⟨Nat.le_of_ble_eq_true rfl, Nat.le_of_ble_eq_true rfl⟩ hA hK hT B hl.1 rfl (Nat.le_of_ble_eq_true rfl) dX2_ofDate_8 ⟨Nat.le_of_ble_eq_true rfl, Nat.le_of_ble_eq_true rfl⟩) (Nat.le_of_ble_eq_true rfl) (Nat.le_of_ble_eq_true rfl) (Nat.le_of_ble_eq_true rfl) (Nat.le_of_ble_eq_true rfl) (fun E hE => by unfold x_X2_ofDate; rw [xo_none x1, xo_some hE]) (fun ad' f' H locs hw B => ?_)
  obtain ⟨rfl, x2, rfl⟩ := hw
  refine lv_aload_n hx hb dX2_ofDate_11 rfl (lv_at hl 0 rfl) ?_
  refine lv_iload_n hx hb dX2_ofDate_12 rfl (lv_at hl 3 rfl) ?_
  refine k_i (k := 2) (n := 12) hA B (u_VN (rest := []) X (c_X0_number l g N ad x sp dy la kn re hN a1.toNatClampNeg (Nat.lt_of_lt_of_le (xl_X2_dateAt x1) (by decide)) a2 H.size) mw_X0_number md_X0_number rfl lk_X2_171 ⟨Nat.le_of_ble_eq_true rfl, Nat.le_of_ble_eq_true rfl⟩ hA hK hT B (pl_dy hN (Nat.lt_of_lt_of_le (xl_X2_dateAt x1) (by decide))) (cf_dy (Nat.lt_of_lt_of_le (xl_X2_dateAt x1) (by decide))) rfl rfl hl.1 rfl (Nat.le_of_ble_eq_true rfl) dX2_ofDate_13 ⟨Nat.le_of_ble_eq_true rfl, Nat.le_of_ble_eq_true rfl⟩) (Nat.le_of_ble_eq_true rfl) (Nat.le_of_ble_eq_true rfl) (fun r ad' f' H locs hw B => ?_)
  obtain ⟨rfl, rfl, rfl⟩ := hw
  have ev := (show v_X2_ofDate dy a1 a2 = (v_X0_number dy a1.toNatClampNeg a2) from rfl)
  exact vx_ret (rt_i X hr (ad, (cf g ad x sp dy la kn re)) B (PO_of B) ⟨rfl, by unfold x_X2_ofDate; rw [xo_none x1, xo_none x2], by rw [ev], rfl⟩ rfl (Nat.le_of_ble_eq_true rfl) (Nat.le_of_ble_eq_true rfl) dX2_ofDate_16)
def v_X2_isToldBack (sp : Nat → TR) (dy : Nat → TR) (a1 : Int32) (a2 : Int32) : Int32 × (Nat → TR) × (Nat → TR) := if (v_X1_putBetween sp dy 12 a1.toNatClampNeg a2.toNatClampNeg).1 = 0 then (0, (v_X1_putBetween sp dy 12 a1.toNatClampNeg a2.toNatClampNeg).2, dy) else (if (v_X2_leads (v_X1_putBetween sp dy 12 a1.toNatClampNeg a2.toNatClampNeg).2 dy a1.toNatClampNeg 12 a2.toNatClampNeg).1 = 0 then (0, (v_X1_putBetween sp dy 12 a1.toNatClampNeg a2.toNatClampNeg).2, (v_X2_leads (v_X1_putBetween sp dy 12 a1.toNatClampNeg a2.toNatClampNeg).2 dy a1.toNatClampNeg 12 a2.toNatClampNeg).2) else (1, (v_X1_putBetween sp dy 12 a1.toNatClampNeg a2.toNatClampNeg).2, (v_X2_leads (v_X1_putBetween sp dy 12 a1.toNatClampNeg a2.toNatClampNeg).2 dy a1.toNatClampNeg 12 a2.toNatClampNeg).2))
def x_X2_isToldBack (sp : Nat → TR) (dy : Nat → TR) (a1 : Int32) (a2 : Int32) : Option String := xo (x_X2_dateAt a1) (xo (x_X2_dateAt a2) (if (v_X1_putBetween sp dy 12 a1.toNatClampNeg a2.toNatClampNeg).1 = 0 then none else (if (v_X2_leads (v_X1_putBetween sp dy 12 a1.toNatClampNeg a2.toNatClampNeg).2 dy a1.toNatClampNeg 12 a2.toNatClampNeg).1 = 0 then none else none)))
theorem b01_X2_isToldBack {sp : Nat → TR} {dy : Nat → TR} {a1 : Int32} {a2 : Int32} : (v_X2_isToldBack sp dy a1 a2).1 = 0 ∨ (v_X2_isToldBack sp dy a1 a2).1 = 1 := by
  unfold v_X2_isToldBack
  by_cases q1 : (v_X1_putBetween sp dy 12 a1.toNatClampNeg a2.toNatClampNeg).1 = 0
  · rw [if_pos q1]
    exact Or.inl rfl
  · rw [if_neg q1]
    by_cases q2 : (v_X2_leads (v_X1_putBetween sp dy 12 a1.toNatClampNeg a2.toNatClampNeg).2 dy a1.toNatClampNeg 12 a2.toNatClampNeg).1 = 0
    · rw [if_pos q2]
      exact Or.inl rfl
    · rw [if_neg q2]
      exact Or.inr rfl
set_option maxHeartbeats 4000000 in
set_option maxRecDepth 100000 in
theorem c_X2_isToldBack (l : Launch) (hfl : l.stackTraces = false) (g : GG) (N : Nat) (ad : Nat → Nat) (x : Nat → va_E) (sp dy : Nat → TR) (la kn re : Int32) (hN : 23 ≤ N) (a1 : Int32) (a2 : Int32) : XI l yX2_isToldBack cX2_isToldBack 5 (some .boolean) (rm 5 2 12) g [.ref (ad 0), .int a1, .int a2] N ad (cf g ad x sp dy la kn re) N (fun E => x_X2_isToldBack sp dy a1 a2 = some E) (fun r ad' f' => ad = ad' ∧ x_X2_isToldBack sp dy a1 a2 = none ∧ (v_X2_isToldBack sp dy a1 a2).1 = r ∧ (cf g ad x (v_X2_isToldBack sp dy a1 a2).2.1 (v_X2_isToldBack sp dy a1 a2).2.2 la kn re) = f') := by
  intro sz
  refine mx_start (by decide) (Nat.le_of_ble_eq_true rfl) ?_
  intro p e s m args below meth c hsz X hr hex hA hK hT H locs B ls hl
  obtain ⟨hx, hb, hml, hown, hts, hlocks⟩ := id X
  have hl : lv_has ls 5 [(0, .ref (ad 0)), (1, .int a1), (2, .int a2)] := hl
  refine lv_aload_n hx hb dX2_isToldBack_0 rfl (lv_at hl 0 rfl) ?_
  refine lv_iload_n hx hb dX2_isToldBack_1 rfl (lv_at hl 1 rfl) ?_
  refine k_xr (k := 1) (n := 6) hex X hsz hA B (ux_V (rest := []) X (c_X2_dateAt l hfl g N ad x sp dy la kn re hN a1 H.size) mw_X2_dateAt md_X2_dateAt rfl lk_X2_140 ⟨Nat.le_of_ble_eq_true rfl, Nat.le_of_ble_eq_true rfl⟩ hA hK hT B (pl_c hN 0 (by decide)) cf_0 rfl rfl hl.1 rfl (Nat.le_of_ble_eq_true rfl) dX2_isToldBack_2 ⟨Nat.le_of_ble_eq_true rfl, Nat.le_of_ble_eq_true rfl⟩) (Nat.le_of_ble_eq_true rfl) (Nat.le_of_ble_eq_true rfl) (Nat.le_of_ble_eq_true rfl) (Nat.le_of_ble_eq_true rfl) (fun E hE => by unfold x_X2_isToldBack; rw [xo_some hE]) (fun r ad' f' H locs hw B => ?_)
  obtain ⟨rfl, x1, rfl, rfl⟩ := hw
  refine lv_astore_n (lv' := [(3, .ref (ad (18 + a1.toNatClampNeg))), (0, .ref (ad 0)), (1, .int a1), (2, .int a2)]) hx hb dX2_isToldBack_5 rfl hl (by decide) rfl (fun ls hl => ?_)
  refine lv_aload_n hx hb dX2_isToldBack_6 rfl (lv_at hl 1 rfl) ?_
  refine lv_iload_n hx hb dX2_isToldBack_7 rfl (lv_at hl 3 rfl) ?_
  refine k_xr (k := 2) (n := 12) hex X hsz hA B (ux_V (rest := []) X (c_X2_dateAt l hfl g N ad x sp dy la kn re hN a2 H.size) mw_X2_dateAt md_X2_dateAt rfl lk_X2_140 ⟨Nat.le_of_ble_eq_true rfl, Nat.le_of_ble_eq_true rfl⟩ hA hK hT B (pl_c hN 0 (by decide)) cf_0 rfl rfl hl.1 rfl (Nat.le_of_ble_eq_true rfl) dX2_isToldBack_8 ⟨Nat.le_of_ble_eq_true rfl, Nat.le_of_ble_eq_true rfl⟩) (Nat.le_of_ble_eq_true rfl) (Nat.le_of_ble_eq_true rfl) (Nat.le_of_ble_eq_true rfl) (Nat.le_of_ble_eq_true rfl) (fun E hE => by unfold x_X2_isToldBack; rw [xo_none x1, xo_some hE]) (fun r ad' f' H locs hw B => ?_)
  obtain ⟨rfl, x2, rfl, rfl⟩ := hw
  refine lv_astore (lv' := [(4, .ref (ad (18 + a2.toNatClampNeg))), (3, .ref (ad (18 + a1.toNatClampNeg))), (0, .ref (ad 0)), (1, .int a1), (2, .int a2)]) hx hb dX2_isToldBack_11 hl (by decide) rfl (fun ls hl => ?_)
  refine lv_aload_n hx hb dX2_isToldBack_13 rfl (lv_at hl 2 rfl) ?_
  refine g_get (q := 0) (k := 6) X hK B rfl in_X2 (pl_c hN 0 (by decide)) cf_0 (by decide) lk_X2_25 rfl rfl dX2_isToldBack_14 ?_
  refine lv_aload_n hx hb dX2_isToldBack_17 rfl (lv_at hl 1 rfl) ?_
  refine lv_aload hx hb dX2_isToldBack_18 (lv_at hl 0 rfl) ?_
  refine k_i (k := 2) (n := 12) hA B (u_VN (rest := []) X (c_X1_putBetween l g N ad x sp dy la kn re hN 12 (by decide) a1.toNatClampNeg (Nat.lt_of_lt_of_le (xl_X2_dateAt x1) (by decide)) a2.toNatClampNeg (Nat.lt_of_lt_of_le (xl_X2_dateAt x2) (by decide)) H.size) mw_X1_putBetween md_X1_putBetween rfl lk_X2_173 ⟨Nat.le_of_ble_eq_true rfl, Nat.le_of_ble_eq_true rfl⟩ hA hK hT B (pl_sp hN (by decide)) (cf_sp (by decide)) rfl rfl hl.1 rfl (Nat.le_of_ble_eq_true rfl) dX2_isToldBack_20 ⟨Nat.le_of_ble_eq_true rfl, Nat.le_of_ble_eq_true rfl⟩) (Nat.le_of_ble_eq_true rfl) (Nat.le_of_ble_eq_true rfl) (fun r ad' f' H locs hw B => ?_)
  obtain ⟨rfl, rfl, rfl⟩ := hw
  refine lv_if_eq (tgt := 44) hx hb dX2_isToldBack_23 (by decide) (fun c3 => ?_) (fun c3 => ?_)
  · refine lv_iconst (v := 0) hx hb dX2_isToldBack_44 (by decide) ?_
    have ev := (show v_X2_isToldBack sp dy a1 a2 = (0, (v_X1_putBetween sp dy 12 a1.toNatClampNeg a2.toNatClampNeg).2, dy) from by unfold v_X2_isToldBack; rw [if_pos c3])
    exact vx_ret (rt_i X hr (ad, (cf g ad x (v_X1_putBetween sp dy 12 a1.toNatClampNeg a2.toNatClampNeg).2 dy la kn re)) B (PO_of B) ⟨rfl, by unfold x_X2_isToldBack; rw [xo_none x1, xo_none x2, if_pos c3], by rw [ev], by rw [ev]⟩ rfl (Nat.le_of_ble_eq_true rfl) (Nat.le_of_ble_eq_true rfl) dX2_isToldBack_45)
  · refine lv_aload_n hx hb dX2_isToldBack_26 rfl (lv_at hl 2 rfl) ?_
    refine lv_aload_n hx hb dX2_isToldBack_27 rfl (lv_at hl 1 rfl) ?_
    refine lv_aload_n hx hb dX2_isToldBack_28 rfl (lv_at hl 2 rfl) ?_
    refine g_get (q := 0) (k := 6) X hK B rfl in_X2 (pl_c hN 0 (by decide)) cf_0 (by decide) lk_X2_25 rfl rfl dX2_isToldBack_29 ?_
    refine lv_aload hx hb dX2_isToldBack_32 (lv_at hl 0 rfl) ?_
    refine k_i (k := 2) (n := 12) hA B (u_V (rest := []) X (c_X2_leads l g N ad x (v_X1_putBetween sp dy 12 a1.toNatClampNeg a2.toNatClampNeg).2 dy la kn re hN a1.toNatClampNeg (Nat.lt_of_lt_of_le (xl_X2_dateAt x1) (by decide)) 12 (by decide) a2.toNatClampNeg (Nat.lt_of_lt_of_le (xl_X2_dateAt x2) (by decide)) H.size) mw_X2_leads md_X2_leads rfl lk_X2_177 ⟨Nat.le_of_ble_eq_true rfl, Nat.le_of_ble_eq_true rfl⟩ hA hK hT B (pl_c hN 0 (by decide)) cf_0 rfl rfl hl.1 rfl (Nat.le_of_ble_eq_true rfl) dX2_isToldBack_34 ⟨Nat.le_of_ble_eq_true rfl, Nat.le_of_ble_eq_true rfl⟩) (Nat.le_of_ble_eq_true rfl) (Nat.le_of_ble_eq_true rfl) (fun r ad' f' H locs hw B => ?_)
    obtain ⟨rfl, rfl, rfl⟩ := hw
    refine lv_if_eq (tgt := 44) hx hb dX2_isToldBack_37 (by decide) (fun c4 => ?_) (fun c4 => ?_)
    · refine lv_iconst (v := 0) hx hb dX2_isToldBack_44 (by decide) ?_
      have ev := (show v_X2_isToldBack sp dy a1 a2 = (0, (v_X1_putBetween sp dy 12 a1.toNatClampNeg a2.toNatClampNeg).2, (v_X2_leads (v_X1_putBetween sp dy 12 a1.toNatClampNeg a2.toNatClampNeg).2 dy a1.toNatClampNeg 12 a2.toNatClampNeg).2) from by unfold v_X2_isToldBack; rw [if_neg c3, if_pos c4])
      exact vx_ret (rt_i X hr (ad, (cf g ad x (v_X1_putBetween sp dy 12 a1.toNatClampNeg a2.toNatClampNeg).2 (v_X2_leads (v_X1_putBetween sp dy 12 a1.toNatClampNeg a2.toNatClampNeg).2 dy a1.toNatClampNeg 12 a2.toNatClampNeg).2 la kn re)) B (PO_of B) ⟨rfl, by unfold x_X2_isToldBack; rw [xo_none x1, xo_none x2, if_neg c3, if_pos c4], by rw [ev], by rw [ev]⟩ rfl (Nat.le_of_ble_eq_true rfl) (Nat.le_of_ble_eq_true rfl) dX2_isToldBack_45)
    · refine lv_iconst (v := 1) hx hb dX2_isToldBack_40 (by decide) ?_
      refine lv_goto (tgt := 45) hx hb dX2_isToldBack_41 (by decide) ?_
      have ev := (show v_X2_isToldBack sp dy a1 a2 = (1, (v_X1_putBetween sp dy 12 a1.toNatClampNeg a2.toNatClampNeg).2, (v_X2_leads (v_X1_putBetween sp dy 12 a1.toNatClampNeg a2.toNatClampNeg).2 dy a1.toNatClampNeg 12 a2.toNatClampNeg).2) from by unfold v_X2_isToldBack; rw [if_neg c3, if_neg c4])
      exact vx_ret (rt_i X hr (ad, (cf g ad x (v_X1_putBetween sp dy 12 a1.toNatClampNeg a2.toNatClampNeg).2 (v_X2_leads (v_X1_putBetween sp dy 12 a1.toNatClampNeg a2.toNatClampNeg).2 dy a1.toNatClampNeg 12 a2.toNatClampNeg).2 la kn re)) B (PO_of B) ⟨rfl, by unfold x_X2_isToldBack; rw [xo_none x1, xo_none x2, if_neg c3, if_neg c4], by rw [ev], by rw [ev]⟩ rfl (Nat.le_of_ble_eq_true rfl) (Nat.le_of_ble_eq_true rfl) dX2_isToldBack_45)
def v_X2_order (dy : Nat → TR) (a1 : Int32) (a2 : Int32) : Int32 := (v_X0_orderTo dy a1.toNatClampNeg a2.toNatClampNeg)
def x_X2_order (a1 : Int32) (a2 : Int32) : Option String := xo (x_X2_dateAt a1) (xo (x_X2_dateAt a2) none)
set_option maxHeartbeats 4000000 in
set_option maxRecDepth 100000 in
theorem c_X2_order (l : Launch) (hfl : l.stackTraces = false) (g : GG) (N : Nat) (ad : Nat → Nat) (x : Nat → va_E) (sp dy : Nat → TR) (la kn re : Int32) (hN : 23 ≤ N) (a1 : Int32) (a2 : Int32) : XI l yX2_order cX2_order 4 (some .int) (rm 4 2 12) g [.ref (ad 0), .int a1, .int a2] N ad (cf g ad x sp dy la kn re) N (fun E => x_X2_order a1 a2 = some E) (fun r ad' f' => ad = ad' ∧ x_X2_order a1 a2 = none ∧ (v_X2_order dy a1 a2) = r ∧ (cf g ad x sp dy la kn re) = f') := by
  intro sz
  refine mx_start (by decide) (Nat.le_of_ble_eq_true rfl) ?_
  intro p e s m args below meth c hsz X hr hex hA hK hT H locs B ls hl
  obtain ⟨hx, hb, hml, hown, hts, hlocks⟩ := id X
  have hl : lv_has ls 4 [(0, .ref (ad 0)), (1, .int a1), (2, .int a2)] := hl
  refine lv_aload_n hx hb dX2_order_0 rfl (lv_at hl 0 rfl) ?_
  refine lv_iload_n hx hb dX2_order_1 rfl (lv_at hl 1 rfl) ?_
  refine k_xr (k := 1) (n := 6) hex X hsz hA B (ux_V (rest := []) X (c_X2_dateAt l hfl g N ad x sp dy la kn re hN a1 H.size) mw_X2_dateAt md_X2_dateAt rfl lk_X2_140 ⟨Nat.le_of_ble_eq_true rfl, Nat.le_of_ble_eq_true rfl⟩ hA hK hT B (pl_c hN 0 (by decide)) cf_0 rfl rfl hl.1 rfl (Nat.le_of_ble_eq_true rfl) dX2_order_2 ⟨Nat.le_of_ble_eq_true rfl, Nat.le_of_ble_eq_true rfl⟩) (Nat.le_of_ble_eq_true rfl) (Nat.le_of_ble_eq_true rfl) (Nat.le_of_ble_eq_true rfl) (Nat.le_of_ble_eq_true rfl) (fun E hE => by unfold x_X2_order; rw [xo_some hE]) (fun r ad' f' H locs hw B => ?_)
  obtain ⟨rfl, x1, rfl, rfl⟩ := hw
  refine lv_astore_n (lv' := [(3, .ref (ad (18 + a1.toNatClampNeg))), (0, .ref (ad 0)), (1, .int a1), (2, .int a2)]) hx hb dX2_order_5 rfl hl (by decide) rfl (fun ls hl => ?_)
  refine lv_aload_n hx hb dX2_order_6 rfl (lv_at hl 0 rfl) ?_
  refine lv_aload_n hx hb dX2_order_7 rfl (lv_at hl 1 rfl) ?_
  refine lv_iload_n hx hb dX2_order_8 rfl (lv_at hl 3 rfl) ?_
  refine k_xr (k := 2) (n := 12) hex X hsz hA B (ux_V (rest := [.ref (ad (18 + a1.toNatClampNeg))]) X (c_X2_dateAt l hfl g N ad x sp dy la kn re hN a2 H.size) mw_X2_dateAt md_X2_dateAt rfl lk_X2_140 ⟨Nat.le_of_ble_eq_true rfl, Nat.le_of_ble_eq_true rfl⟩ hA hK hT B (pl_c hN 0 (by decide)) cf_0 rfl rfl hl.1 rfl (Nat.le_of_ble_eq_true rfl) dX2_order_9 ⟨Nat.le_of_ble_eq_true rfl, Nat.le_of_ble_eq_true rfl⟩) (Nat.le_of_ble_eq_true rfl) (Nat.le_of_ble_eq_true rfl) (Nat.le_of_ble_eq_true rfl) (Nat.le_of_ble_eq_true rfl) (fun E hE => by unfold x_X2_order; rw [xo_none x1, xo_some hE]) (fun r ad' f' H locs hw B => ?_)
  obtain ⟨rfl, x2, rfl, rfl⟩ := hw
  refine k_i (k := 2) (n := 12) hA B (u_VN (rest := []) X (c_X0_orderTo l g N ad x sp dy la kn re hN a1.toNatClampNeg (Nat.lt_of_lt_of_le (xl_X2_dateAt x1) (by decide)) a2.toNatClampNeg (Nat.lt_of_lt_of_le (xl_X2_dateAt x2) (by decide)) H.size) mw_X0_orderTo md_X0_orderTo rfl lk_X2_181 ⟨Nat.le_of_ble_eq_true rfl, Nat.le_of_ble_eq_true rfl⟩ hA hK hT B (pl_dy hN (Nat.lt_of_lt_of_le (xl_X2_dateAt x1) (by decide))) (cf_dy (Nat.lt_of_lt_of_le (xl_X2_dateAt x1) (by decide))) rfl rfl hl.1 rfl (Nat.le_of_ble_eq_true rfl) dX2_order_12 ⟨Nat.le_of_ble_eq_true rfl, Nat.le_of_ble_eq_true rfl⟩) (Nat.le_of_ble_eq_true rfl) (Nat.le_of_ble_eq_true rfl) (fun r ad' f' H locs hw B => ?_)
  obtain ⟨rfl, rfl, rfl⟩ := hw
  have ev := (show v_X2_order dy a1 a2 = (v_X0_orderTo dy a1.toNatClampNeg a2.toNatClampNeg) from rfl)
  exact vx_ret (rt_i X hr (ad, (cf g ad x sp dy la kn re)) B (PO_of B) ⟨rfl, by unfold x_X2_order; rw [xo_none x1, xo_none x2], by rw [ev], rfl⟩ rfl (Nat.le_of_ble_eq_true rfl) (Nat.le_of_ble_eq_true rfl) dX2_order_15)
def v_X2_knock (kn : Int32) : Int32 × Int32 := (kn + 1, kn + 1)
set_option maxHeartbeats 4000000 in
set_option maxRecDepth 100000 in
theorem c_X2_knock (l : Launch) (g : GG) (N : Nat) (ad : Nat → Nat) (x : Nat → va_E) (sp dy : Nat → TR) (la kn re : Int32) (hN : 23 ≤ N) : KI l yX2_knock cX2_knock 1 (some .int) (rm 0 0 0) g [.ref (ad 0)] N ad (cf g ad x sp dy la kn re) N (fun r ad' f' => ad = ad' ∧ (v_X2_knock kn).1 = r ∧ (cf g ad x sp dy la (v_X2_knock kn).2 re) = f') := by
  intro sz
  refine mt_start (by decide) (Nat.le_of_ble_eq_true rfl) ?_
  intro p e s m args below meth c hsz X hr hnam hA hK hT H locs B ls hl
  obtain ⟨hx, hb, hml, hown, hts, hlocks⟩ := id X
  have hl : lv_has ls 1 [(0, .ref (ad 0))] := hl
  refine lv_aload_n hx hb dX2_knock_0 rfl (lv_at hl 0 rfl) ?_
  refine lv_dup hx hb dX2_knock_1 rfl ?_
  refine g_get (q := 0) (k := 4) X hK B rfl in_X2 (pl_c hN 0 (by decide)) cf_0 (by decide) lk_X2_185 rfl rfl dX2_knock_2 ?_
  refine lv_iconst (v := 1) hx hb dX2_knock_5 (by decide) ?_
  refine lv_iadd hx hb dX2_knock_6 ?_
  refine g_put (q := 0) (k := 4) X hK B rfl in_X2 tyX2_ok nmX2 (pl_c hN 0 (by decide)) cf_0 (by decide) lk_X2_185 rfl rfl rfl rfl rfl (Nat.le_of_ble_eq_true rfl) dX2_knock_7 (fun H locs B => ?_)
  have B : WB g (aw N ad sz) s.heap N ad (cf g ad x sp dy la (kn + 1) re) H locs := by rw [← cf_up_mn]; exact B
  refine lv_aload_n hx hb dX2_knock_10 rfl (lv_at hl 0 rfl) ?_
  refine g_get (q := 0) (k := 4) X hK B rfl in_X2 (pl_c hN 0 (by decide)) cf_0 (by decide) lk_X2_185 rfl rfl dX2_knock_11 ?_
  have ev := (show v_X2_knock kn = (kn + 1, kn + 1) from rfl)
  exact rt_i X hr (ad, (cf g ad x sp dy la (kn + 1) re)) B (PO_of B) ⟨rfl, by rw [ev], by rw [ev]⟩ rfl (Nat.le_of_ble_eq_true rfl) (Nat.le_of_ble_eq_true rfl) dX2_knock_14
def wX2_zeroCards_4 (sp : Nat → TR) : Nat → Int32 → Int32 → Int32
  | 0, nn, mn => 0
  | n + 1, nn, mn => if 4 ≤ nn then mn else (if (v_X1_isNothing sp nn.toNatClampNeg) = 0 then (wX2_zeroCards_4 sp n (nn + 1) (mn + 0)) else (wX2_zeroCards_4 sp n (nn + 1) (mn + 1)))
def v_X2_zeroCards (sp : Nat → TR) : Int32 := wX2_zeroCards_4 sp (((4 : Int32).toInt - (0 : Int32).toInt).toNat + 1) 0 0
set_option maxHeartbeats 4000000 in
set_option maxRecDepth 100000 in
theorem c_X2_zeroCards (l : Launch) (g : GG) (N : Nat) (ad : Nat → Nat) (x : Nat → va_E) (sp dy : Nat → TR) (la kn re : Int32) (hN : 23 ≤ N) : KI l yX2_zeroCards cX2_zeroCards 3 (some .int) (rm 1 0 0) g [.ref (ad 0)] N ad (cf g ad x sp dy la kn re) N (fun r ad' f' => ad = ad' ∧ (v_X2_zeroCards sp) = r ∧ (cf g ad x sp dy la kn re) = f') := by
  intro sz
  refine mt_start (by decide) (Nat.le_of_ble_eq_true rfl) ?_
  intro p e s m args below meth c hsz X hr hnam hA hK hT H locs B ls hl
  obtain ⟨hx, hb, hml, hown, hts, hlocks⟩ := id X
  have hl : lv_has ls 3 [(0, .ref (ad 0))] := hl
  refine lv_iconst (v := 0) hx hb dX2_zeroCards_0 (by decide) ?_
  refine lv_istore_n (lv' := [(1, .int 0), (0, .ref (ad 0))]) hx hb dX2_zeroCards_1 rfl hl (by decide) rfl (fun ls hl => ?_)
  refine lv_iconst (v := 0) hx hb dX2_zeroCards_2 (by decide) ?_
  refine lv_istore_n (lv' := [(2, .int 0), (1, .int 0), (0, .ref (ad 0))]) hx hb dX2_zeroCards_3 rfl hl (by decide) rfl (fun ls hl => ?_)
  have loop1 : ∀ (n1 : Nat) (nn : Int32) (mn : Int32) (H : Heap) (locs : List Loc), ((4 : Int32).toInt - nn.toInt).toNat < n1 → v_X2_zeroCards sp = wX2_zeroCards_4 sp n1 nn mn → ¬ nn < 0 → WB g (aw N ad sz) s.heap N ad (cf g ad x sp dy la kn re) H locs → ∀ ls : Array Slot, lv_has ls 3 [(2, .int nn), (1, .int mn), (0, .ref (ad 0))] → W p l e (rm 1 0 0) s m args below meth c H locs 0 0 (MQ below (va_Qi (fun r (u : WS) => (fun r ad' f' => ad = ad' ∧ (v_X2_zeroCards sp) = r ∧ (cf g ad x sp dy la kn re) = f') r u.1 u.2) (fun u t => PO g N u.1 u.2 (aw N ad sz) t) (aw N ad sz)) args s (rm 1 0 0).cells (rm 1 0 0).slots (aw N ad sz)) (F0 m 4 ls []) := by
    intro n1
    induction n1 with
    | zero => intro nn mn H locs hn; exact absurd hn (Nat.not_lt_zero _)
    | succ n1 ih1 =>
      intro nn mn H locs hn1 he1 hk0 B ls hl
      refine lv_iload_n hx hb dX2_zeroCards_4 rfl (lv_at hl 0 rfl) ?_
      refine lv_iconst (v := 4) hx hb dX2_zeroCards_5 (by decide) ?_
      refine lv_icmp_ge (tgt := 35) hx hb dX2_zeroCards_6 (by decide) (fun c2 => ?_) (fun c2 => ?_)
      · refine lv_iload_n hx hb dX2_zeroCards_35 rfl (lv_at hl 1 rfl) ?_
        have ev := (show v_X2_zeroCards sp = mn from he1.trans (by rw [wX2_zeroCards_4, if_pos c2]))
        exact rt_i X hr (ad, (cf g ad x sp dy la kn re)) B (PO_of B) ⟨rfl, by rw [ev], rfl⟩ rfl (Nat.le_of_ble_eq_true rfl) (Nat.le_of_ble_eq_true rfl) dX2_zeroCards_36
      · refine lv_iload_n hx hb dX2_zeroCards_9 rfl (lv_at hl 1 rfl) ?_
        refine lv_aload_n hx hb dX2_zeroCards_10 rfl (lv_at hl 2 rfl) ?_
        refine g_get (q := 0) (k := 0) X hK B rfl in_X2 (pl_c hN 0 (by decide)) cf_0 (by decide) lk_X2_11 rfl rfl dX2_zeroCards_11 ?_
        refine lv_iload_n hx hb dX2_zeroCards_14 rfl (lv_at hl 0 rfl) ?_
        refine g_aald (q := 1) (t0 := 3) X hK B (pl_c hN 1 (by decide)) cf_1 rfl rfl (ix_in (n := 4) hk0 c2 rfl) dX2_zeroCards_15 ?_
        have h3 : nn.toNatClampNeg < 14 := by have := (ix_lt (n := 4) hk0 c2 rfl); omega
        refine k_i (k := 0) (n := 0) hA B (u_VN (rest := [.int mn]) X (c_X1_isNothing l g N ad x sp dy la kn re hN nn.toNatClampNeg h3 H.size) mw_X1_isNothing md_X1_isNothing rfl lk_X2_116 ⟨Nat.le_of_ble_eq_true rfl, Nat.le_of_ble_eq_true rfl⟩ hA hK hT B (pl_sp hN h3) (cf_sp h3) rfl rfl hl.1 rfl (Nat.le_of_ble_eq_true rfl) dX2_zeroCards_16 ⟨Nat.le_of_ble_eq_true rfl, Nat.le_of_ble_eq_true rfl⟩) (Nat.le_of_ble_eq_true rfl) (Nat.le_of_ble_eq_true rfl) (fun r ad' f' H locs hw B => ?_)
        obtain ⟨rfl, rfl, rfl⟩ := hw
        refine lv_if_eq (tgt := 26) hx hb dX2_zeroCards_19 (by decide) (fun c4 => ?_) (fun c4 => ?_)
        · refine lv_iconst (v := 0) hx hb dX2_zeroCards_26 (by decide) ?_
          refine lv_iadd hx hb dX2_zeroCards_27 ?_
          refine lv_istore_n (lv' := [(1, .int (mn + 0)), (2, .int nn), (0, .ref (ad 0))]) hx hb dX2_zeroCards_28 rfl hl (by decide) rfl (fun ls hl => ?_)
          refine lv_iinc (v := nn + 1) (lv' := [(2, .int (nn + 1)), (1, .int (mn + 0)), (0, .ref (ad 0))]) hx hb dX2_zeroCards_29 hl (k := 1) rfl rfl (by decide) rfl (fun ls hl => ?_)
          refine lv_goto (tgt := 4) hx hb dX2_zeroCards_32 (by decide) ?_
          exact ih1 (nn + 1) (mn + 0) H locs (fu_le c2 hn1) (show v_X2_zeroCards sp = wX2_zeroCards_4 sp n1 (nn + 1) (mn + 0) from he1.trans (by rw [wX2_zeroCards_4, if_neg c2, if_pos c4])) (inc_nn hk0 c2) B ls (lv_sub hl [0, 1, 2] rfl)
        · refine lv_iconst (v := 1) hx hb dX2_zeroCards_22 (by decide) ?_
          refine lv_goto (tgt := 27) hx hb dX2_zeroCards_23 (by decide) ?_
          refine lv_iadd hx hb dX2_zeroCards_27 ?_
          refine lv_istore_n (lv' := [(1, .int (mn + 1)), (2, .int nn), (0, .ref (ad 0))]) hx hb dX2_zeroCards_28 rfl hl (by decide) rfl (fun ls hl => ?_)
          refine lv_iinc (v := nn + 1) (lv' := [(2, .int (nn + 1)), (1, .int (mn + 1)), (0, .ref (ad 0))]) hx hb dX2_zeroCards_29 hl (k := 1) rfl rfl (by decide) rfl (fun ls hl => ?_)
          refine lv_goto (tgt := 4) hx hb dX2_zeroCards_32 (by decide) ?_
          exact ih1 (nn + 1) (mn + 1) H locs (fu_le c2 hn1) (show v_X2_zeroCards sp = wX2_zeroCards_4 sp n1 (nn + 1) (mn + 1) from he1.trans (by rw [wX2_zeroCards_4, if_neg c2, if_neg c4])) (inc_nn hk0 c2) B ls (lv_sub hl [0, 1, 2] rfl)
  exact loop1 (((4 : Int32).toInt - (0 : Int32).toInt).toNat + 1) 0 0 H locs (Nat.lt_succ_self _) (show v_X2_zeroCards sp = wX2_zeroCards_4 sp (((4 : Int32).toInt - (0 : Int32).toInt).toNat + 1) 0 0 from rfl) (by decide) B ls hl
def wX2_negativeCards_4 (sp : Nat → TR) : Nat → Int32 → Int32 → Int32
  | 0, nn, mn => 0
  | n + 1, nn, mn => if 4 ≤ nn then mn else (if (v_X1_isBelowZero sp nn.toNatClampNeg) = 0 then (wX2_negativeCards_4 sp n (nn + 1) (mn + 0)) else (wX2_negativeCards_4 sp n (nn + 1) (mn + 1)))
def v_X2_negativeCards (sp : Nat → TR) : Int32 := wX2_negativeCards_4 sp (((4 : Int32).toInt - (0 : Int32).toInt).toNat + 1) 0 0
set_option maxHeartbeats 4000000 in
set_option maxRecDepth 100000 in
theorem c_X2_negativeCards (l : Launch) (g : GG) (N : Nat) (ad : Nat → Nat) (x : Nat → va_E) (sp dy : Nat → TR) (la kn re : Int32) (hN : 23 ≤ N) : KI l yX2_negativeCards cX2_negativeCards 3 (some .int) (rm 1 0 0) g [.ref (ad 0)] N ad (cf g ad x sp dy la kn re) N (fun r ad' f' => ad = ad' ∧ (v_X2_negativeCards sp) = r ∧ (cf g ad x sp dy la kn re) = f') := by
  intro sz
  refine mt_start (by decide) (Nat.le_of_ble_eq_true rfl) ?_
  intro p e s m args below meth c hsz X hr hnam hA hK hT H locs B ls hl
  obtain ⟨hx, hb, hml, hown, hts, hlocks⟩ := id X
  have hl : lv_has ls 3 [(0, .ref (ad 0))] := hl
  refine lv_iconst (v := 0) hx hb dX2_negativeCards_0 (by decide) ?_
  refine lv_istore_n (lv' := [(1, .int 0), (0, .ref (ad 0))]) hx hb dX2_negativeCards_1 rfl hl (by decide) rfl (fun ls hl => ?_)
  refine lv_iconst (v := 0) hx hb dX2_negativeCards_2 (by decide) ?_
  refine lv_istore_n (lv' := [(2, .int 0), (1, .int 0), (0, .ref (ad 0))]) hx hb dX2_negativeCards_3 rfl hl (by decide) rfl (fun ls hl => ?_)
  have loop1 : ∀ (n1 : Nat) (nn : Int32) (mn : Int32) (H : Heap) (locs : List Loc), ((4 : Int32).toInt - nn.toInt).toNat < n1 → v_X2_negativeCards sp = wX2_negativeCards_4 sp n1 nn mn → ¬ nn < 0 → WB g (aw N ad sz) s.heap N ad (cf g ad x sp dy la kn re) H locs → ∀ ls : Array Slot, lv_has ls 3 [(2, .int nn), (1, .int mn), (0, .ref (ad 0))] → W p l e (rm 1 0 0) s m args below meth c H locs 0 0 (MQ below (va_Qi (fun r (u : WS) => (fun r ad' f' => ad = ad' ∧ (v_X2_negativeCards sp) = r ∧ (cf g ad x sp dy la kn re) = f') r u.1 u.2) (fun u t => PO g N u.1 u.2 (aw N ad sz) t) (aw N ad sz)) args s (rm 1 0 0).cells (rm 1 0 0).slots (aw N ad sz)) (F0 m 4 ls []) := by
    intro n1
    induction n1 with
    | zero => intro nn mn H locs hn; exact absurd hn (Nat.not_lt_zero _)
    | succ n1 ih1 =>
      intro nn mn H locs hn1 he1 hk0 B ls hl
      refine lv_iload_n hx hb dX2_negativeCards_4 rfl (lv_at hl 0 rfl) ?_
      refine lv_iconst (v := 4) hx hb dX2_negativeCards_5 (by decide) ?_
      refine lv_icmp_ge (tgt := 35) hx hb dX2_negativeCards_6 (by decide) (fun c2 => ?_) (fun c2 => ?_)
      · refine lv_iload_n hx hb dX2_negativeCards_35 rfl (lv_at hl 1 rfl) ?_
        have ev := (show v_X2_negativeCards sp = mn from he1.trans (by rw [wX2_negativeCards_4, if_pos c2]))
        exact rt_i X hr (ad, (cf g ad x sp dy la kn re)) B (PO_of B) ⟨rfl, by rw [ev], rfl⟩ rfl (Nat.le_of_ble_eq_true rfl) (Nat.le_of_ble_eq_true rfl) dX2_negativeCards_36
      · refine lv_iload_n hx hb dX2_negativeCards_9 rfl (lv_at hl 1 rfl) ?_
        refine lv_aload_n hx hb dX2_negativeCards_10 rfl (lv_at hl 2 rfl) ?_
        refine g_get (q := 0) (k := 0) X hK B rfl in_X2 (pl_c hN 0 (by decide)) cf_0 (by decide) lk_X2_11 rfl rfl dX2_negativeCards_11 ?_
        refine lv_iload_n hx hb dX2_negativeCards_14 rfl (lv_at hl 0 rfl) ?_
        refine g_aald (q := 1) (t0 := 3) X hK B (pl_c hN 1 (by decide)) cf_1 rfl rfl (ix_in (n := 4) hk0 c2 rfl) dX2_negativeCards_15 ?_
        have h3 : nn.toNatClampNeg < 14 := by have := (ix_lt (n := 4) hk0 c2 rfl); omega
        refine k_i (k := 0) (n := 0) hA B (u_VN (rest := [.int mn]) X (c_X1_isBelowZero l g N ad x sp dy la kn re hN nn.toNatClampNeg h3 H.size) mw_X1_isBelowZero md_X1_isBelowZero rfl lk_X2_120 ⟨Nat.le_of_ble_eq_true rfl, Nat.le_of_ble_eq_true rfl⟩ hA hK hT B (pl_sp hN h3) (cf_sp h3) rfl rfl hl.1 rfl (Nat.le_of_ble_eq_true rfl) dX2_negativeCards_16 ⟨Nat.le_of_ble_eq_true rfl, Nat.le_of_ble_eq_true rfl⟩) (Nat.le_of_ble_eq_true rfl) (Nat.le_of_ble_eq_true rfl) (fun r ad' f' H locs hw B => ?_)
        obtain ⟨rfl, rfl, rfl⟩ := hw
        refine lv_if_eq (tgt := 26) hx hb dX2_negativeCards_19 (by decide) (fun c4 => ?_) (fun c4 => ?_)
        · refine lv_iconst (v := 0) hx hb dX2_negativeCards_26 (by decide) ?_
          refine lv_iadd hx hb dX2_negativeCards_27 ?_
          refine lv_istore_n (lv' := [(1, .int (mn + 0)), (2, .int nn), (0, .ref (ad 0))]) hx hb dX2_negativeCards_28 rfl hl (by decide) rfl (fun ls hl => ?_)
          refine lv_iinc (v := nn + 1) (lv' := [(2, .int (nn + 1)), (1, .int (mn + 0)), (0, .ref (ad 0))]) hx hb dX2_negativeCards_29 hl (k := 1) rfl rfl (by decide) rfl (fun ls hl => ?_)
          refine lv_goto (tgt := 4) hx hb dX2_negativeCards_32 (by decide) ?_
          exact ih1 (nn + 1) (mn + 0) H locs (fu_le c2 hn1) (show v_X2_negativeCards sp = wX2_negativeCards_4 sp n1 (nn + 1) (mn + 0) from he1.trans (by rw [wX2_negativeCards_4, if_neg c2, if_pos c4])) (inc_nn hk0 c2) B ls (lv_sub hl [0, 1, 2] rfl)
        · refine lv_iconst (v := 1) hx hb dX2_negativeCards_22 (by decide) ?_
          refine lv_goto (tgt := 27) hx hb dX2_negativeCards_23 (by decide) ?_
          refine lv_iadd hx hb dX2_negativeCards_27 ?_
          refine lv_istore_n (lv' := [(1, .int (mn + 1)), (2, .int nn), (0, .ref (ad 0))]) hx hb dX2_negativeCards_28 rfl hl (by decide) rfl (fun ls hl => ?_)
          refine lv_iinc (v := nn + 1) (lv' := [(2, .int (nn + 1)), (1, .int (mn + 1)), (0, .ref (ad 0))]) hx hb dX2_negativeCards_29 hl (k := 1) rfl rfl (by decide) rfl (fun ls hl => ?_)
          refine lv_goto (tgt := 4) hx hb dX2_negativeCards_32 (by decide) ?_
          exact ih1 (nn + 1) (mn + 1) H locs (fu_le c2 hn1) (show v_X2_negativeCards sp = wX2_negativeCards_4 sp n1 (nn + 1) (mn + 1) from he1.trans (by rw [wX2_negativeCards_4, if_neg c2, if_neg c4])) (inc_nn hk0 c2) B ls (lv_sub hl [0, 1, 2] rfl)
  exact loop1 (((4 : Int32).toInt - (0 : Int32).toInt).toNat + 1) 0 0 H locs (Nat.lt_succ_self _) (show v_X2_negativeCards sp = wX2_negativeCards_4 sp (((4 : Int32).toInt - (0 : Int32).toInt).toNat + 1) 0 0 from rfl) (by decide) B ls hl
def v_X2_ofHouse (sp : Nat → TR) (la : Int32) (kn : Int32) (re : Int32) (a1 : Int32) : Int32 := if a1 = 0 then kn else (if a1 = 1 then re else (if a1 = 2 then la else (if a1 = 3 then (v_X2_zeroCards sp) else (v_X2_negativeCards sp))))
set_option maxHeartbeats 4000000 in
set_option maxRecDepth 100000 in
theorem c_X2_ofHouse (l : Launch) (g : GG) (N : Nat) (ad : Nat → Nat) (x : Nat → va_E) (sp dy : Nat → TR) (la kn re : Int32) (hN : 23 ≤ N) (a1 : Int32) : KI l yX2_ofHouse cX2_ofHouse 2 (some .int) (rm 2 0 0) g [.ref (ad 0), .int a1] N ad (cf g ad x sp dy la kn re) N (fun r ad' f' => ad = ad' ∧ (v_X2_ofHouse sp la kn re a1) = r ∧ (cf g ad x sp dy la kn re) = f') := by
  intro sz
  refine mt_start (by decide) (Nat.le_of_ble_eq_true rfl) ?_
  intro p e s m args below meth c hsz X hr hnam hA hK hT H locs B ls hl
  obtain ⟨hx, hb, hml, hown, hts, hlocks⟩ := id X
  have hl : lv_has ls 2 [(0, .ref (ad 0)), (1, .int a1)] := hl
  refine lv_iload_n hx hb dX2_ofHouse_0 rfl (lv_at hl 1 rfl) ?_
  by_cases c1 : a1 = 0
  · refine lv_tableIn (tgt := 32) hx hb dX2_ofHouse_1 (by rw [c1]; decide) (by rw [c1]; decide) (by rw [c1]; rfl) (by decide) ?_
    refine lv_aload_n hx hb dX2_ofHouse_32 rfl (lv_at hl 0 rfl) ?_
    refine g_get (q := 0) (k := 4) X hK B rfl in_X2 (pl_c hN 0 (by decide)) cf_0 (by decide) lk_X2_185 rfl rfl dX2_ofHouse_33 ?_
    have ev := (show v_X2_ofHouse sp la kn re a1 = kn from by unfold v_X2_ofHouse; rw [if_pos c1])
    exact rt_i X hr (ad, (cf g ad x sp dy la kn re)) B (PO_of B) ⟨rfl, by rw [ev], rfl⟩ rfl (Nat.le_of_ble_eq_true rfl) (Nat.le_of_ble_eq_true rfl) dX2_ofHouse_36
  · by_cases c2 : a1 = 1
    · refine lv_tableIn (tgt := 37) hx hb dX2_ofHouse_1 (by rw [c2]; decide) (by rw [c2]; decide) (by rw [c2]; rfl) (by decide) ?_
      refine lv_aload_n hx hb dX2_ofHouse_37 rfl (lv_at hl 0 rfl) ?_
      refine g_get (q := 0) (k := 5) X hK B rfl in_X2 (pl_c hN 0 (by decide)) cf_0 (by decide) lk_X2_236 rfl rfl dX2_ofHouse_38 ?_
      have ev := (show v_X2_ofHouse sp la kn re a1 = re from by unfold v_X2_ofHouse; rw [if_neg c1, if_pos c2])
      exact rt_i X hr (ad, (cf g ad x sp dy la kn re)) B (PO_of B) ⟨rfl, by rw [ev], rfl⟩ rfl (Nat.le_of_ble_eq_true rfl) (Nat.le_of_ble_eq_true rfl) dX2_ofHouse_41
    · by_cases c3 : a1 = 2
      · refine lv_tableIn (tgt := 42) hx hb dX2_ofHouse_1 (by rw [c3]; decide) (by rw [c3]; decide) (by rw [c3]; rfl) (by decide) ?_
        refine lv_aload_n hx hb dX2_ofHouse_42 rfl (lv_at hl 0 rfl) ?_
        refine g_get (q := 0) (k := 3) X hK B rfl in_X2 (pl_c hN 0 (by decide)) cf_0 (by decide) lk_X2_91 rfl rfl dX2_ofHouse_43 ?_
        have ev := (show v_X2_ofHouse sp la kn re a1 = la from by unfold v_X2_ofHouse; rw [if_neg c1, if_neg c2, if_pos c3])
        exact rt_i X hr (ad, (cf g ad x sp dy la kn re)) B (PO_of B) ⟨rfl, by rw [ev], rfl⟩ rfl (Nat.le_of_ble_eq_true rfl) (Nat.le_of_ble_eq_true rfl) dX2_ofHouse_46
      · by_cases c4 : a1 = 3
        · refine lv_tableIn (tgt := 47) hx hb dX2_ofHouse_1 (by rw [c4]; decide) (by rw [c4]; decide) (by rw [c4]; rfl) (by decide) ?_
          refine lv_aload_n hx hb dX2_ofHouse_47 rfl (lv_at hl 0 rfl) ?_
          refine k_i (k := 0) (n := 0) hA B (u_V (rest := []) X (c_X2_zeroCards l g N ad x sp dy la kn re hN H.size) mw_X2_zeroCards md_X2_zeroCards rfl lk_X2_245 ⟨Nat.le_of_ble_eq_true rfl, Nat.le_of_ble_eq_true rfl⟩ hA hK hT B (pl_c hN 0 (by decide)) cf_0 rfl rfl hl.1 rfl (Nat.le_of_ble_eq_true rfl) dX2_ofHouse_48 ⟨Nat.le_of_ble_eq_true rfl, Nat.le_of_ble_eq_true rfl⟩) (Nat.le_of_ble_eq_true rfl) (Nat.le_of_ble_eq_true rfl) (fun r ad' f' H locs hw B => ?_)
          obtain ⟨rfl, rfl, rfl⟩ := hw
          have ev := (show v_X2_ofHouse sp la kn re a1 = (v_X2_zeroCards sp) from by unfold v_X2_ofHouse; rw [if_neg c1, if_neg c2, if_neg c3, if_pos c4])
          exact rt_i X hr (ad, (cf g ad x sp dy la kn re)) B (PO_of B) ⟨rfl, by rw [ev], rfl⟩ rfl (Nat.le_of_ble_eq_true rfl) (Nat.le_of_ble_eq_true rfl) dX2_ofHouse_51
        · have sc1 : a1.toInt ≠ 0 := sw_ne c1 rfl
          have sc2 : a1.toInt ≠ 1 := sw_ne c2 rfl
          have sc3 : a1.toInt ≠ 2 := sw_ne c3 rfl
          have sc4 : a1.toInt ≠ 3 := sw_ne c4 rfl
          refine lv_tableOut (tgt := 52) hx hb dX2_ofHouse_1 (by have := a1.toInt; omega) (by decide) ?_
          refine lv_aload_n hx hb dX2_ofHouse_52 rfl (lv_at hl 0 rfl) ?_
          refine k_i (k := 0) (n := 0) hA B (u_V (rest := []) X (c_X2_negativeCards l g N ad x sp dy la kn re hN H.size) mw_X2_negativeCards md_X2_negativeCards rfl lk_X2_248 ⟨Nat.le_of_ble_eq_true rfl, Nat.le_of_ble_eq_true rfl⟩ hA hK hT B (pl_c hN 0 (by decide)) cf_0 rfl rfl hl.1 rfl (Nat.le_of_ble_eq_true rfl) dX2_ofHouse_53 ⟨Nat.le_of_ble_eq_true rfl, Nat.le_of_ble_eq_true rfl⟩) (Nat.le_of_ble_eq_true rfl) (Nat.le_of_ble_eq_true rfl) (fun r ad' f' H locs hw B => ?_)
          obtain ⟨rfl, rfl, rfl⟩ := hw
          have ev := (show v_X2_ofHouse sp la kn re a1 = (v_X2_negativeCards sp) from by unfold v_X2_ofHouse; rw [if_neg c1, if_neg c2, if_neg c3, if_neg c4])
          exact rt_i X hr (ad, (cf g ad x sp dy la kn re)) B (PO_of B) ⟨rfl, by rw [ev], rfl⟩ rfl (Nat.le_of_ble_eq_true rfl) (Nat.le_of_ble_eq_true rfl) dX2_ofHouse_56
def v_X2_house (sp : Nat → TR) (la : Int32) (kn : Int32) (re : Int32) (a1 : Int32) : Int32 := (v_X2_ofHouse sp la kn re a1)
def x_X2_house (a1 : Int32) : Option String := xo (x_X2_checkWhat a1 5) none
set_option maxHeartbeats 4000000 in
set_option maxRecDepth 100000 in
theorem c_X2_house (l : Launch) (hfl : l.stackTraces = false) (g : GG) (N : Nat) (ad : Nat → Nat) (x : Nat → va_E) (sp dy : Nat → TR) (la kn re : Int32) (hN : 23 ≤ N) (a1 : Int32) : XI l yX2_house cX2_house 2 (some .int) (rm 3 1 6) g [.ref (ad 0), .int a1] N ad (cf g ad x sp dy la kn re) N (fun E => x_X2_house a1 = some E) (fun r ad' f' => ad = ad' ∧ x_X2_house a1 = none ∧ (v_X2_house sp la kn re a1) = r ∧ (cf g ad x sp dy la kn re) = f') := by
  intro sz
  refine mx_start (by decide) (Nat.le_of_ble_eq_true rfl) ?_
  intro p e s m args below meth c hsz X hr hex hA hK hT H locs B ls hl
  obtain ⟨hx, hb, hml, hown, hts, hlocks⟩ := id X
  have hl : lv_has ls 2 [(0, .ref (ad 0)), (1, .int a1)] := hl
  refine lv_iload_n hx hb dX2_house_0 rfl (lv_at hl 1 rfl) ?_
  refine lv_iconst (v := 5) hx hb dX2_house_1 (by decide) ?_
  refine k_xv (k := 1) (n := 6) hex X hsz hA B (ux_S (rest := []) X (c_X2_checkWhat l hfl g N ad x sp dy la kn re hN a1 5 H.size) mw_X2_checkWhat md_X2_checkWhat rfl lk_X2_51 ⟨Nat.le_of_ble_eq_true rfl, Nat.le_of_ble_eq_true rfl⟩ hA hK hT B hl.1 rfl (Nat.le_of_ble_eq_true rfl) dX2_house_2 ⟨Nat.le_of_ble_eq_true rfl, Nat.le_of_ble_eq_true rfl⟩) (Nat.le_of_ble_eq_true rfl) (Nat.le_of_ble_eq_true rfl) (Nat.le_of_ble_eq_true rfl) (Nat.le_of_ble_eq_true rfl) (fun E hE => by unfold x_X2_house; rw [xo_some hE]) (fun ad' f' H locs hw B => ?_)
  obtain ⟨rfl, x1, rfl⟩ := hw
  refine lv_aload_n hx hb dX2_house_5 rfl (lv_at hl 0 rfl) ?_
  refine lv_iload_n hx hb dX2_house_6 rfl (lv_at hl 1 rfl) ?_
  refine k_i (k := 1) (n := 6) hA B (u_V (rest := []) X (c_X2_ofHouse l g N ad x sp dy la kn re hN a1 H.size) mw_X2_ofHouse md_X2_ofHouse rfl lk_X2_188 ⟨Nat.le_of_ble_eq_true rfl, Nat.le_of_ble_eq_true rfl⟩ hA hK hT B (pl_c hN 0 (by decide)) cf_0 rfl rfl hl.1 rfl (Nat.le_of_ble_eq_true rfl) dX2_house_7 ⟨Nat.le_of_ble_eq_true rfl, Nat.le_of_ble_eq_true rfl⟩) (Nat.le_of_ble_eq_true rfl) (Nat.le_of_ble_eq_true rfl) (fun r ad' f' H locs hw B => ?_)
  obtain ⟨rfl, rfl, rfl⟩ := hw
  have ev := (show v_X2_house sp la kn re a1 = (v_X2_ofHouse sp la kn re a1) from rfl)
  exact vx_ret (rt_i X hr (ad, (cf g ad x sp dy la kn re)) B (PO_of B) ⟨rfl, by unfold x_X2_house; rw [xo_none x1], by rw [ev], rfl⟩ rfl (Nat.le_of_ble_eq_true rfl) (Nat.le_of_ble_eq_true rfl) dX2_house_10)
